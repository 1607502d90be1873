/-! one tick, boiler by boiler -/
section BOIL
variable {N Y K i f : Nat} {y t : Pg}
theorem up_cg {j k : Nat} {v : Int32} (h : t k = y k) : up t j v k = up y j v k := by
  unfold up
  split
  · rfl
  · exact h
theorem inc_cg {j k : Nat} {v : Int32} (h : t k = y k) (hj : t j = y j) : inc t j v k = inc y j v k := by
  unfold inc
  rw [hj]
  exact up_cg h
/-- what a boiler's work does to its own places hangs on these alone -/
theorem wkP_cg (h : ∀ f, f < 7 → t (30 + 7 * i + f) = y (30 + 7 * i + f)) (hf : f < 7) : wkP t i (30 + 7 * i + f) = wkP y i (30 + 7 * i + f) := by
  have h0 : t (30 + 7 * i) = y (30 + 7 * i) := h 0 (by decide)
  have h2 := h 2 (by decide)
  have h3 := h 3 (by decide)
  have h4 := h 4 (by decide)
  have h6 := h 6 (by decide)
  unfold wkP
  rw [h2, h3, h0]
  split
  · split
    · exact up_cg (h f hf)
    · unfold lv
      exact up_cg (up_cg (h f hf))
  · split
    · exact inc_cg (inc_cg (h f hf) h4) (inc_cg h6 h4)
    · split
      · exact inc_cg (h f hf) h6
      · exact h f hf
theorem wka_b (h1 : 1 ≤ Y) (h8 : Y ≤ 8) (hi : i < N) (hf : f < 7) : wka N Y y (30 + 7 * i + f) = wkP y i (30 + 7 * i + f) := by
  have key : ∀ n : Nat, (n ≤ i → ∀ g, g < 7 → fe (wk1 Y) n y (30 + 7 * i + g) = y (30 + 7 * i + g)) ∧ (i < n → ∀ g, g < 7 → fe (wk1 Y) n y (30 + 7 * i + g) = wkP y i (30 + 7 * i + g)) := by
    intro n
    induction n with
    | zero => exact ⟨fun _ _ _ => rfl, fun h => absurd h (Nat.not_lt_zero _)⟩
    | succ n ih =>
      refine ⟨fun h g hg => ?_, fun h g hg => ?_⟩
      · rw [fe_s, wk1_out h1 (by omega) (by omega)]
        exact ih.1 (by omega) g hg
      · rw [fe_s]
        by_cases e : n = i
        · subst e
          show htn Y _ (wkP _ n) (30 + 7 * n + g) = _
          rw [htn_out h1 (by omega)]
          exact wkP_cg (fun k hk => ih.1 (Nat.le_refl _) k hk) hg
        · rw [wk1_out h1 (by omega) (by omega)]
          exact ih.2 (by omega) g hg
  exact (key N).2 hi f hf
/-- the page as the control finds it, as it leaves it -/
def wC (Y d : Nat) (y : Pg) : Pg := kb (dl Y d y)
def wD (N Y d : Nat) (y : Pg) : Pg := ctl N Y (wC Y d y)
theorem tk_b (h1 : 1 ≤ Y) (h8 : Y ≤ 8) (d : Nat) (hi : i < N) (hf : f < 7) : tk N Y d y (30 + 7 * i + f) = wkP (wD N Y d y) i (30 + 7 * i + f) := by
  unfold tk
  rw [inc_ne _ _ (by omega), klT_hi _ _ (by omega), stl_hi _ _ h8 (by omega), wka_b h1 h8 hi hf]
  rfl
theorem wC_b (h8 : Y ≤ 8) (d : Nat) {k : Nat} (hk : 30 ≤ k) : wC Y d y k = y k := by
  unfold wC
  rw [kb_hi _ (by omega), dl_hi _ _ _ h8 hk]
/-- what the control does: it starts one, it rests one, it does nothing -/
theorem ctl_c (N Y : Nat) (y : Pg) : (∃ b, b < N ∧ wt y b ∧ ctl N Y y = stt (up y 7 0) b (y 2)) ∨ (∃ b, b < N ∧ y (30 + 7 * b + 2) = 2 ∧ ctl N Y y = lv (up y 7 0) b 3) ∨ ∃ r, ctl N Y y = up y 7 r := by
  unfold ctl
  split
  · split
    · exact Or.inr (Or.inr ⟨0, rfl⟩)
    · cases e : rs N (up y 7 0) with
      | none => exact Or.inr (Or.inr ⟨0, rfl⟩)
      | some b =>
        have h2 := rs_2 e
        rw [up_ne _ _ (by omega)] at h2
        exact Or.inr (Or.inl ⟨b, rs_lt e, h2, rfl⟩)
  · cases e : nx N (up y 7 0) with
    | none =>
      refine Or.inr (Or.inr ⟨wh N (up y 7 0), ?_⟩)
      show up (up y 7 0) 7 _ = _
      rw [up_up]
    | some b =>
      have hw := nx_w e
      refine Or.inl ⟨b, nx_lt e, ?_, ?_⟩
      · unfold wt at hw ⊢
        rw [up_ne _ _ (by omega)] at hw
        exact hw
      · show stt (up y 7 0) b (up y 7 0 2) = _
        rw [up_ne _ _ (show (2 : Nat) ≠ 7 by decide)]
/-! the fields of a boiler after a start, at work -/
theorem stt_2 (p : Int32) : stt y i p (30 + 7 * i + 2) = if y (30 + 7 * i + 2) = 3 then 2 else 1 := by
  unfold stt
  split
  · rw [inc_ne _ _ (by omega), up_same]
  · rw [inc_ne _ _ (by omega), up_ne _ _ (by omega), up_same]
theorem stt_3 (p : Int32) : stt y i p (30 + 7 * i + 3) = if y (30 + 7 * i + 2) = 3 then y (30 + 7 * i + 3) else p := by
  unfold stt
  split
  · rw [inc_ne _ _ (by omega), up_ne _ _ (by omega)]
  · rw [inc_ne _ _ (by omega), up_same]
theorem stt_5 (p : Int32) : stt y i p (30 + 7 * i + 5) = y (30 + 7 * i + 5) + 1 := by
  unfold stt
  split
  · rw [inc_same, up_ne _ _ (by omega)]
  · rw [inc_same, up_ne _ _ (by omega), up_ne _ _ (by omega)]
theorem stt_o (p : Int32) (hf : f < 7) (h2 : f ≠ 2) (h3 : f ≠ 3) (h5 : f ≠ 5) : stt y i p (30 + 7 * i + f) = y (30 + 7 * i + f) := by
  unfold stt
  split
  · rw [inc_ne _ _ (by omega), up_ne _ _ (by omega)]
  · rw [inc_ne _ _ (by omega), up_ne _ _ (by omega), up_ne _ _ (by omega)]
theorem wk_o (hf : f < 7) (h2 : f ≠ 2) (h3 : f ≠ 3) (h4 : f ≠ 4) (h6 : f ≠ 6) : wkP y i (30 + 7 * i + f) = y (30 + 7 * i + f) := by
  unfold wkP
  split
  · split
    · exact up_ne _ _ (by omega)
    · exact lv_o _ h2 h3
  · split
    · rw [inc_ne _ _ (by omega), inc_ne _ _ (by omega)]
    · split
      · exact inc_ne _ _ (by omega)
      · rfl
theorem wk_2 : wkP y i (30 + 7 * i + 2) = if y (30 + 7 * i + 2) = 1 ∧ ¬ 0 < y (30 + 7 * i + 3) - 1 then 2 else y (30 + 7 * i + 2) := by
  unfold wkP
  by_cases q : y (30 + 7 * i + 2) = 1
  · rw [if_pos q]
    by_cases l : 0 < y (30 + 7 * i + 3) - 1
    · rw [if_pos l, if_neg (fun e => e.2 l), up_ne _ _ (by omega)]
    · rw [if_neg l, if_pos ⟨q, l⟩, lv_2]
  · rw [if_neg q, if_neg (show ¬ (y (30 + 7 * i + 2) = 1 ∧ ¬ 0 < y (30 + 7 * i + 3) - 1) from fun e => q e.1)]
    split
    · rw [inc_ne _ _ (by omega), inc_ne _ _ (by omega)]
    · split
      · exact inc_ne _ _ (by omega)
      · rfl
theorem wk_4 : wkP y i (30 + 7 * i + 4) = y (30 + 7 * i + 4) + (if y (30 + 7 * i + 2) = 2 then 1 else 0) := by
  unfold wkP
  by_cases q : y (30 + 7 * i + 2) = 1
  · rw [if_pos q, if_neg (show ¬ y (30 + 7 * i + 2) = 2 by rw [q]; decide), Int32.add_zero]
    split
    · exact up_ne _ _ (by omega)
    · exact lv_o _ (by decide) (by decide)
  · rw [if_neg q]
    by_cases q2 : y (30 + 7 * i + 2) = 2
    · rw [if_pos q2, if_pos q2, inc_ne _ _ (by omega), inc_same]
    · rw [if_neg q2, if_neg q2, Int32.add_zero]
      split
      · exact inc_ne _ _ (by omega)
      · rfl
theorem wk_6 : wkP y i (30 + 7 * i + 6) = y (30 + 7 * i + 6) + (if y (30 + 7 * i + 2) = 2 then y (30 + 7 * i) else if y (30 + 7 * i + 2) = 3 then 1 else 0) := by
  unfold wkP
  by_cases q : y (30 + 7 * i + 2) = 1
  · rw [if_pos q, if_neg (show ¬ y (30 + 7 * i + 2) = 2 by rw [q]; decide), if_neg (show ¬ y (30 + 7 * i + 2) = 3 by rw [q]; decide), Int32.add_zero]
    split
    · exact up_ne _ _ (by omega)
    · exact lv_o _ (by decide) (by decide)
  · rw [if_neg q]
    by_cases q2 : y (30 + 7 * i + 2) = 2
    · rw [if_pos q2, if_pos q2, inc_same, inc_ne _ _ (by omega)]
    · rw [if_neg q2, if_neg q2]
      by_cases q3 : y (30 + 7 * i + 2) = 3
      · rw [if_pos q3, if_pos q3, inc_same]
      · rw [if_neg q3, if_neg q3, Int32.add_zero]
end BOIL
