/-! one tick: the kill, who starts, rests or stays, what stays sound -/
section TICK
variable {N Y K : Nat} {y : Pg}
theorem wC_lo (d : Nat) {k : Nat} (hk : k < 22) (h8 : k ≠ 8) (h14 : k ≠ 14) (h15 : k ≠ 15) (h17 : k ≠ 17) : wC Y d y k = y k := by
  unfold wC kb
  split
  · rw [up_ne _ _ h8, dl_lo d hk h14 h15 h17]
  · exact dl_lo d hk h14 h15 h17
/-- whether it is the hour of the night -/
def ngt (y : Pg) : Prop := y 6 - y 6 / 24 * 24 = y 5
theorem wC_8 (d : Nat) (w : y 8 = 0 ∨ y 8 = 1) : (wC Y d y 8 = 0 ∧ ¬ ngt y ∧ y 8 = 0) ∨ (wC Y d y 8 = 1 ∧ (ngt y ∨ y 8 = 1)) := by
  unfold wC kb ngt
  rw [dl_lo d (by decide) (by decide) (by decide) (by decide), dl_lo d (by decide) (by decide) (by decide) (by decide)]
  split
  · rename_i h
    exact Or.inr ⟨up_same _ _ _, Or.inl h⟩
  · rename_i h
    rw [dl_lo d (by decide) (by decide) (by decide) (by decide)]
    rcases w with w | w
    · exact Or.inl ⟨w, h, w⟩
    · exact Or.inr ⟨w, Or.inr w⟩
/-- the kill after a tick -/
def KO (y v : Pg) (k : Int32) : Prop := (k = 0 ∧ v 8 = 0 ∧ v 9 = y 9 ∧ v 10 = y 10 ∧ v 11 = y 11 ∧ v 12 = y 12) ∨ (k = 1 ∧ v 8 = 1 ∧ (v 9 = 0 ∨ v 9 = y 9 + 1) ∧ v 10 = y 10 + 1 ∧ v 10 < 12 ∧ v 11 = y 11 ∧ v 12 = y 12) ∨ (k = 1 ∧ v 8 = 0 ∧ v 9 = 0 ∧ v 10 = 0 ∧ ((v 11 = y 11 + 1 ∧ v 12 = y 12) ∨ (v 11 = y 11 ∧ v 12 = y 12 + 1)))
theorem kl_o (t : Pg) (h : t 8 = 0 ∨ t 8 = 1) (b : Bool) : KO t (klT t b) (t 8) := by
  unfold klT
  by_cases h8 : t 8 = 0
  · rw [if_pos h8]
    exact Or.inl ⟨h8, h8, rfl, rfl, rfl, rfl⟩
  · have e8 : t 8 = 1 := h.resolve_left h8
    rw [if_neg h8]
    have r : (if b then t 9 + 1 else 0) = 0 ∨ (if b then t 9 + 1 else 0) = t 9 + 1 := by
      cases b
      · exact Or.inl rfl
      · exact Or.inr rfl
    generalize (if b then t 9 + 1 else 0) = r9 at r
    show KO t (if (up (inc t 10 1) 9 r9) 9 < (up (inc t 10 1) 9 r9) 4 then (if (up (inc t 10 1) 9 r9) 10 < 12 then up (inc t 10 1) 9 r9 else kend (inc (up (inc t 10 1) 9 r9) 12 1)) else kend (inc (up (inc t 10 1) 9 r9) 11 1)) (t 8)
    split
    · split
      · rename_i hl
        refine Or.inr (Or.inl ⟨e8, ?_, ?_, ?_, hl, ?_, ?_⟩)
        · rw [up_ne _ _ (by decide), inc_ne _ _ (by decide)]; exact e8
        · rw [up_same]; exact r
        · rw [up_ne _ _ (by decide), inc_same]
        · rw [up_ne _ _ (by decide), inc_ne _ _ (by decide)]
        · rw [up_ne _ _ (by decide), inc_ne _ _ (by decide)]
      · refine Or.inr (Or.inr ⟨e8, ?_, ?_, ?_, Or.inr ⟨?_, ?_⟩⟩)
        · unfold kend; rw [up_ne _ _ (by decide), up_ne _ _ (by decide), up_same]
        · unfold kend; rw [up_ne _ _ (by decide), up_same]
        · unfold kend; rw [up_same]
        · unfold kend; rw [up_ne _ _ (by decide), up_ne _ _ (by decide), up_ne _ _ (by decide), inc_ne _ _ (by decide), up_ne _ _ (by decide), inc_ne _ _ (by decide)]
        · unfold kend; rw [up_ne _ _ (by decide), up_ne _ _ (by decide), up_ne _ _ (by decide), inc_same, up_ne _ _ (by decide), inc_ne _ _ (by decide)]
    · refine Or.inr (Or.inr ⟨e8, ?_, ?_, ?_, Or.inl ⟨?_, ?_⟩⟩)
      · unfold kend; rw [up_ne _ _ (by decide), up_ne _ _ (by decide), up_same]
      · unfold kend; rw [up_ne _ _ (by decide), up_same]
      · unfold kend; rw [up_same]
      · unfold kend; rw [up_ne _ _ (by decide), up_ne _ _ (by decide), up_ne _ _ (by decide), inc_same, up_ne _ _ (by decide), inc_ne _ _ (by decide)]
      · unfold kend; rw [up_ne _ _ (by decide), up_ne _ _ (by decide), up_ne _ _ (by decide), inc_ne _ _ (by decide), up_ne _ _ (by decide), inc_ne _ _ (by decide)]
theorem kl_lo (t : Pg) (b : Bool) {k : Nat} (hk : k < 8) : klT t b k = t k := by
  unfold klT
  split
  · rfl
  · generalize (if b then t 9 + 1 else 0) = r9
    show (if (up (inc t 10 1) 9 r9) 9 < (up (inc t 10 1) 9 r9) 4 then (if (up (inc t 10 1) 9 r9) 10 < 12 then up (inc t 10 1) 9 r9 else kend (inc (up (inc t 10 1) 9 r9) 12 1)) else kend (inc (up (inc t 10 1) 9 r9) 11 1)) k = t k
    split
    · split
      · rw [up_ne _ _ (by omega), inc_ne _ _ (by omega)]
      · unfold kend
        rw [up_ne _ _ (by omega), up_ne _ _ (by omega), up_ne _ _ (by omega), inc_ne _ _ (by omega), up_ne _ _ (by omega), inc_ne _ _ (by omega)]
    · unfold kend
      rw [up_ne _ _ (by omega), up_ne _ _ (by omega), up_ne _ _ (by omega), inc_ne _ _ (by omega), up_ne _ _ (by omega), inc_ne _ _ (by omega)]
/-- the page behind the order, ahead of the watch -/
def wE (N Y d : Nat) (y : Pg) : Pg := stl Y (wka N Y (wD N Y d y))
theorem wE_lo (h1 : 1 ≤ Y) (d : Nat) {k : Nat} (hk : k < 22) (h7 : k ≠ 7) (h13 : k ≠ 13) (h16 : k ≠ 16) : wE N Y d y k = wC Y d y k := by
  unfold wE
  rw [stl_lo hk h16, wka_lo h1 hk h13 h16]
  exact ctl_lo h7 (by omega)
theorem tk_K (h1 : 1 ≤ Y) (d : Nat) (w : y 8 = 0 ∨ y 8 = 1) : KO y (tk N Y d y) (wC Y d y 8) := by
  have e8 := wE_lo (N := N) (y := y) h1 d (show 8 < 22 by decide) (by decide) (by decide) (by decide)
  have eo : ∀ k, 9 ≤ k → k ≤ 12 → wE N Y d y k = y k := fun k a b => by
    rw [wE_lo h1 d (by omega) (by omega) (by omega) (by omega), wC_lo d (by omega) (by omega) (by omega) (by omega) (by omega)]
  have h := kl_o (wE N Y d y) (by
    rw [e8]
    rcases wC_8 (Y := Y) d w with q | q
    · exact Or.inl q.1
    · exact Or.inr q.1) (decide (wE N Y d y 3 ≤ wE N Y d y 22))
  have et : ∀ k, 8 ≤ k → k ≤ 12 → tk N Y d y k = klT (wE N Y d y) (decide (wE N Y d y 3 ≤ wE N Y d y 22)) k := fun k a b => by
    unfold tk
    rw [inc_ne _ _ (by omega)]
    rfl
  unfold KO at h ⊢
  rw [eo 9 (by decide) (by decide), eo 10 (by decide) (by decide), eo 11 (by decide) (by decide), eo 12 (by decide) (by decide), e8] at h
  rw [et 8 (by decide) (by decide), et 9 (by decide) (by decide), et 10 (by decide) (by decide), et 11 (by decide) (by decide), et 12 (by decide) (by decide)]
  exact h
theorem tk_6 (h1 : 1 ≤ Y) (d : Nat) : tk N Y d y 6 = y 6 + 1 := by
  unfold tk
  rw [inc_same, kl_lo _ _ (by decide)]
  show wE N Y d y 6 + 1 = _
  rw [wE_lo h1 d (by decide) (by decide) (by decide) (by decide), wC_lo d (by decide) (by decide) (by decide) (by decide) (by decide)]
theorem tk_7 (h1 : 1 ≤ Y) (d : Nat) : tk N Y d y 7 = wD N Y d y 7 := by
  unfold tk
  rw [inc_ne _ _ (by decide), kl_lo _ _ (by decide)]
  show wE N Y d y 7 = _
  unfold wE
  rw [stl_lo (by decide) (by decide), wka_lo h1 (by decide) (by decide) (by decide)]
theorem tk_s (h1 : 1 ≤ Y) (d : Nat) {k : Nat} (hk : k < 6 ∨ (18 ≤ k ∧ k < 22)) : tk N Y d y k = y k := by
  unfold tk
  rw [inc_ne _ _ (by omega)]
  show klT (wE N Y d y) _ k = _
  have e : klT (wE N Y d y) (decide (wE N Y d y 3 ≤ wE N Y d y 22)) k = wE N Y d y k := by
    rcases hk with a | a
    · exact kl_lo _ _ (by omega)
    · exact klT_hi _ _ (by omega)
  exact e.trans ((wE_lo h1 d (by omega) (by omega) (by omega) (by omega)).trans (wC_lo d (by omega) (by omega) (by omega) (by omega) (by omega)))
/-! the boilers: x the page as the control leaves it -/
def Bst (y x : Pg) (i : Nat) : Prop := wt y i ∧ x (30 + 7 * i + 2) = (if y (30 + 7 * i + 2) = 3 then 2 else 1) ∧ x (30 + 7 * i + 5) = y (30 + 7 * i + 5) + 1 ∧ x (30 + 7 * i) = y (30 + 7 * i) ∧ x (30 + 7 * i + 4) = y (30 + 7 * i + 4) ∧ x (30 + 7 * i + 6) = y (30 + 7 * i + 6)
def Brs (y x : Pg) (i : Nat) : Prop := y (30 + 7 * i + 2) = 2 ∧ x (30 + 7 * i + 2) = 3 ∧ x (30 + 7 * i + 5) = y (30 + 7 * i + 5) ∧ x (30 + 7 * i) = y (30 + 7 * i) ∧ x (30 + 7 * i + 4) = y (30 + 7 * i + 4) ∧ x (30 + 7 * i + 6) = y (30 + 7 * i + 6)
def Bsm (y x : Pg) (i : Nat) : Prop := x (30 + 7 * i + 2) = y (30 + 7 * i + 2) ∧ x (30 + 7 * i + 5) = y (30 + 7 * i + 5) ∧ x (30 + 7 * i) = y (30 + 7 * i) ∧ x (30 + 7 * i + 4) = y (30 + 7 * i + 4) ∧ x (30 + 7 * i + 6) = y (30 + 7 * i + 6)
theorem bo_c (h8 : Y ≤ 8) (d : Nat) : (∃ b, b < N ∧ Bst y (wD N Y d y) b ∧ (∀ i, i ≠ b → Bsm y (wD N Y d y) i) ∧ wD N Y d y 7 = 0) ∨ (∃ b, b < N ∧ Brs y (wD N Y d y) b ∧ (∀ i, i ≠ b → Bsm y (wD N Y d y) i) ∧ wD N Y d y 7 = 0) ∨ ∀ i, Bsm y (wD N Y d y) i := by
  have g : ∀ (i f : Nat), wC Y d y (30 + 7 * i + f) = y (30 + 7 * i + f) := fun i f => wC_b h8 d (by omega)
  have g0 : ∀ i : Nat, wC Y d y (30 + 7 * i) = y (30 + 7 * i) := fun i => wC_b h8 d (by omega)
  unfold wD
  rcases ctl_c N Y (wC Y d y) with ⟨b, hb, hw, e⟩ | ⟨b, hb, h2, e⟩ | ⟨r, e⟩
  · refine Or.inl ⟨b, hb, ?_, fun i hi => ?_, ?_⟩
    · unfold wt at hw
      rw [g] at hw
      rw [e]
      have s0 : stt (up (wC Y d y) 7 0) b (wC Y d y 2) (30 + 7 * b) = y (30 + 7 * b) := (stt_o _ (i := b) (f := 0) (by decide) (by decide) (by decide) (by decide)).trans ((up_ne _ _ (by omega)).trans (g0 b))
      refine ⟨hw, ?_, ?_, s0, ?_, ?_⟩
      · rw [stt_2, up_ne _ _ (by omega), g]
      · rw [stt_5, up_ne _ _ (by omega), g]
      · rw [stt_o _ (by decide) (by decide) (by decide) (by decide), up_ne _ _ (by omega), g]
      · rw [stt_o _ (by decide) (by decide) (by decide) (by decide), up_ne _ _ (by omega), g]
    · rw [e]
      have o : ∀ f, f < 7 → stt (up (wC Y d y) 7 0) b (wC Y d y 2) (30 + 7 * i + f) = y (30 + 7 * i + f) := fun f hf => by
        rw [stt_out _ (by omega), up_ne _ _ (by omega), g]
      exact ⟨o 2 (by decide), o 5 (by decide), o 0 (by decide), o 4 (by decide), o 6 (by decide)⟩
    · rw [e, stt_out _ (by omega), up_same]
  · refine Or.inr (Or.inl ⟨b, hb, ?_, fun i hi => ?_, ?_⟩)
    · rw [g] at h2
      rw [e]
      have s0 : lv (up (wC Y d y) 7 0) b 3 (30 + 7 * b) = y (30 + 7 * b) := (lv_o _ (i := b) (f := 0) (by decide) (by decide)).trans ((up_ne _ _ (by omega)).trans (g0 b))
      refine ⟨h2, lv_2 _, ?_, s0, ?_, ?_⟩
      · rw [lv_o _ (by decide) (by decide), up_ne _ _ (by omega), g]
      · rw [lv_o _ (by decide) (by decide), up_ne _ _ (by omega), g]
      · rw [lv_o _ (by decide) (by decide), up_ne _ _ (by omega), g]
    · rw [e]
      have o : ∀ f, f < 7 → lv (up (wC Y d y) 7 0) b 3 (30 + 7 * i + f) = y (30 + 7 * i + f) := fun f hf => by
        rw [lv_out _ (by omega), up_ne _ _ (by omega), g]
      exact ⟨o 2 (by decide), o 5 (by decide), o 0 (by decide), o 4 (by decide), o 6 (by decide)⟩
    · rw [e, lv_out _ (by omega), up_same]
  · refine Or.inr (Or.inr fun i => ?_)
    rw [e]
    have o : ∀ f, f < 7 → up (wC Y d y) 7 r (30 + 7 * i + f) = y (30 + 7 * i + f) := fun f hf => by
      rw [up_ne _ _ (by omega), g]
    exact ⟨o 2 (by decide), o 5 (by decide), o 0 (by decide), o 4 (by decide), o 6 (by decide)⟩
theorem bo_i (h8 : Y ≤ 8) (d i : Nat) : Bst y (wD N Y d y) i ∨ Brs y (wD N Y d y) i ∨ Bsm y (wD N Y d y) i := by
  rcases bo_c (N := N) (y := y) h8 d with ⟨b, -, h1, h2, -⟩ | ⟨b, -, h1, h2, -⟩ | h
  · by_cases e : i = b
    · subst e; exact Or.inl h1
    · exact Or.inr (Or.inr (h2 i e))
  · by_cases e : i = b
    · subst e; exact Or.inr (Or.inl h1)
    · exact Or.inr (Or.inr (h2 i e))
  · exact Or.inr (Or.inr (h i))
theorem ne_s (x : Int32) : ¬ x = x + 1 := by
  intro e
  have h : (1 : Int32) = 0 := by grind
  exact absurd h (by decide)
/-- soundness of a boiler stays -/
theorem SB_tk (h1 : 1 ≤ Y) (h8 : Y ≤ 8) (hK : K < 1000000) (d : Nat) (w : WF N Y K y) (s : SD N K y) {i : Nat} (hi : i < N) : SB (K + 1) (tk N Y d y) i := by
  have e0 : (0 : Int32).toInt = 0 := rfl
  have e1 : (1 : Int32).toInt = 1 := rfl
  have hB := w.2.2.2.2.2.2 i hi
  obtain ⟨a4, a6, a5, aS, aF⟩ := s.2.2.2.2.2 i hi
  have hc := s.2.2.2.1
  have b0 := hB.1
  have b4 := hB.2.2.2.2.2.1
  have b6 := hB.2.2.2.2.2.2
  have v0 : tk N Y d y (30 + 7 * i) = wD N Y d y (30 + 7 * i) := (tk_b h1 h8 d hi (f := 0) (by decide)).trans (wk_o (f := 0) (by decide) (by decide) (by decide) (by decide) (by decide))
  have v2 := (tk_b (y := y) h1 h8 d hi (f := 2) (by decide)).trans wk_2
  have v4 := (tk_b (y := y) h1 h8 d hi (f := 4) (by decide)).trans wk_4
  have v5 := (tk_b (y := y) h1 h8 d hi (f := 5) (by decide)).trans (wk_o (by decide) (by decide) (by decide) (by decide) (by decide))
  have v6 := (tk_b (y := y) h1 h8 d hi (f := 6) (by decide)).trans wk_6
  have vc : (tk N Y d y 6).toInt = (y 6).toInt + 1 := by rw [tk_6 h1, i_add (by omega) (by omega), e1]
  unfold SB
  rw [vc, v0, v2, v4, v5, v6]
  have hb := bo_i (N := N) (Y := Y) (y := y) h8 d i
  generalize wD N Y d y = x at *
  -- firing, and the rest
  have fire : x (30 + 7 * i + 4) = y (30 + 7 * i + 4) → x (30 + 7 * i) = y (30 + 7 * i) → x (30 + 7 * i + 6) = y (30 + 7 * i + 6) → (x (30 + 7 * i + 4) + (if x (30 + 7 * i + 2) = 2 then 1 else 0)).toInt ≤ (y 6).toInt + 1 ∧ (x (30 + 7 * i)).toInt * (x (30 + 7 * i + 4) + (if x (30 + 7 * i + 2) = 2 then 1 else 0)).toInt ≤ (x (30 + 7 * i + 6) + (if x (30 + 7 * i + 2) = 2 then x (30 + 7 * i) else if x (30 + 7 * i + 2) = 3 then 1 else 0)).toInt ∧ (x (30 + 7 * i + 4) + (if x (30 + 7 * i + 2) = 2 then 1 else 0) = 0 → ¬ x (30 + 7 * i + 2) = 2) := fun q4 q0 q6 => by
    rw [q4, q0, q6]
    by_cases c : x (30 + 7 * i + 2) = 2
    · rw [if_pos c, if_pos c, i_add (by omega) (by omega), i_add (by omega) (by omega), e1]
      refine ⟨by omega, ?_, fun e => ?_⟩
      · rw [Int.mul_add, Int.mul_one]; omega
      · have : (y (30 + 7 * i + 4) + 1).toInt = 0 := by rw [e]; rfl
        rw [i_add (by omega) (by omega), e1] at this
        omega
    · rw [if_neg c, if_neg c, Int32.add_zero]
      refine ⟨by omega, ?_, fun _ => c⟩
      by_cases c3 : x (30 + 7 * i + 2) = 3
      · rw [if_pos c3, i_add (by omega) (by omega), e1]; omega
      · rw [if_neg c3, Int32.add_zero]; exact a6
  have hpos : ∀ k : Int32, y (30 + 7 * i + 2) = k → k ≠ 0 → k ≠ 4 → 0 < (y (30 + 7 * i + 5)).toInt := fun k e n0 n4 => by
    rcases aS with q | q | q
    · exact q
    · exact absurd (e.symm.trans q) n0
    · exact absurd (e.symm.trans q) n4
  rcases hb with h | h | h
  · obtain ⟨-, -, q5, q0, q4, q6⟩ := h
    have f := fire q4 q0 q6
    have e5 : (x (30 + 7 * i + 5)).toInt = (y (30 + 7 * i + 5)).toInt + 1 := by rw [q5, i_add (by omega) (by omega), e1]
    exact ⟨f.1, f.2.1, ⟨by omega, by omega⟩, Or.inl (by omega), Or.inr (by omega)⟩
  · obtain ⟨p2, -, q5, q0, q4, q6⟩ := h
    have f := fire q4 q0 q6
    have hp := hpos 2 p2 (by decide) (by decide)
    rw [q5]
    exact ⟨f.1, f.2.1, ⟨by omega, by omega⟩, Or.inl hp, Or.inr hp⟩
  · obtain ⟨q2, q5, q0, q4, q6⟩ := h
    have f := fire q4 q0 q6
    rw [q5]
    refine ⟨f.1, f.2.1, ⟨by omega, by omega⟩, ?_, ?_⟩
    · by_cases c : x (30 + 7 * i + 2) = 1
      · exact Or.inl (hpos 1 (q2.symm.trans c) (by decide) (by decide))
      · rw [if_neg (fun e => c e.1), q2]
        exact aS
    · by_cases c : x (30 + 7 * i + 2) = 2
      · exact Or.inr (hpos 2 (q2.symm.trans c) (by decide) (by decide))
      · rw [if_neg c, Int32.add_zero, q4]
        exact aF
theorem SD.k_tk (h1 : 1 ≤ Y) (h8 : Y ≤ 8) (hK : K < 1000000) (d : Nat) (w : WF N Y K y) (s : SD N K y) : SD N (K + 1) (tk N Y d y) := by
  have sk := tk_K (N := N) (Y := Y) h1 d w.2.1
  have e0 : (0 : Int32).toInt = 0 := rfl
  have e1 : (1 : Int32).toInt = 1 := rfl
  have w8 := wC_8 (Y := Y) d w.2.1
  obtain ⟨s1, s2, s3, s4, s5, s6⟩ := s
  have w10 := w.2.2.1
  refine ⟨fun e => ?_, ?_, ?_, ?_, ?_, fun i hi => SB_tk h1 h8 hK d w ⟨s1, s2, s3, s4, s5, s6⟩ hi⟩
  · rcases sk with ⟨q, e8, e9, e10, -, -⟩ | ⟨q, e8, -⟩ | ⟨q, e8, e9, e10, -⟩
    · rw [e9, e10]
      rcases w8 with ⟨-, -, z⟩ | ⟨z, -⟩
      · exact s1 z
      · rw [z] at q; exact absurd q (by decide)
    · rw [e8] at e; exact absurd e (by decide)
    · exact ⟨e9, e10⟩
  · rcases sk with ⟨q, e8, e9, e10, -, -⟩ | ⟨q, e8, e9, e10, -⟩ | ⟨q, e8, e9, e10, -⟩
    · rw [e9, e10]; exact s2
    · rw [e10, i_add (by omega) (by omega), e1]
      rcases e9 with e9 | e9
      · rw [e9, e0]; omega
      · rw [e9, i_add (by omega) (by omega), e1]; omega
    · rw [e9, e10, e0]; omega
  · rw [(tk_14 (N := N) (y := y) h1 d).1, (tk_14 (N := N) (y := y) h1 d).2, s3]
    have : nI (10 * d) = 10 * nI d := (nI_mul 10 d).symm
    rw [this]
    grind
  · rw [tk_6 h1, i_add (by omega) (by omega), e1]; omega
  · rcases sk with ⟨q, e8, e9, e10, e11, -⟩ | ⟨q, e8, -, -, -, e11, -⟩ | ⟨q, e8, e9, e10, ⟨e11, -⟩ | ⟨e11, -⟩⟩
    · rw [e11]; omega
    · rw [e11]; omega
    · rw [e11, i_add (by omega) (by omega), e1]; omega
    · rw [e11]; omega
theorem SD.k_tkn (h1 : 1 ≤ Y) (h8 : Y ≤ 8) (d : Nat) (w : WF N Y K y) (s : SD N K y) : ∀ m : Nat, K + m < 1000000 → SD N (K + m) (tkn N Y d m y)
  | 0, _ => s
  | m + 1, hm => (SD.k_tkn h1 h8 d w s m (by omega)).k_tk h1 h8 (show K + m < 1000000 by omega) d (w.k_tkn h1 h8 d m (by omega))
end TICK
