/-! what can be stays what can be -/
theorem WF.u {N Y K : Nat} {y : Pg} (h : WF N Y K y) {k : Nat} (hk : k < 20) (h8 : k ≠ 8) (h10 : k ≠ 10) (h2 : k ≠ 2) (v : Int32) : WF N Y K (up y k v) := by
  obtain ⟨g1, g2, g3, g4, g5, g6, g7⟩ := h
  unfold WF
  rw [up_ne y v (Ne.symm h8), up_ne y v (Ne.symm h10), up_ne y v (Ne.symm h2), up_ne y v (show 20 ≠ k by omega), up_ne y v (show 21 ≠ k by omega)]
  exact ⟨fun j hj => by rw [up_ne _ _ (by omega)]; exact g1 j hj, g2, g3, g4, g5, g6, fun i hi => (g7 i hi).cg fun f hf => up_ne _ _ (by omega)⟩
theorem WF.t {N Y K : Nat} {y : Pg} (h : WF N Y K y) {j : Nat} (hj : j < 8) {v : Int32} (h0 : 0 ≤ v.toInt) (h9 : v.toInt ≤ 99) : WF N Y K (up y (22 + j) v) := by
  obtain ⟨g1, g2, g3, g4, g5, g6, g7⟩ := h
  unfold WF
  rw [up_ne y v (show 8 ≠ 22 + j by omega), up_ne y v (show 10 ≠ 22 + j by omega), up_ne y v (show 2 ≠ 22 + j by omega), up_ne y v (show 20 ≠ 22 + j by omega), up_ne y v (show 21 ≠ 22 + j by omega)]
  refine ⟨fun a ha => ?_, g2, g3, g4, g5, g6, fun i hi => (g7 i hi).cg fun f hf => up_ne _ _ (by omega)⟩
  by_cases e : a = j
  · subst e; rw [up_same]; exact ⟨h0, h9⟩
  · rw [up_ne _ _ (by omega)]; exact g1 a ha
theorem WF.b {N Y K : Nat} (hY : Y ≤ 8) {y z : Pg} (h : WF N Y K y) {i : Nat} (e : ∀ a, (a < 30 + 7 * i ∨ 30 + 7 * i + 7 ≤ a) → z a = y a) (hb : Bo K z i) : WF N Y K z := by
  obtain ⟨g1, g2, g3, g4, g5, g6, g7⟩ := h
  unfold WF
  rw [e 8 (by omega), e 10 (by omega), e 2 (by omega), e 20 (by omega), e 21 (by omega)]
  refine ⟨fun j hj => by rw [e _ (by omega)]; exact g1 j hj, g2, g3, g4, g5, g6, fun k hk => ?_⟩
  by_cases q : k = i
  · subst q; exact hb
  · exact (g7 k hk).cg fun f hf => e _ (by omega)
theorem WF.o {N Y K : Nat} {y : Pg} (h : WF N Y K y) (hY : Y ≤ 8) {f : Nat} (hf : f < 2) {v : Int32} (hv : v = 0 ∨ v = 1) : WF N Y K (up y (20 + f) v) := by
  obtain ⟨g1, g2, g3, g4, g5, g6, g7⟩ := h
  unfold WF
  rw [up_ne y v (show 8 ≠ 20 + f by omega), up_ne y v (show 10 ≠ 20 + f by omega), up_ne y v (show 2 ≠ 20 + f by omega)]
  refine ⟨fun a ha => by rw [up_ne _ _ (by omega)]; exact g1 a ha, g2, g3, g4, ?_, ?_, fun i hi => (g7 i hi).cg fun g hg => up_ne _ _ (by omega)⟩
  · unfold up; split
    · exact hv
    · exact g5
  · unfold up; split
    · exact hv
    · exact g6
section LVB
variable {K i : Nat} {y : Pg}
theorem lv_out (x : Int32) {a : Nat} (h : a < 30 + 7 * i ∨ 30 + 7 * i + 7 ≤ a) : lv y i x a = y a := by
  unfold lv
  rw [up_ne _ _ (by omega), up_ne _ _ (by omega)]
theorem lv_2 (x : Int32) : lv y i x (30 + 7 * i + 2) = x := by
  unfold lv
  rw [up_ne _ _ (by omega), up_same]
theorem lv_3 (x : Int32) : lv y i x (30 + 7 * i + 3) = 0 := by
  unfold lv
  rw [up_same]
theorem lv_o (x : Int32) {f : Nat} (h2 : f ≠ 2) (h3 : f ≠ 3) : lv y i x (30 + 7 * i + f) = y (30 + 7 * i + f) := by
  unfold lv
  rw [up_ne _ _ (by omega), up_ne _ _ (by omega)]
theorem Bo.k_lv (h : Bo K y i) {x : Int32} (hx : x = 0 ∨ x = 2 ∨ x = 3 ∨ x = 4) : Bo K (lv y i x) i := by
  obtain ⟨h1, h2, h3, h4, h5, h6, h7⟩ := h
  have e0 : lv y i x (30 + 7 * i) = y (30 + 7 * i) := lv_o x (f := 0) (by decide) (by decide)
  unfold Bo
  rw [e0, lv_2, lv_3, lv_o x (f := 1) (by decide) (by decide), lv_o x (f := 4) (by decide) (by decide), lv_o x (f := 6) (by decide) (by decide)]
  refine ⟨h1, h2, ?_, fun e => ?_, fun _ => rfl, h6, h7⟩
  · rcases hx with e | e | e | e
    · exact Or.inl e
    · exact Or.inr (Or.inr (Or.inl e))
    · exact Or.inr (Or.inr (Or.inr (Or.inl e)))
    · exact Or.inr (Or.inr (Or.inr (Or.inr e)))
  · rcases hx with q | q | q | q <;> (subst q; exact absurd e (by decide))
theorem WF.k_lv {N Y : Nat} (hY : Y ≤ 8) (h : WF N Y K y) (hi : i < N) {x : Int32} (hx : x = 0 ∨ x = 2 ∨ x = 3 ∨ x = 4) : WF N Y K (lv y i x) :=
  h.b hY (fun _ ha => lv_out x ha) ((h.2.2.2.2.2.2 i hi).k_lv hx)
theorem stt_out (p : Int32) {a : Nat} (h : a < 30 + 7 * i ∨ 30 + 7 * i + 7 ≤ a) : stt y i p a = y a := by
  unfold stt
  split
  · rw [inc_ne _ _ (by omega), up_ne _ _ (by omega)]
  · rw [inc_ne _ _ (by omega), up_ne _ _ (by omega), up_ne _ _ (by omega)]
theorem Bo.k_stt (h : Bo K y i) (hw : wt y i) {p : Int32} (hp : 1 ≤ p.toInt ∧ p.toInt ≤ 5) : Bo K (stt y i p) i := by
  obtain ⟨h1, h2, h3, h4, h5, h6, h7⟩ := h
  unfold stt
  by_cases h0 : y (30 + 7 * i + 2) = 3
  · rw [if_pos h0]
    unfold Bo
    have n0 : ∀ f, f ≠ 2 → f ≠ 5 → inc (up y (30 + 7 * i + 2) 2) (30 + 7 * i + 5) 1 (30 + 7 * i + f) = y (30 + 7 * i + f) := fun f a b => by rw [inc_ne _ _ (by omega), up_ne _ _ (by omega)]
    have n2 : inc (up y (30 + 7 * i + 2) 2) (30 + 7 * i + 5) 1 (30 + 7 * i + 2) = 2 := by rw [inc_ne _ _ (by omega), up_same]
    have e0 : inc (up y (30 + 7 * i + 2) 2) (30 + 7 * i + 5) 1 (30 + 7 * i) = y (30 + 7 * i) := n0 0 (by decide) (by decide)
    rw [e0, n0 1 (by decide) (by decide), n2, n0 3 (by decide) (by decide), n0 4 (by decide) (by decide), n0 6 (by decide) (by decide)]
    exact ⟨h1, h2, Or.inr (Or.inr (Or.inl rfl)), fun e => absurd e (by decide), fun _ => h5 (by rw [h0]; decide), h6, h7⟩
  · rw [if_neg h0]
    unfold Bo
    have n0 : ∀ f, f ≠ 2 → f ≠ 3 → f ≠ 5 → inc (up (up y (30 + 7 * i + 2) 1) (30 + 7 * i + 3) p) (30 + 7 * i + 5) 1 (30 + 7 * i + f) = y (30 + 7 * i + f) := fun f a b c => by rw [inc_ne _ _ (by omega), up_ne _ _ (by omega), up_ne _ _ (by omega)]
    have n2 : inc (up (up y (30 + 7 * i + 2) 1) (30 + 7 * i + 3) p) (30 + 7 * i + 5) 1 (30 + 7 * i + 2) = 1 := by rw [inc_ne _ _ (by omega), up_ne _ _ (by omega), up_same]
    have n3 : inc (up (up y (30 + 7 * i + 2) 1) (30 + 7 * i + 3) p) (30 + 7 * i + 5) 1 (30 + 7 * i + 3) = p := by rw [inc_ne _ _ (by omega), up_same]
    have e0 : inc (up (up y (30 + 7 * i + 2) 1) (30 + 7 * i + 3) p) (30 + 7 * i + 5) 1 (30 + 7 * i) = y (30 + 7 * i) := n0 0 (by decide) (by decide) (by decide)
    rw [e0, n0 1 (by decide) (by decide) (by decide), n2, n3, n0 4 (by decide) (by decide) (by decide), n0 6 (by decide) (by decide) (by decide)]
    exact ⟨h1, h2, Or.inr (Or.inl rfl), fun _ => hp, fun e => absurd rfl e, h6, h7⟩
theorem wkP_out {a : Nat} (h : a < 30 + 7 * i ∨ 30 + 7 * i + 7 ≤ a) : wkP y i a = y a := by
  unfold wkP
  split
  · split
    · rw [up_ne _ _ (by omega)]
    · exact lv_out 2 h
  · split
    · rw [inc_ne _ _ (by omega), inc_ne _ _ (by omega)]
    · split
      · rw [inc_ne _ _ (by omega)]
      · rfl
theorem wkP_1 (h1 : y (30 + 7 * i + 2) = 1) : wkP y i = if 0 < y (30 + 7 * i + 3) - 1 then up y (30 + 7 * i + 3) (y (30 + 7 * i + 3) - 1) else lv y i 2 := by
  unfold wkP
  rw [if_pos h1]
theorem wkP_2 (h2 : y (30 + 7 * i + 2) = 2) : wkP y i = inc (inc y (30 + 7 * i + 4) 1) (30 + 7 * i + 6) (y (30 + 7 * i)) := by
  unfold wkP
  rw [if_neg (by rw [h2]; decide), if_pos h2]
theorem wkP_3 (h3 : y (30 + 7 * i + 2) = 3) : wkP y i = inc y (30 + 7 * i + 6) 1 := by
  unfold wkP
  rw [if_neg (by rw [h3]; decide), if_neg (by rw [h3]; decide), if_pos h3]
theorem wkP_4 (h : y (30 + 7 * i + 2) = 0 ∨ y (30 + 7 * i + 2) = 4) : wkP y i = y := by
  unfold wkP
  rcases h with h | h <;> rw [h, if_neg (by decide), if_neg (by decide), if_neg (by decide)]
theorem Bo.k_work (hK : K < 1000000) (h : Bo K y i) : Bo (K + 1) (wkP y i) i := by
  obtain ⟨h1, h2, h3, h4, h5, h6, h7⟩ := h
  have e1 : (1 : Int32).toInt = 1 := rfl
  rcases h3 with s | s | s | s | s
  · rw [wkP_4 (Or.inl s)]
    exact Bo.mo ⟨h1, h2, Or.inl s, h4, h5, h6, h7⟩ (Nat.le_succ K)
  · rw [wkP_1 s]
    have l := h4 s
    have es : (y (30 + 7 * i + 3) - 1).toInt = (y (30 + 7 * i + 3)).toInt - 1 := fb_subI (by omega) (by omega)
    by_cases hc : 0 < y (30 + 7 * i + 3) - 1
    · rw [if_pos hc]
      rw [fa_lt, es] at hc
      have ez : (0 : Int32).toInt = 0 := rfl
      unfold Bo
      have n0 : ∀ f, f ≠ 3 → up y (30 + 7 * i + 3) (y (30 + 7 * i + 3) - 1) (30 + 7 * i + f) = y (30 + 7 * i + f) := fun f a => up_ne _ _ (by omega)
      have e0 : up y (30 + 7 * i + 3) (y (30 + 7 * i + 3) - 1) (30 + 7 * i) = y (30 + 7 * i) := n0 0 (by decide)
      rw [e0, n0 1 (by decide), n0 2 (by decide), up_same, n0 4 (by decide), n0 6 (by decide)]
      exact ⟨h1, h2, Or.inr (Or.inl s), fun _ => by omega, fun e => absurd s e, by omega, by omega⟩
    · rw [if_neg hc]
      exact Bo.mo (Bo.k_lv ⟨h1, h2, Or.inr (Or.inl s), h4, h5, h6, h7⟩ (Or.inr (Or.inl rfl))) (Nat.le_succ K)
  · rw [wkP_2 s]
    unfold Bo
    have n0 : ∀ f, f ≠ 4 → f ≠ 6 → inc (inc y (30 + 7 * i + 4) 1) (30 + 7 * i + 6) (y (30 + 7 * i)) (30 + 7 * i + f) = y (30 + 7 * i + f) := fun f a b => by rw [inc_ne _ _ (by omega), inc_ne _ _ (by omega)]
    have n4 : inc (inc y (30 + 7 * i + 4) 1) (30 + 7 * i + 6) (y (30 + 7 * i)) (30 + 7 * i + 4) = y (30 + 7 * i + 4) + 1 := by rw [inc_ne _ _ (by omega), inc_same]
    have n6 : inc (inc y (30 + 7 * i + 4) 1) (30 + 7 * i + 6) (y (30 + 7 * i)) (30 + 7 * i + 6) = y (30 + 7 * i + 6) + y (30 + 7 * i) := by rw [inc_same, inc_ne _ _ (by omega)]
    have e0 : inc (inc y (30 + 7 * i + 4) 1) (30 + 7 * i + 6) (y (30 + 7 * i)) (30 + 7 * i) = y (30 + 7 * i) := n0 0 (by decide) (by decide)
    have a4 : (y (30 + 7 * i + 4) + 1).toInt = (y (30 + 7 * i + 4)).toInt + 1 := i_add (by omega) (by omega)
    have a6 : (y (30 + 7 * i + 6) + y (30 + 7 * i)).toInt = (y (30 + 7 * i + 6)).toInt + (y (30 + 7 * i)).toInt := i_add (by omega) (by omega)
    rw [e0, n0 1 (by decide) (by decide), n0 2 (by decide) (by decide), n0 3 (by decide) (by decide), n4, n6, a4, a6]
    exact ⟨h1, h2, Or.inr (Or.inr (Or.inl s)), h4, h5, by omega, by omega⟩
  · rw [wkP_3 s]
    unfold Bo
    have n0 : ∀ f, f ≠ 6 → inc y (30 + 7 * i + 6) 1 (30 + 7 * i + f) = y (30 + 7 * i + f) := fun f b => inc_ne _ _ (by omega)
    have e0 : inc y (30 + 7 * i + 6) 1 (30 + 7 * i) = y (30 + 7 * i) := n0 0 (by decide)
    have a6 : (y (30 + 7 * i + 6) + 1).toInt = (y (30 + 7 * i + 6)).toInt + 1 := i_add (by omega) (by omega)
    rw [e0, n0 1 (by decide), n0 2 (by decide), n0 3 (by decide), n0 4 (by decide), inc_same, a6]
    exact ⟨h1, h2, Or.inr (Or.inr (Or.inr (Or.inl s))), h4, h5, by omega, by omega⟩
  · rw [wkP_4 (Or.inr s)]
    exact Bo.mo ⟨h1, h2, Or.inr (Or.inr (Or.inr (Or.inr s))), h4, h5, h6, h7⟩ (Nat.le_succ K)
end LVB
theorem ht1_out {Y : Nat} (hY : 1 ≤ Y) {t : Pg} {a : Nat} (h : a ≠ 13 ∧ a ≠ 16 ∧ (a < 22 ∨ 22 + Y ≤ a)) : ht1 Y t a = t a := by
  have hlo := (lo_spec Y hY t).1
  unfold ht1
  split
  · rw [inc_ne _ _ (by omega), inc_ne _ _ (by omega)]
  · rw [inc_ne _ _ (by omega), inc_ne _ _ (by omega)]
theorem htn_out {Y : Nat} (hY : 1 ≤ Y) {a : Nat} (h : a ≠ 13 ∧ a ≠ 16 ∧ (a < 22 ∨ 22 + Y ≤ a)) (t : Pg) : ∀ n : Nat, htn Y n t a = t a
  | 0 => rfl
  | n + 1 => (ht1_out hY h).trans (htn_out hY h t n)
theorem WF.k_ht1 {N Y K : Nat} (h1 : 1 ≤ Y) (h8 : Y ≤ 8) {t : Pg} (h : WF N Y K t) : WF N Y K (ht1 Y t) := by
  have hlo := (lo_spec Y h1 t).1
  have hT := h.1 _ hlo
  unfold ht1
  split
  · exact (h.u (by decide) (by decide) (by decide) (by decide) _).u (by decide) (by decide) (by decide) (by decide) _
  · rename_i hc
    have hne : (t (22 + lo Y t)).toInt ≠ 99 := fun e => hc (i_eq (by rw [e, e99]))
    have ea : (t (22 + lo Y t) + 1).toInt = (t (22 + lo Y t)).toInt + 1 := i_add (by have : (1 : Int32).toInt = 1 := rfl; omega) (by have : (1 : Int32).toInt = 1 := rfl; omega)
    refine WF.u ?_ (by decide) (by decide) (by decide) (by decide) _
    exact h.t (by omega) (by omega) (by omega)
theorem WF.k_htn {N Y K : Nat} (h1 : 1 ≤ Y) (h8 : Y ≤ 8) {t : Pg} (h : WF N Y K t) : ∀ n : Nat, WF N Y K (htn Y n t)
  | 0 => h
  | n + 1 => (WF.k_htn h1 h8 h n).k_ht1 h1 h8
theorem WF.k_inc {N Y K : Nat} {y : Pg} (h : WF N Y K y) {k : Nat} (hk : k < 20) (h8 : k ≠ 8) (h10 : k ≠ 10) (h2 : k ≠ 2) (v : Int32) : WF N Y K (inc y k v) := h.u hk h8 h10 h2 _
theorem WF.k_dl {N Y K : Nat} (h1 : 1 ≤ Y) (h8 : Y ≤ 8) {y : Pg} (h : WF N Y K y) (d : Nat) : WF N Y K (dl Y d y) := by
  unfold dl
  refine WF.k_inc ?_ (by decide) (by decide) (by decide) (by decide) _
  refine fe_inv (f := dlf Y) (I := fun (_ : Nat) (p : Int32 × Pg) => WF N Y K p.2) h fun _ p _ hp => ?_
  show WF N Y K (dr1 Y p.2)
  unfold dr1
  refine WF.k_inc (WF.k_inc ?_ (by decide) (by decide) (by decide) (by decide) _) (by decide) (by decide) (by decide) (by decide) _
  refine WF.t (j := 0) ?_ (by decide) (by decide) (by decide)
  refine fe_inv (I := fun _ t => WF N Y K t) hp fun i t hi ht => ?_
  have a := ht.1 (Y - 1 - i - 1) (by omega)
  exact ht.t (by omega) a.1 a.2
theorem cool_n : ∀ n : Nat, n < 100 → 20 < n → 0 ≤ (nI n + -((nI n - 20) / 20)).toInt ∧ (nI n + -((nI n - 20) / 20)).toInt ≤ 99 := by decide +kernel
theorem WF.k_clf {N Y K : Nat} (h8 : Y ≤ 8) {y : Pg} (h : WF N Y K y) {j : Nat} (hj : j < Y) : WF N Y K (clf j y) := by
  unfold clf
  split
  · exact h
  · rename_i hc
    refine WF.k_inc ?_ (by decide) (by decide) (by decide) (by decide) _
    have hT := h.1 j hj
    obtain ⟨n, hn, en⟩ : ∃ n : Nat, n < 100 ∧ y (22 + j) = nI n := ⟨(y (22 + j)).toInt.toNat, by omega, i_eq (by rw [ti _ (by omega)]; omega)⟩
    have h20 : 20 < n := by
      rw [fa_le, en, ti n (by omega)] at hc
      have : (20 : Int32).toInt = 20 := rfl
      omega
    have k := cool_n n hn h20
    rw [← en] at k
    exact WF.t h (by omega) k.1 k.2
/-- the insertion, told at once -/
theorem ins_spec (v : Int32) : ∀ (p : Nat) (t : Pg), ∃ p', ins v p t = (p', fun a => if 22 + p' < a ∧ a ≤ 22 + p then t (a - 1) else t a) ∧ p' ≤ p ∧ (∀ k, p' ≤ k → k < p → v.toInt < (t (22 + k)).toInt) ∧ (p' = 0 ∨ (t (22 + (p' - 1))).toInt ≤ v.toInt)
  | 0, t => ⟨0, by
    unfold ins
    congr 1
    funext a
    rw [if_neg (by omega)], Nat.le_refl 0, fun k h1 h2 => absurd h2 (by omega), Or.inl rfl⟩
  | p + 1, t => by
    unfold ins
    by_cases h : t (22 + p) ≤ v
    · rw [if_pos h]
      refine ⟨p + 1, ?_, Nat.le_refl _, fun k h1 h2 => absurd h2 (by omega), Or.inr ?_⟩
      · congr 1
        funext a
        rw [if_neg (by omega)]
      · rw [fa_le] at h
        exact h
    · rw [if_neg h]
      obtain ⟨p', e, hp, hk, hl⟩ := ins_spec v p (up t (22 + (p + 1)) (t (22 + p)))
      refine ⟨p', ?_, by omega, fun k h1 h2 => ?_, ?_⟩
      · rw [e]
        congr 1
        funext a
        by_cases ha : a = 22 + (p + 1)
        · subst ha
          rw [if_neg (by omega), if_pos (by omega), up_same]
          rfl
        · by_cases hb : 22 + p' < a ∧ a ≤ 22 + p
          · rw [if_pos hb, if_pos (by omega), up_ne _ _ (by omega)]
          · rw [if_neg hb, if_neg (by omega), up_ne _ _ ha]
      · rcases Nat.lt_or_ge k p with q | q
        · have := hk k h1 q
          rw [up_ne _ _ (by omega)] at this
          exact this
        · have : k = p := by omega
          subst this
          rw [fa_le] at h
          omega
      · rcases hl with q | q
        · exact Or.inl q
        · rw [up_ne _ _ (by omega)] at q
          exact Or.inr q
theorem srf_spec (i : Nat) (t : Pg) : ∃ p', srf i t = (fun a => if a = 22 + p' then t (22 + (i + 1)) else if 22 + p' < a ∧ a ≤ 22 + (i + 1) then t (a - 1) else t a) ∧ p' ≤ i + 1 ∧ (∀ k, p' ≤ k → k < i + 1 → (t (22 + (i + 1))).toInt < (t (22 + k)).toInt) ∧ (p' = 0 ∨ (t (22 + (p' - 1))).toInt ≤ (t (22 + (i + 1))).toInt) := by
  obtain ⟨p', e, h1, h2, h3⟩ := ins_spec (t (22 + (i + 1))) (i + 1) t
  refine ⟨p', ?_, h1, h2, h3⟩
  unfold srf
  rw [e]
  rfl
theorem WF.k_srf {N Y K : Nat} (h8 : Y ≤ 8) {y : Pg} (h : WF N Y K y) {i : Nat} (hi : i + 1 < Y) : WF N Y K (srf i y) := by
  obtain ⟨p', e, h1, -, -⟩ := srf_spec i y
  rw [e]
  obtain ⟨g1, g2, g3, g4, g5, g6, g7⟩ := h
  have out : ∀ a, (a < 22 ∨ 30 ≤ a) → (fun a => if a = 22 + p' then y (22 + (i + 1)) else if 22 + p' < a ∧ a ≤ 22 + (i + 1) then y (a - 1) else y a) a = y a := fun a ha => by
    show (if a = 22 + p' then _ else _) = _
    rw [if_neg (by omega), if_neg (by omega)]
  unfold WF
  rw [out 8 (by omega), out 10 (by omega), out 2 (by omega), out 20 (by omega), out 21 (by omega)]
  refine ⟨fun j hj => ?_, g2, g3, g4, g5, g6, fun k hk => (g7 k hk).cg fun f hf => out _ (by omega)⟩
  show 0 ≤ (if 22 + j = 22 + p' then _ else _ : Int32).toInt ∧ (if 22 + j = 22 + p' then _ else _ : Int32).toInt ≤ 99
  by_cases c1 : 22 + j = 22 + p'
  · rw [if_pos c1]; exact g1 _ hi
  · rw [if_neg c1]
    by_cases c2 : 22 + p' < 22 + j ∧ 22 + j ≤ 22 + (i + 1)
    · rw [if_pos c2, show 22 + j - 1 = 22 + (j - 1) by omega]; exact g1 _ (by omega)
    · rw [if_neg c2]; exact g1 j hj
def stl (Y : Nat) (t : Pg) : Pg := fe srf (Y - 1) (fe clf Y t)
theorem WF.k_stl {N Y K : Nat} (h8 : Y ≤ 8) {y : Pg} (h : WF N Y K y) : WF N Y K (stl Y y) := by
  unfold stl
  refine fe_inv (I := fun _ t => WF N Y K t) ?_ fun i t hi ht => ht.k_srf h8 (by omega)
  exact fe_inv (I := fun _ t => WF N Y K t) h fun i t hi ht => ht.k_clf h8 hi
/-- the lowest layer is the coldest one then -/
theorem stl_min (Y : Nat) (t : Pg) : ∀ j, j < Y → (stl Y t 22).toInt ≤ (stl Y t (22 + j)).toInt := by
  have key := fe_inv (f := srf) (I := fun i t => ∀ j, j ≤ i → (t (22 + 0)).toInt ≤ (t (22 + j)).toInt) (t := fe clf Y t) (fun j hj => by
    have : j = 0 := by omega
    subst this
    exact Int.le_refl _) (n := Y - 1) (fun i u hi hu => by
    obtain ⟨p', e, h1, h2, h3⟩ := srf_spec i u
    rw [e]
    intro j hj
    show (if 22 + 0 = 22 + p' then _ else _ : Int32).toInt ≤ (if 22 + j = 22 + p' then _ else _ : Int32).toInt
    by_cases c0 : p' = 0
    · subst c0
      rw [if_pos rfl]
      by_cases c1 : 22 + j = 22 + 0
      · rw [if_pos c1]; exact Int.le_refl _
      · rw [if_neg c1, if_pos (by omega), show 22 + j - 1 = 22 + (j - 1) by omega]
        have := h2 (j - 1) (by omega) (by omega)
        omega
    · rw [if_neg (by omega), if_neg (by omega)]
      by_cases c1 : 22 + j = 22 + p'
      · rw [if_pos c1]
        rcases h3 with q | q
        · exact absurd q c0
        · have := hu (p' - 1) (by omega)
          omega
      · rw [if_neg c1]
        by_cases c2 : 22 + p' < 22 + j ∧ 22 + j ≤ 22 + (i + 1)
        · rw [if_pos c2, show 22 + j - 1 = 22 + (j - 1) by omega]
          exact hu (j - 1) (by omega)
        · rw [if_neg c2]
          exact hu j (by omega))
  intro j hj
  exact key j (by omega)
theorem cd_stl {N Y K : Nat} (h1 : 1 ≤ Y) (h8 : Y ≤ 8) {t : Pg} (h : WF N Y K t) : cd Y (stl Y t) = stl Y t 22 := by
  obtain ⟨c1, c2, c3⟩ := cd_spec Y (stl Y t)
  have hm := stl_min Y t
  have a := c2 0 (by omega)
  have b := (h.k_stl h8).1 0 (by omega)
  refine i_eq ?_
  rcases c3 with e | ⟨j, hj, e⟩
  · have a' : (cd Y (stl Y t)).toInt ≤ (stl Y t 22).toInt := a
    have b' : (stl Y t 22).toInt ≤ 99 := b.2
    omega
  · have := hm j hj
    rw [e] at a ⊢
    have a' : (stl Y t (22 + j)).toInt ≤ (stl Y t 22).toInt := a
    omega
theorem WF.k_kl {N Y K : Nat} {y : Pg} (h : WF N Y K y) (b : Bool) : WF N Y K (klT y b) := by
  obtain ⟨g1, g2, g3, g4, g5, g6, g7⟩ := h
  have out : ∀ z : Pg, (∀ a, a ≠ 8 → a ≠ 9 → a ≠ 10 → a ≠ 11 → a ≠ 12 → z a = y a) → (z 8 = 0 ∨ z 8 = 1) → (0 ≤ (z 10).toInt ∧ (z 10).toInt < 12) → WF N Y K z := fun z hz h8 h10 => by
    unfold WF
    rw [hz 2 (by decide) (by decide) (by decide) (by decide) (by decide), hz 20 (by decide) (by decide) (by decide) (by decide) (by decide), hz 21 (by decide) (by decide) (by decide) (by decide) (by decide)]
    exact ⟨fun j hj => by rw [hz _ (by omega) (by omega) (by omega) (by omega) (by omega)]; exact g1 j hj, h8, h10, g4, g5, g6, fun i hi => (g7 i hi).cg fun f hf => hz _ (by omega) (by omega) (by omega) (by omega) (by omega)⟩
  have e1 : (1 : Int32).toInt = 1 := rfl
  have e12 : (12 : Int32).toInt = 12 := rfl
  have ea : (y 10 + 1).toInt = (y 10).toInt + 1 := i_add (by omega) (by omega)
  have hk : ∀ z : Pg, (∀ a, a ≠ 8 → a ≠ 9 → a ≠ 10 → a ≠ 11 → a ≠ 12 → z a = y a) → WF N Y K (kend z) := fun z hz => out _ (fun a a1 a2 a3 a4 a5 => by unfold kend; rw [up_ne _ _ a3, up_ne _ _ a2, up_ne _ _ a1]; exact hz a a1 a2 a3 a4 a5) (Or.inl (by unfold kend; rw [up_ne _ _ (by decide), up_ne _ _ (by decide), up_same])) (by unfold kend; rw [up_same]; decide)
  unfold klT
  by_cases h0 : y 8 = 0
  · rw [if_pos h0]
    exact ⟨g1, g2, g3, g4, g5, g6, g7⟩
  · rw [if_neg h0]
    generalize (if b = true then y 9 + 1 else 0) = v
    have hz : ∀ a, a ≠ 8 → a ≠ 9 → a ≠ 10 → a ≠ 11 → a ≠ 12 → (up (inc y 10 1) 9 v) a = y a := fun a a1 a2 a3 a4 a5 => by rw [up_ne _ _ a2, inc_ne _ _ a3]
    show WF N Y K (if (up (inc y 10 1) 9 v) 9 < (up (inc y 10 1) 9 v) 4 then (if (up (inc y 10 1) 9 v) 10 < 12 then up (inc y 10 1) 9 v else kend (inc (up (inc y 10 1) 9 v) 12 1)) else kend (inc (up (inc y 10 1) 9 v) 11 1))
    split
    · split
      · rename_i hc
        refine out _ hz (by rw [up_ne _ _ (by decide), inc_ne _ _ (by decide)]; exact g2) ?_
        rw [up_ne _ _ (by decide), inc_same, fa_lt, e12, ea] at hc
        rw [up_ne _ _ (by decide), inc_same, ea]
        omega
      · exact hk (inc (up (inc y 10 1) 9 v) 12 1) fun a a1 a2 a3 a4 a5 => (inc_ne _ _ a5).trans (hz a a1 a2 a3 a4 a5)
    · exact hk (inc (up (inc y 10 1) 9 v) 11 1) fun a a1 a2 a3 a4 a5 => (inc_ne _ _ a4).trans (hz a a1 a2 a3 a4 a5)
theorem WF.k_ctl {N Y K : Nat} (h8 : Y ≤ 8) {y : Pg} (h : WF N Y K y) : WF N Y K (ctl N Y y) := by
  have hz := h.u7 0
  unfold ctl
  split
  · split
    · exact hz
    · unfold rst
      split
      · exact hz
      · rename_i b hb
        exact hz.k_lv h8 (rs_lt hb) (Or.inr (Or.inr (Or.inl rfl)))
  · unfold sta
    split
    · exact hz.u7 _
    · rename_i b hb
      exact hz.b h8 (fun _ ha => stt_out _ ha) ((hz.2.2.2.2.2.2 b (nx_lt hb)).k_stt (nx_w hb) hz.2.2.2.1)
theorem WF.k_mv {N Y K : Nat} (h8 : Y ≤ 8) {y : Pg} (h : WF N Y K y) {f : Nat} (hf : f < 2) (o : Bool) : WF N Y K (mv N f o y).2 := by
  unfold mv
  cases o with
  | true =>
    simp only [if_true]
    exact h.o h8 hf (Or.inr rfl)
  | false =>
    simp only [Bool.false_eq_true, if_false]
    refine fe_inv (f := mvf f) (I := fun (_ : Nat) (p : Int32 × Pg) => WF N Y K p.2) (h.o h8 hf (Or.inl rfl)) fun i p hi hp => ?_
    unfold mvf
    split
    · exact hp.k_lv h8 hi (Or.inl rfl)
    · exact hp

