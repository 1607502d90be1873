/-! draws, losses, order, flues: what they do to a page -/
def shf (Y i : Nat) (t : Pg) : Pg := up t (22 + (Y - 1 - i)) (t (22 + (Y - 1 - i - 1)))
def dr1 (Y : Nat) (t : Pg) : Pg := inc (inc (up (fe (shf Y) (Y - 1) t) 22 10) 14 10) 17 1
def dlf (Y : Nat) (_ : Nat) (p : Int32 × Pg) : Int32 × Pg := (p.1 + p.2 (22 + (Y - 1)), dr1 Y p.2)
def dlv (Y d : Nat) (y : Pg) : Int32 × Pg := fe (dlf Y) d (0, y)
def dl (Y d : Nat) (y : Pg) : Pg := inc (dlv Y d y).2 15 (dlv Y d y).1
def clf (j : Nat) (t : Pg) : Pg := if t (22 + j) ≤ 20 then t else inc (inc t (22 + j) (-((t (22 + j) - 20) / 20))) 16 ((t (22 + j) - 20) / 20)
def ins (v : Int32) : Nat → Pg → Nat × Pg
  | 0, t => (0, t)
  | p + 1, t => if t (22 + p) ≤ v then (p + 1, t) else ins v p (up t (22 + (p + 1)) (t (22 + p)))
theorem ins_le (v : Int32) : ∀ (p : Nat) (t : Pg), (ins v p t).1 ≤ p
  | 0, _ => Nat.le_refl 0
  | p + 1, t => by
    unfold ins
    split
    · exact Nat.le_refl _
    · exact Nat.le_succ_of_le (ins_le v p _)
def srf (i : Nat) (t : Pg) : Pg := up (ins (t (22 + (i + 1))) (i + 1) t).2 (22 + (ins (t (22 + (i + 1))) (i + 1) t).1) (t (22 + (i + 1)))
def mvf (f : Nat) (i : Nat) (p : Int32 × Pg) : Int32 × Pg := if p.2 (30 + 7 * i + 1) = nI f ∧ ¬ p.2 (30 + 7 * i + 2) = 0 ∧ ¬ p.2 (30 + 7 * i + 2) = 4 then (p.1 + 1, lv p.2 i 0) else p
def mv (N f : Nat) (o : Bool) (y : Pg) : Int32 × Pg := if o then (0, up y (20 + f) 1) else fe (mvf f) N (0, up y (20 + f) 0)
/-- writes below the counts -/
theorem up_hi (y : Pg) {k j : Nat} (v : Int32) (h : k < j) : up y k v j = y j := up_ne y v (Nat.ne_of_gt h)
theorem fe_hi {f : Nat → Pg → Pg} {k : Nat} (y : Pg) {n : Nat} (h : ∀ i t, i < n → f i t k = t k) : fe f n y k = y k :=
  fe_inv (I := fun _ t => t k = y k) rfl fun i t hi e => (h i t hi).trans e
theorem shf_hi (Y i : Nat) (t : Pg) (h : Y ≤ 8) {k : Nat} (hk : 30 ≤ k) : shf Y i t k = t k := up_hi _ _ (by omega)
theorem dr1_hi (Y : Nat) (t : Pg) (h : Y ≤ 8) {k : Nat} (hk : 30 ≤ k) : dr1 Y t k = t k := by
  unfold dr1 inc
  rw [up_hi _ _ (by omega), up_hi _ _ (by omega), up_hi _ _ (by omega)]
  exact fe_hi t fun i u _ => shf_hi Y i u h hk
theorem dlv_hi (Y d : Nat) (y : Pg) (h : Y ≤ 8) {k : Nat} (hk : 30 ≤ k) : (dlv Y d y).2 k = y k :=
  fe_inv (I := fun (_ : Nat) (p : Int32 × Pg) => p.2 k = y k) rfl fun _ p _ e => (dr1_hi Y p.2 h hk).trans e
theorem dl_hi (Y d : Nat) (y : Pg) (h : Y ≤ 8) {k : Nat} (hk : 30 ≤ k) : dl Y d y k = y k := (up_hi _ _ (by omega)).trans (dlv_hi Y d y h hk)
theorem clf_hi (j : Nat) (t : Pg) (h : j < 8) {k : Nat} (hk : 30 ≤ k) : clf j t k = t k := by
  unfold clf inc
  split
  · rfl
  · rw [up_hi _ _ (by omega), up_hi _ _ (by omega)]
theorem ins_hi (v : Int32) {k : Nat} (hk : 30 ≤ k) : ∀ (p : Nat) (t : Pg), p < 8 → (ins v p t).2 k = t k
  | 0, _, _ => rfl
  | p + 1, t, h => by
    unfold ins
    split
    · rfl
    · rw [ins_hi v hk p _ (by omega), up_hi _ _ (by omega)]
theorem srf_hi (i : Nat) (t : Pg) (h : i + 1 < 8) {k : Nat} (hk : 30 ≤ k) : srf i t k = t k := by
  unfold srf
  rw [up_hi _ _ (by have := ins_le (t (22 + (i + 1))) (i + 1) t; omega), ins_hi _ hk _ _ (by omega)]
theorem mvf_hi (f i : Nat) (p : Int32 × Pg) (h : i < 5) {k : Nat} (hk : 65 ≤ k) : (mvf f i p).2 k = p.2 k := by
  unfold mvf
  split
  · show lv p.2 i 0 k = _
    unfold lv
    rw [up_hi _ _ (by omega), up_hi _ _ (by omega)]
  · rfl
section TANK
variable {C : Mem} {q r N Y : Nat} {y : Pg}
theorem neg_inc (a l : Int32) : a - l = a + -l := Int32.sub_eq_add_neg a l
theorem g_shiftC (hY : 1 ≤ Y) (h8 : Y ≤ 8) (q : Nat) (C : Mem) (y : Pg) : iter (fun w => S_X7_deliver_24 q w.1 w.2) fuel (nI Y - (1 : Int32), sr C q y) = some (nI 0, sr C q (fe (shf Y) (Y - 1) y)) := by
  rw [s1 (by omega)]
  exact iter_emb (n := Y - 1) (t0 := y) (fun i t => (nI (Y - 1 - i), sr C q t)) (shf Y) (fun _ _ => True) (fun t => (nI 0, sr C q t)) (by omega) trivial (fun i t hi _ => ⟨by
      show S_X7_deliver_24 q (nI (Y - 1 - i)) (sr C q t) = _
      unfold S_X7_deliver_24 shf
      rw [if_neg (nI_nle (by omega) (by omega)), s1 (by omega), gi_n (by omega) (by decide), gi_n (by omega) (by decide), nI_clamp (by omega), nI_clamp (by omega), nm_s, nm_s, m1 (by omega), sr_same, mu_sr, show Y - 1 - i - 1 = Y - 1 - (i + 1) by omega], trivial⟩) (fun t _ => by
      show S_X7_deliver_24 q (nI (Y - 1 - (Y - 1))) (sr C q t) = _
      unfold S_X7_deliver_24
      rw [Nat.sub_self, if_pos (by decide)])
theorem g_deliver (hY : y 66 = nI Y) (h1 : 1 ≤ Y) (h8 : Y ≤ 8) (q : Nat) {d : Nat} (hd : d < 1000) : F_X7_deliver q (nI d) (sr C q y) = some ((dlv Y d y).1, sr C q (dl Y d y)) := by
  have h : iter (fun w => S_X7_deliver_4 q (nI d) w.1 w.2.1 w.2.2) fuel ((0 : Int32), (0 : Int32), sr C q y) = some ((fe (dlf Y) d (0, y)).1, nI d, sr C q (fe (dlf Y) d (0, y)).2) :=
    iter_emb (n := d) (t0 := (0, y)) (fun i p => (p.1, nI i, sr C q p.2)) (dlf Y) (fun _ p => p.2 66 = nI Y) (fun p => (p.1, nI d, sr C q p.2)) hd hY (fun i p hi hp => ⟨by
      show S_X7_deliver_4 q (nI d) p.1 (nI i) (sr C q p.2) = _
      unfold S_X7_deliver_4
      rw [if_neg (nI_ge hi (by omega)), g_highest hp h1 h8, b2_s, nm_s, nm_s, sr_same, hp, g_shiftC h1 h8, b1_s, u2_s, nm_s, nm_s, nm_s, nm_s, cl_0, mu_sr, sr_same, mu_sr, sr_same, mu_sr, nI_1]
      rfl, (dr1_hi Y p.2 h8 (by decide)).trans hp⟩) (fun p _ => by
      show S_X7_deliver_4 q (nI d) p.1 (nI d) (sr C q p.2) = _
      unfold S_X7_deliver_4
      rw [if_pos (nI_le (Nat.le_refl d) (by omega))])
  unfold F_X7_deliver
  rw [h, b1_s, u3_s, nm_s, mu_sr, sr_same]
  rfl
theorem g_cool (hY : y 66 = nI Y) (h8 : Y ≤ 8) (q : Nat) : F_X7_cool q (sr C q y) = some (0, sr C q (fe clf Y y)) := by
  have h : iter (fun w => S_X7_cool_2 q w.1 w.2) fuel ((0 : Int32), sr C q y) = some (nI Y, sr C q (fe clf Y y)) :=
    iter_emb (n := Y) (t0 := y) (fun i t => (nI i, sr C q t)) clf (fun _ t => t 66 = nI Y) (fun t => (nI Y, sr C q t)) (by omega) hY (fun i t hi ht => ⟨by
      show S_X7_cool_2 q (nI i) (sr C q t) = _
      unfold S_X7_cool_2 clf
      rw [sr_same, ht, if_neg (nI_ge hi (by omega)), gi_n (by omega) (by decide), nI_clamp (by omega)]
      split
      · rw [nm_s, nI_1]
      · rw [gi_n (by omega) (by decide), nm_s, gi_n (by omega) (by decide), gi_n (by omega) (by decide), nm_s, nm_s, nm_s, nI_1, mu_sr, sr_same, mu_sr, neg_inc]
        rfl, (clf_hi i t (by omega) (by decide)).trans ht⟩) (fun t ht => by
      show S_X7_cool_2 q (nI Y) (sr C q t) = _
      unfold S_X7_cool_2
      rw [sr_same, ht, if_pos (nI_le (Nat.le_refl Y) (by omega))])
  unfold F_X7_cool
  rw [h, b1_s, u2_s]
theorem g_insC (q : Nat) (v : Int32) : ∀ (p : Nat) (t : Pg) (m : Nat), p < 8 → iter (fun w => S_X7_putInOrder_19 q v w.1 w.2) (p + 1 + m) (nI p, sr C q t) = some (nI (ins v p t).1, sr C q (ins v p t).2)
  | 0, t, m, _ => by
    rw [show 0 + 1 + m = m + 1 by omega]
    refine iter_e _ ?_ m
    show S_X7_putInOrder_19 q v (nI 0) (sr C q t) = _
    unfold S_X7_putInOrder_19 ins
    rw [if_pos (by decide)]
  | p + 1, t, m, h => by
    rw [show p + 1 + 1 + m = (p + 1 + m) + 1 by omega]
    unfold ins
    by_cases hl : t (22 + p) ≤ v
    · rw [if_pos hl]
      refine iter_e _ ?_ _
      show S_X7_putInOrder_19 q v (nI (p + 1)) (sr C q t) = _
      unfold S_X7_putInOrder_19
      rw [if_neg (nI_nle (by omega) (by omega)), nI_pred, gi_n (by omega) (by decide), nI_clamp (by omega), sr_same, if_pos hl]
    · rw [if_neg hl, ← g_insC q v p (up t (22 + (p + 1)) (t (22 + p))) m (by omega)]
      refine iter_s _ ?_ _
      show S_X7_putInOrder_19 q v (nI (p + 1)) (sr C q t) = _
      unfold S_X7_putInOrder_19
      rw [if_neg (nI_nle (by omega) (by omega)), nI_pred, gi_n (by omega) (by decide), nI_clamp (by omega), sr_same, if_neg hl, gi_n (by omega) (by decide), gi_n (by omega) (by decide), nI_clamp (by omega), nm_s, nm_s, mu_sr, m1 (by omega)]
      rfl
theorem g_insC' (q : Nat) (v : Int32) {p : Nat} (t : Pg) (h : p < 8) : iter (fun w => S_X7_putInOrder_19 q v w.1 w.2) fuel (nI p, sr C q t) = some (nI (ins v p t).1, sr C q (ins v p t).2) := by
  rw [show fuel = p + 1 + (999 - p) by unfold fuel; omega]
  exact g_insC q v p t _ h
theorem g_sort (hY : y 66 = nI Y) (h1 : 1 ≤ Y) (h8 : Y ≤ 8) (q : Nat) : F_X7_putInOrder q (sr C q y) = some (0, sr C q (fe srf (Y - 1) y)) := by
  have h : iter (fun w => S_X7_putInOrder_2 q w.1 w.2) fuel ((1 : Int32), sr C q y) = some (nI (Y - 1 + 1), sr C q (fe srf (Y - 1) y)) :=
    iter_emb (n := Y - 1) (t0 := y) (fun i t => (nI (i + 1), sr C q t)) srf (fun _ t => t 66 = nI Y) (fun t => (nI (Y - 1 + 1), sr C q t)) (by omega) hY (fun i t hi ht => ⟨by
      show S_X7_putInOrder_2 q (nI (i + 1)) (sr C q t) = _
      have hle := ins_le (t (22 + (i + 1))) (i + 1) t
      unfold S_X7_putInOrder_2 srf
      rw [sr_same, ht, if_neg (nI_ge (show i + 1 < Y by omega) (by omega)), gi_n (by omega) (by decide), nI_clamp (by omega), nm_s, g_insC' q _ t (by omega), b1_s, u2_s, gi_n (by omega) (by decide), nI_clamp (by omega), nm_s, nm_s, mu_sr, nI_1], (srf_hi i t (by omega) (by decide)).trans ht⟩) (fun t ht => by
      show S_X7_putInOrder_2 q (nI (Y - 1 + 1)) (sr C q t) = _
      unfold S_X7_putInOrder_2
      rw [sr_same, ht, if_pos (nI_le (by omega) (by omega))])
  unfold F_X7_putInOrder
  rw [h, b1_s, u2_s]
theorem g_moveFlue (hN : y 65 = nI N) (h5 : N ≤ 5) (q : Nat) {f : Nat} (hf : f < 2) (o : Bool) : F_X5_moveFlue q (nI f) (if o then 1 else 0) (sr C q y) = some ((mv N f o y).1, sr C q (mv N f o y).2) := by
  unfold F_X5_moveFlue
  rw [f_flueOf, b2_s, show (if nI f = 0 then 0 else 1) = f by rcases (show f = 0 ∨ f = 1 by omega) with rfl | rfl <;> decide, gn_p hf, gb_p (by cases o <;> decide), nm_s, mu_sr]
  have hN1 : ∀ v, (up y (20 + f) v) 65 = nI N := fun v => (up_hi _ _ (by omega)).trans hN
  cases o with
  | true =>
    have h : iter (fun w => S_X5_moveFlue_14 q (nI f) 1 w.1 w.2.1 w.2.2) fuel ((0 : Int32), (0 : Int32), sr C q (up y (20 + f) 1)) = some (0, 0, sr C q (up y (20 + f) 1)) := by
      refine iter_e _ ?_ 999
      show S_X5_moveFlue_14 q (nI f) 1 0 0 (sr C q (up y (20 + f) 1)) = _
      unfold S_X5_moveFlue_14
      split
      · rfl
      · rw [if_neg (by decide)]
    simp only [if_true]
    rw [h, b1_s, u3_s]
    rfl
  | false =>
    have h : iter (fun w => S_X5_moveFlue_14 q (nI f) 0 w.1 w.2.1 w.2.2) fuel ((0 : Int32), (0 : Int32), sr C q (up y (20 + f) 0)) = some ((fe (mvf f) N (0, up y (20 + f) 0)).1, nI N, sr C q (fe (mvf f) N (0, up y (20 + f) 0)).2) :=
      iter_emb (n := N) (t0 := (0, up y (20 + f) 0)) (fun i p => (p.1, nI i, sr C q p.2)) (mvf f) (fun _ p => p.2 65 = nI N) (fun p => (p.1, nI N, sr C q p.2)) (by omega) (hN1 0) (fun i p hi hp => ⟨by
        show S_X5_moveFlue_14 q (nI f) 0 p.1 (nI i) (sr C q p.2) = _
        unfold S_X5_moveFlue_14 mvf
        rw [sr_same, hp, if_neg (nI_ge hi (by omega)), if_pos rfl, gi_n (by omega) (by decide), nI_clamp (by omega)]
        by_cases h1 : p.2 (30 + 7 * i + 1) = nI f
        · rw [if_pos h1]
          by_cases h2 : p.2 (30 + 7 * i + 2) = 0
          · rw [if_pos h2, if_neg (fun z => z.2.1 h2), nm_s, nI_1]
          · rw [if_neg h2]
            by_cases h3 : p.2 (30 + 7 * i + 2) = 4
            · rw [if_pos h3, if_neg (fun z => z.2.2 h3), nm_s, nI_1]
            · rw [if_neg h3, if_pos ⟨h1, h2, h3⟩, g_leave, b2_s, nm_s, nm_s, nI_1]
        · rw [if_neg h1, if_neg (fun z => h1 z.1), nm_s, nI_1], (mvf_hi f i p (by omega) (by decide)).trans hp⟩) (fun p hp => by
        show S_X5_moveFlue_14 q (nI f) 0 p.1 (nI N) (sr C q p.2) = _
        unfold S_X5_moveFlue_14
        rw [sr_same, hp, if_pos (nI_le (Nat.le_refl N) (by omega))])
    simp only [Bool.false_eq_true, if_false]
    rw [h, b1_s, u3_s]
    rfl
end TANK

