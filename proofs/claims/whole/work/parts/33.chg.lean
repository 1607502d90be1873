/-! what the changing methods do to a page: small ones -/
def lv (y : Pg) (i : Nat) (x : Int32) : Pg := up (up y (30 + 7 * i + 2) x) (30 + 7 * i + 3) 0
def inc (y : Pg) (k : Nat) (v : Int32) : Pg := up y k (y k + v)
def stt (y : Pg) (i : Nat) (p : Int32) : Pg := if y (30 + 7 * i + 2) = 3 then inc (up y (30 + 7 * i + 2) 2) (30 + 7 * i + 5) 1 else inc (up (up y (30 + 7 * i + 2) 1) (30 + 7 * i + 3) p) (30 + 7 * i + 5) 1
def wkP (y : Pg) (i : Nat) : Pg := if y (30 + 7 * i + 2) = 1 then (if 0 < y (30 + 7 * i + 3) - 1 then up y (30 + 7 * i + 3) (y (30 + 7 * i + 3) - 1) else lv y i 2) else if y (30 + 7 * i + 2) = 2 then inc (inc y (30 + 7 * i + 4) 1) (30 + 7 * i + 6) (y (30 + 7 * i)) else if y (30 + 7 * i + 2) = 3 then inc y (30 + 7 * i + 6) 1 else y
def wkV (y : Pg) (i : Nat) : Int32 := if y (30 + 7 * i + 2) = 2 then y (30 + 7 * i) else 0
def kend (y : Pg) : Pg := up (up (up y 8 0) 9 0) 10 0
def klT (y : Pg) (h : Bool) : Pg := if y 8 = 0 then y else
  let y1 := up (inc y 10 1) 9 (if h then y 9 + 1 else 0)
  if y1 9 < y1 4 then (if y1 10 < 12 then y1 else kend (inc y1 12 1)) else kend (inc y1 11 1)
section CHG
variable {C : Mem} {q r N Y : Nat} {y : Pg}
theorem g_leave (q i : Nat) (x : Int32) : F_X0_leaveFor q i x (sr C q y) = some (0, sr C q (lv y i x)) := by
  unfold F_X0_leaveFor lv
  rw [nm_s, nm_s, mu_sr, mu_sr]
theorem g_start (q i : Nat) (p : Int32) : F_X0_start q i p (sr C q y) = some (0, sr C q (stt y i p)) := by
  unfold F_X0_start stt inc
  rw [sr_same]
  split
  · rw [nm_s, nm_s, mu_sr, mu_sr, sr_same]
  · rw [nm_s, nm_s, nm_s, mu_sr, mu_sr, mu_sr, sr_same]
theorem g_work (q i : Nat) : F_X0_work q i (sr C q y) = some (wkV y i, sr C q (wkP y i)) := by
  unfold F_X0_work wkP wkV
  rw [sr_same]
  by_cases h1 : y (30 + 7 * i + 2) = 1
  · rw [if_pos h1, if_pos h1, if_neg (by rw [h1]; decide), nm_s, mu_sr, sr_same, up_same]
    split
    · rfl
    · rw [g_leave, b2_s]
      unfold lv
      rw [up_comm y _ _ (by omega), up_up]
  · rw [if_neg h1, if_neg h1]
    by_cases h2 : y (30 + 7 * i + 2) = 2
    · rw [if_pos h2, if_pos h2, if_pos h2, nm_s, nm_s, mu_sr, mu_sr, sr_same, sr_same]
      unfold inc
      rw [up_ne y _ (show 30 + 7 * i ≠ 30 + 7 * i + 4 by omega), up_ne _ _ (show 30 + 7 * i ≠ 30 + 7 * i + 6 by omega), up_ne y _ (show 30 + 7 * i ≠ 30 + 7 * i + 4 by omega)]
    · rw [if_neg h2, if_neg h2, if_neg h2]
      by_cases h3 : y (30 + 7 * i + 2) = 3
      · rw [if_pos h3, if_pos h3, nm_s, mu_sr]
        rfl
      · rw [if_neg h3, if_neg h3]
theorem g_end (q : Nat) : F_X3_end q (sr C q y) = some (0, sr C q (kend y)) := by
  unfold F_X3_end kend
  rw [nm_s, nm_s, nm_s, mu_sr, mu_sr, mu_sr]
theorem g_countTick (q : Nat) (h : Bool) : F_X3_countTick q (if h then 1 else 0) (y 4) (sr C q y) = some (0, sr C q (klT y h)) := by
  have kJ : ∀ v : Int32, J_X3_countTick_33 q (y 4) (sr C q (inc y 10 1)) v = some (0, sr C q (if (up (inc y 10 1) 9 v) 9 < (up (inc y 10 1) 9 v) 4 then (if (up (inc y 10 1) 9 v) 10 < 12 then up (inc y 10 1) 9 v else kend (inc (up (inc y 10 1) 9 v) 12 1)) else kend (inc (up (inc y 10 1) 9 v) 11 1))) := fun v => by
    unfold J_X3_countTick_33
    rw [nm_s, mu_sr, sr_same, show (up (inc y 10 1) 9 v) 4 = y 4 by unfold inc; rw [up_ne _ _ (by decide), up_ne _ _ (by decide)]]
    split
    · split
      · rfl
      · rw [nm_s, mu_sr, g_end, b2_s]
        rfl
    · rw [nm_s, mu_sr, g_end, b2_s]
      rfl
  unfold F_X3_countTick klT
  rw [sr_same]
  by_cases h8 : y 8 = 0
  · rw [if_pos h8, if_pos h8]
  · rw [if_neg h8, if_neg h8, nm_s, mu_sr, sr_same]
    cases h with
    | false =>
      rw [if_pos (by decide)]
      exact kJ 0
    | true =>
      rw [if_neg (by decide), up_ne y _ (show 9 ≠ 10 by decide)]
      exact kJ (y 9 + 1)
theorem g_highest (hY : y 66 = nI Y) (h1 : 1 ≤ Y) (h8 : Y ≤ 8) (q : Nat) : F_X7_highest q (sr C q y) = some (y (22 + (Y - 1)), sr C q y) := by
  unfold F_X7_highest
  rw [sr_same, hY, if_neg (nI_nle (by omega) (by omega)), s1 (by omega), gi_n (by omega) (by decide), nI_clamp (by omega)]
/-! the model's -/
theorem g_put (r : Nat) {i : Nat} (hi : i < 5) (x : Int32) (ha : alen r = 65) : F_X9_put r (nI i) x (sr C r y) = some (0, sr C r (lv y i x)) := by
  unfold F_X9_put lv
  rw [at_s, a2, ha, gi_n (by omega) (by decide), nI_clamp (by omega), nm_s, at_s, a3, gi_n (by omega) (by decide), nI_clamp (by omega), nm_s, mu_sr, mu_sr]
theorem g_startOn (r : Nat) {i : Nat} (hi : i < 5) (ha : alen r = 65) (hw : wt y i) (hl : y (30 + 7 * i + 2) = 3 → y (30 + 7 * i + 3) = 0) : F_X9_startOn r (nI i) (sr C r y) = some (0, sr C r (stt y i (y 2))) := by
  unfold F_X9_startOn stt
  rw [at_s, a2, ha, gi_n (by omega) (by decide), nI_clamp (by omega), sr_same]
  rcases hw with h0 | h3
  · rw [if_pos h0, if_neg (by rw [h0]; decide)]
    unfold J_X9_startOn_16
    rw [at_s, if_neg (by decide)]
    unfold J_X9_startOn_33
    rw [a2, ha, gi_n (by omega) (by decide), nI_clamp (by omega), nm_s, mu_sr, at_s, if_neg (by decide)]
    unfold J_X9_startOn_52
    rw [ha, gl_2, cl_2, a3, gi_n (by omega) (by decide), nI_clamp (by omega), nm_s, sr_same, mu_sr, at_s, a5, gi_n (by omega) (by decide), nI_clamp (by omega), gi_n (by omega) (by decide), nm_s, sr_same, mu_sr]
    unfold inc
    rw [up_ne y _ (show (2 : Nat) ≠ 30 + 7 * i + 2 by omega)]
  · rw [if_neg (by rw [h3]; decide), if_pos h3]
    unfold J_X9_startOn_16
    rw [at_s, if_pos rfl]
    unfold J_X9_startOn_33
    rw [a2, ha, gi_n (by omega) (by decide), nI_clamp (by omega), nm_s, mu_sr, at_s, if_pos rfl]
    unfold J_X9_startOn_52
    rw [ha, a3, gi_n (by omega) (by decide), nI_clamp (by omega), nm_s, mu_sr, at_s, a5, gi_n (by omega) (by decide), nI_clamp (by omega), gi_n (by omega) (by decide), nm_s, sr_same, mu_sr, up_id' (y := up y (30 + 7 * i + 2) 2) (k := 30 + 7 * i + 3) (by rw [up_ne _ _ (by omega), hl h3])]
    rfl
theorem g_watch (r : Nat) (ha : alen r = 65) (h10 : y 10 < 12) (h10' : 0 ≤ y 10) : F_X9_watch r (sr C r y) = some (0, sr C r (klT y (decide (y 3 ≤ y 22)))) := by
  have kJ : ∀ v : Int32, J_X9_watch_39 r (sr C r (inc y 10 1)) v = some (0, sr C r (if (up (inc y 10 1) 9 v) 9 < (up (inc y 10 1) 9 v) 4 then (if (up (inc y 10 1) 9 v) 10 < 12 then up (inc y 10 1) 9 v else kend (inc (up (inc y 10 1) 9 v) 12 1)) else kend (inc (up (inc y 10 1) 9 v) 11 1))) := fun v => by
    unfold J_X9_watch_39
    rw [ha, gl_9, nm_s, cl_9, mu_sr, gl_9, gl_4, sr_same, cl_4]
    have hz10 : (up (inc y 10 1) 9 v) 10 = y 10 + 1 := by
      unfold inc
      rw [up_ne _ _ (by decide), up_same]
    generalize up (inc y 10 1) 9 v = z at hz10 ⊢
    have t10 : ¬ z 10 = 12 → z 10 < 12 := fun h => by
      rw [hz10] at h ⊢
      rw [fa_lt] at h10 ⊢
      rw [fa_le] at h10'
      rw [fa_eq] at h
      have e12' : (12 : Int32).toInt = 12 := rfl
      have e0' : (0 : Int32).toInt = 0 := rfl
      have e1' : (1 : Int32).toInt = 1 := rfl
      have ea : (y 10 + 1).toInt = (y 10).toInt + 1 := i_add (by omega) (by omega)
      omega
    have k105 : ∀ (a b w : Int32) (z : Pg), J_X9_watch_105 r a b (sr C r z) w = some (0, sr C r (if a = 0 ∧ b = 0 then inc z 12 w else kend (inc z 12 w))) := fun a b w z => by
      unfold J_X9_watch_105
      rw [ha, gl_12, nm_s, cl_12, mu_sr, sr_same]
      by_cases h1 : a = 0
      · rw [if_pos h1]
        by_cases h2 : b = 0
        · rw [if_pos h2, if_pos ⟨h1, h2⟩]
          rfl
        · rw [if_neg h2, if_neg (fun q => h2 q.2), gl_8, nm_s, cl_8, gl_9, nm_s, cl_9, gl_10, nm_s, cl_10, mu_sr, mu_sr, mu_sr]
          rfl
      · rw [if_neg h1, if_neg (fun q => h1 q.1), gl_8, nm_s, cl_8, gl_9, nm_s, cl_9, gl_10, nm_s, cl_10, mu_sr, mu_sr, mu_sr]
        rfl
    have k89 : ∀ (a b w : Int32), J_X9_watch_89 r (sr C r z) a b w = J_X9_watch_105 r a b (sr C r (inc z 11 w)) (if b = 0 then 0 else 1) := fun a b w => by
      unfold J_X9_watch_89
      rw [ha, gl_11, nm_s, cl_11, mu_sr, sr_same, gl_12]
      split <;> rfl
    have k74 : ∀ (a b : Int32), J_X9_watch_74 r (sr C r z) a b = J_X9_watch_89 r (sr C r z) a b (if a = 0 then 0 else 1) := fun a b => by
      unfold J_X9_watch_74
      rw [ha, gl_11]
      split <;> rfl
    have i0 : ∀ (z : Pg) (k : Nat), inc z k 0 = z := inc_0
    unfold J_X9_watch_55
    rw [ha, gl_10, cl_10, sr_same]
    by_cases h9 : z 9 < z 4
    · rw [if_pos h9, if_pos rfl, if_pos h9]
      by_cases h12 : z 10 = 12
      · rw [if_pos h12, k74, k89, k105, if_pos rfl, if_neg (by decide), if_neg (by decide), if_neg (by rw [h12]; decide), i0]
      · rw [if_neg h12, k74, k89, k105, if_pos rfl, if_pos ⟨rfl, rfl⟩, if_pos (t10 h12), i0, i0]
    · rw [if_neg h9, if_neg (by decide), if_neg h9, k74, k89, k105, if_neg (by decide), if_pos rfl, if_neg (by decide), i0]
  unfold F_X9_watch klT
  rw [ha, gl_8, sr_same, cl_8]
  by_cases h8 : y 8 = 0
  · rw [if_pos h8, if_pos h8]
  · rw [if_neg h8, if_neg h8, gl_10, gl_10, nm_s, cl_10, mu_sr, gl_22, gl_3, gl_9, sr_same, cl_22, cl_3, cl_9, up_ne y _ (show 22 ≠ 10 by decide), up_ne y _ (show 3 ≠ 10 by decide), up_ne y _ (show 9 ≠ 10 by decide)]
    by_cases h : y 22 < y 3
    · rw [if_pos h, show decide (y 3 ≤ y 22) = false by simpa using (fa_of_lt h).2.1]
      exact kJ 0
    · rw [if_neg h, show decide (y 3 ≤ y 22) = true by simpa using fa_of_nlt h]
      exact kJ (y 9 + 1)
end CHG
