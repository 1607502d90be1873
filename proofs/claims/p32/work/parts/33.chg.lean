/-! what the changing methods do to a page: small ones -/
def lv (y : Pg) (i : Nat) (x : Int32) : Pg := up (up y (30 + 7 * i + 2) x) (30 + 7 * i + 3) 0
def inc (y : Pg) (k : Nat) (v : Int32) : Pg := up y k (y k + v)
def stt (y : Pg) (i : Nat) (p : Int32) : Pg := if y (30 + 7 * i + 2) = 3 then inc (up y (30 + 7 * i + 2) 2) (30 + 7 * i + 5) 1 else inc (up (up y (30 + 7 * i + 2) 1) (30 + 7 * i + 3) p) (30 + 7 * i + 5) 1
def wkP (y : Pg) (i : Nat) : Pg := if y (30 + 7 * i + 2) = 1 then (if 0 < y (30 + 7 * i + 3) - 1 then up y (30 + 7 * i + 3) (y (30 + 7 * i + 3) - 1) else lv y i 2) else if y (30 + 7 * i + 2) = 2 then inc (inc y (30 + 7 * i + 4) 1) (30 + 7 * i + 6) (y (30 + 7 * i)) else if y (30 + 7 * i + 2) = 3 then inc y (30 + 7 * i + 6) 1 else y
def wkV (y : Pg) (i : Nat) : Int32 := if y (30 + 7 * i + 2) = 2 then y (30 + 7 * i) else 0
def kend (y : Pg) : Pg := up (up (up y 8 0) 9 0) 10 0
def klT (y : Pg) (h : Bool) : Pg := if y 8 = 0 then y else
  let y1 := up (inc y 10 1) 9 (if h then y 9 + 1 else 0)
  if y1 9 < y1 4 then (if y1 10 < 12 then y1 else kend (inc y1 12 1)) else kend (inc y1 11 1)
section CHG
variable {C : Mem} {q r N Y : Nat} {y : Pg}
theorem g_leave (q i : Nat) (x : Int32) : F_X0_leaveFor q i x (sr C q y) = some (0, sr C q (lv y i x)) := by
  unfold F_X0_leaveFor lv
  rw [nm_s, nm_s, mu_sr, mu_sr]
theorem g_start (q i : Nat) (p : Int32) : F_X0_start q i p (sr C q y) = some (0, sr C q (stt y i p)) := by
  unfold F_X0_start stt inc
  rw [sr_same]
  split
  · rw [nm_s, nm_s, mu_sr, mu_sr, sr_same]
  · rw [nm_s, nm_s, nm_s, mu_sr, mu_sr, mu_sr, sr_same]
theorem g_work (q i : Nat) : F_X0_work q i (sr C q y) = some (wkV y i, sr C q (wkP y i)) := by
  unfold F_X0_work wkP wkV
  rw [sr_same]
  by_cases h1 : y (30 + 7 * i + 2) = 1
  · rw [if_pos h1, if_pos h1, if_neg (by rw [h1]; decide), nm_s, mu_sr, sr_same, up_same]
    split
    · rfl
    · rw [g_leave, b2_s]
      unfold lv
      rw [up_comm y _ _ (by omega), up_up]
  · rw [if_neg h1, if_neg h1]
    by_cases h2 : y (30 + 7 * i + 2) = 2
    · rw [if_pos h2, if_pos h2, if_pos h2, nm_s, nm_s, mu_sr, mu_sr, sr_same, sr_same]
      unfold inc
      rw [up_ne y _ (show 30 + 7 * i ≠ 30 + 7 * i + 4 by omega), up_ne _ _ (show 30 + 7 * i ≠ 30 + 7 * i + 6 by omega), up_ne y _ (show 30 + 7 * i ≠ 30 + 7 * i + 4 by omega)]
    · rw [if_neg h2, if_neg h2, if_neg h2]
      by_cases h3 : y (30 + 7 * i + 2) = 3
      · rw [if_pos h3, if_pos h3, nm_s, mu_sr]
        rfl
      · rw [if_neg h3, if_neg h3]
theorem g_end (q : Nat) : F_X3_end q (sr C q y) = some (0, sr C q (kend y)) := by
  unfold F_X3_end kend
  rw [nm_s, nm_s, nm_s, mu_sr, mu_sr, mu_sr]
theorem g_countTick (q : Nat) (h : Bool) : F_X3_countTick q (if h then 1 else 0) (y 4) (sr C q y) = some (0, sr C q (klT y h)) := by
  have kJ : ∀ v : Int32, J_X3_countTick_33 q (y 4) (sr C q (inc y 10 1)) v = some (0, sr C q (if (up (inc y 10 1) 9 v) 9 < (up (inc y 10 1) 9 v) 4 then (if (up (inc y 10 1) 9 v) 10 < 12 then up (inc y 10 1) 9 v else kend (inc (up (inc y 10 1) 9 v) 12 1)) else kend (inc (up (inc y 10 1) 9 v) 11 1))) := fun v => by
    unfold J_X3_countTick_33
    rw [nm_s, mu_sr, sr_same, show (up (inc y 10 1) 9 v) 4 = y 4 by unfold inc; rw [up_ne _ _ (by decide), up_ne _ _ (by decide)]]
    split
    · split
      · rfl
      · rw [nm_s, mu_sr, g_end, b2_s]
        rfl
    · rw [nm_s, mu_sr, g_end, b2_s]
      rfl
  unfold F_X3_countTick klT
  rw [sr_same]
  by_cases h8 : y 8 = 0
  · rw [if_pos h8, if_pos h8]
  · rw [if_neg h8, if_neg h8, nm_s, mu_sr, sr_same]
    cases h with
    | false =>
      rw [if_pos (by decide)]
      exact kJ 0
    | true =>
      rw [if_neg (by decide), up_ne y _ (show 9 ≠ 10 by decide)]
      exact kJ (y 9 + 1)
theorem g_highest (hY : y 66 = nI Y) (h1 : 1 ≤ Y) (h8 : Y ≤ 8) (q : Nat) : F_X7_highest q (sr C q y) = some (y (22 + (Y - 1)), sr C q y) := by
  unfold F_X7_highest
  rw [sr_same, hY, if_neg (nI_nle (by omega) (by omega)), s1 (by omega), gi_n (by omega) (by decide), nI_clamp (by omega)]
/-! the model's -/
end CHG

