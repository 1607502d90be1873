/-! the smallest set -/
def bcv (x0 : Int32) : Int32 :=
  let v1 := x0 - ((((x0).toUInt32 >>> (((1 : Int32)).toUInt32 &&& Int32.toUInt32 31)).toInt32) &&& (1431655765 : Int32))
  let v2 := (v1 &&& (858993459 : Int32)) + ((((v1).toUInt32 >>> (((2 : Int32)).toUInt32 &&& Int32.toUInt32 31)).toInt32) &&& (858993459 : Int32))
  let v3 := (v2 + (((v2).toUInt32 >>> (((4 : Int32)).toUInt32 &&& Int32.toUInt32 31)).toInt32)) &&& (252645135 : Int32)
  let v4 := v3 + (((v3).toUInt32 >>> (((8 : Int32)).toUInt32 &&& Int32.toUInt32 31)).toInt32)
  let v5 := v4 + (((v4).toUInt32 >>> (((16 : Int32)).toUInt32 &&& Int32.toUInt32 31)).toInt32)
  v5 &&& (63 : Int32)
theorem f_bc (x : Int32) (C : Mem) : F_J6_bitCount_0f7a4 x C = some (bcv x, C) := rfl
def mnS (N : Nat) (bits : Int32) : Int32 := sm (fun i => if ((bits >>> (nI i &&& 31)) &&& 1) = 1 then 1 else 0) N
theorem bc_n : ∀ N : Nat, N < 6 → ∀ b : Nat, b < 2 ^ N → bcv (nI b) = mnS N (nI b) := by decide +kernel
theorem two_n : ∀ N : Nat, N < 6 → (1 : Int32) <<< (nI N &&& 31) = nI (2 ^ N) ∧ 2 ^ N ≤ 32 ∧ 1 ≤ 2 ^ N := by decide +kernel
theorem bits_0 : ∀ i : Nat, i < 5 → ((nI 0 >>> (nI i &&& 31)) &&& (1 : Int32)) = 0 := by decide +kernel
def pwA (N : Nat) (bits : Int32) (y : Pg) : Int32 := pwS N 0 bits y + pwS N 1 bits y
def okB (N : Nat) (heat : Int32) (y : Pg) (b : Int32) : Bool := !(decide (pwA N b y < heat)) && (!(decide (y 18 < pwS N 0 b y)) && !(decide (y 19 < pwS N 1 b y)))
def smB (N : Nat) (y : Pg) (b c : Int32) : Bool := decide (mnS N b < mnS N c) || (decide (mnS N b = mnS N c) && decide (pwA N b y < pwA N c y))
def bsf (N : Nat) (heat : Int32) (y : Pg) (i best : Nat) : Nat := if okB N heat y (nI (i + 1)) then (if best = 0 then i + 1 else if smB N y (nI (i + 1)) (nI best) then i + 1 else best) else best
def bss (N : Nat) (heat : Int32) (y : Pg) : Nat := fe (bsf N heat y) (2 ^ N - 1) 0
section SET
variable {C : Mem} {K N Y : Nat}
theorem pwA_c {y z : Pg} (h : Agree N Y y z) (b : Int32) : pwA N b y = pwA N b z := by
  unfold pwA
  rw [pwS_c h, pwS_c h]
theorem okB_c {y z : Pg} (h : Agree N Y y z) (heat b : Int32) : okB N heat y b = okB N heat z b := by
  unfold okB
  rw [pwA_c h, pwS_c h, pwS_c h, h.1 18 (by decide), h.1 19 (by decide)]
theorem smB_c {y z : Pg} (h : Agree N Y y z) (b c : Int32) : smB N y b c = smB N z b c := by
  unfold smB
  rw [pwA_c h, pwA_c h]
theorem bss_c {y z : Pg} (h : Agree N Y y z) (heat : Int32) : bss N heat y = bss N heat z := by
  refine fe_cong fun i t _ => ?_
  unfold bsf
  rw [okB_c h, smB_c h]
theorem bsf_le {heat : Int32} {y : Pg} {i best : Nat} (h : best ≤ i) : bsf N heat y i best ≤ i + 1 := by
  unfold bsf
  split
  · split
    · exact Nat.le_refl _
    · split <;> omega
  · omega
theorem f_powerOf (hN : C 0 65 = nI N) (h5 : N ≤ 5) (b : Int32) : F_X5_powerOf 0 b C = some (pwA N b (C 0), C) := by
  unfold F_X5_powerOf
  rw [f_powerAt hN h5, b2_s, f_powerAt hN h5, b2_s]
  rfl
theorem f_fits (hN : C 0 65 = nI N) (h5 : N ≤ 5) (b : Int32) : F_X5_fitsDrafts 0 b C = some ((if C 0 18 < pwS N 0 b (C 0) then 0 else if C 0 19 < pwS N 1 b (C 0) then 0 else 1), C) := by
  unfold F_X5_fitsDrafts
  rw [f_powerAt hN h5, b2_s]
  show (if C 0 18 < pwS N 0 b (C 0) then _ else _) = _
  by_cases h1 : C 0 18 < pwS N 0 b (C 0)
  · rw [if_pos h1, if_pos h1]
  · rw [if_neg h1, if_neg h1, f_powerAt hN h5, b2_s]
    show (if C 0 19 < pwS N 1 b (C 0) then _ else _) = _
    by_cases h2 : C 0 19 < pwS N 1 b (C 0)
    · rw [if_pos h2, if_pos h2]
    · rw [if_neg h2, if_neg h2]
theorem f_smaller (hN : C 0 65 = nI N) (h5 : N ≤ 5) {a b : Nat} (ha : a < 2 ^ N) (hb : b < 2 ^ N) : F_X5_isSmallerSet 0 (nI a) (nI b) C = some ((if smB N (C 0) (nI a) (nI b) then 1 else 0), C) := by
  unfold F_X5_isSmallerSet smB
  rw [f_bc, b2_s, f_bc, b2_s, bc_n N (by omega) a ha, bc_n N (by omega) b hb]
  by_cases h1 : mnS N (nI a) < mnS N (nI b)
  · rw [if_pos h1]
    simp [h1]
  · rw [if_neg h1]
    by_cases h2 : mnS N (nI a) = mnS N (nI b)
    · rw [if_pos h2, f_powerOf hN h5, b2_s, f_powerOf hN h5, b2_s]
      by_cases h3 : pwA N (nI a) (C 0) < pwA N (nI b) (C 0)
      · rw [if_neg (fa_of_lt h3).2.1]
        simp [h2, h3]
      · rw [if_pos (fa_of_nlt h3)]
        have hn : ¬ mnS N (nI b) < mnS N (nI b) := by rw [fa_lt]; omega
        simp [h2, h3, hn]
    · rw [if_neg h2]
      simp [h1, h2]
theorem c_set (hN : C 0 65 = nI N) (h5 : N ≤ 5) (heat : Int32) : iter (fun w => S_X8_smallestSet_13 heat w.1 w.2.1 w.2.2) fuel ((0 : Int32), (1 : Int32), C) = some (nI (bss N heat (C 0)), nI (2 ^ N - 1 + 1), C) := by
  obtain ⟨t1, t2, t3⟩ := two_n N (by omega)
  exact iter_emb (n := 2 ^ N - 1) (t0 := 0) (fun i b => (nI b, nI (i + 1), C)) (bsf N heat (C 0)) (fun i b => b ≤ i) (fun b => (nI b, nI (2 ^ N - 1 + 1), C)) (by omega) (Nat.le_refl 0) (fun i b hi hb => ⟨by
    show S_X8_smallestSet_13 heat (nI b) (nI (i + 1)) C = some (.inl (nI (bsf N heat (C 0) i b), nI (i + 1 + 1), C))
    have j57 : ∀ v : Int32, J_X8_smallestSet_57 (nI b) (nI (i + 1)) v C = some (.inl (nI (if v = 0 then b else if b = 0 then i + 1 else if smB N (C 0) (nI (i + 1)) (nI b) then i + 1 else b), nI (i + 1 + 1), C)) := fun v => by
      unfold J_X8_smallestSet_57
      by_cases c0 : v = 0
      · rw [if_pos c0, if_pos c0, nm_s, nI_1]
      · rw [if_neg c0, if_neg c0]
        by_cases c1 : b = 0
        · subst c1
          rw [if_pos (by decide), if_pos rfl, nm_s, nI_1]
        · rw [if_neg (nI_ne0 (by omega) (by omega)), if_neg c1, f_smaller hN h5 (by omega) (by omega), b2_s]
          cases smB N (C 0) (nI (i + 1)) (nI b) with
          | true => rw [if_pos rfl, if_neg (by decide), nm_s, nI_1]; rfl
          | false => rw [if_pos (show (if false = true then (1 : Int32) else 0) = 0 by decide), nm_s, nI_1]; rfl
    unfold S_X8_smallestSet_13 bsf okB
    rw [hN, t1, if_neg (nI_ge (show i + 1 < 2 ^ N by omega) (by omega)), f_powerOf hN h5, b2_s, f_fits hN h5, j57, b2_s]
    by_cases c1 : pwA N (nI (i + 1)) (C 0) < heat
    · rw [if_pos c1]
      simp [c1]
    · rw [if_neg c1]
      by_cases c2 : C 0 18 < pwS N 0 (nI (i + 1)) (C 0)
      · rw [if_pos c2, if_pos rfl, j57]
        simp [c2]
      · rw [if_neg c2]
        by_cases c3 : C 0 19 < pwS N 1 (nI (i + 1)) (C 0)
        · rw [if_pos c3, if_pos rfl, j57]
          simp [c3]
        · rw [if_neg c3, if_neg (by decide), j57]
          simp [c1, c2, c3], bsf_le hb⟩) (fun b _ => by
    show S_X8_smallestSet_13 heat (nI b) (nI (2 ^ N - 1 + 1)) C = _
    unfold S_X8_smallestSet_13
    rw [hN, t1, if_pos (nI_le (by omega) (by omega))])
end SET

