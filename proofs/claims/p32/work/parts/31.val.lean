/-! what the asking methods of the class and the model answer -/
def avg (Y : Nat) (y : Pg) : Int32 := sm (fun j => y (22 + j)) Y / nI Y
def fuS (N : Nat) (y : Pg) : Int32 := sm (fun i => y (30 + 7 * i + 6)) N
def stS (N : Nat) (y : Pg) : Int32 := sm (fun i => y (30 + 7 * i + 5)) N
def cnS (N : Nat) (x : Int32) (y : Pg) : Int32 := sm (fun i => if y (30 + 7 * i + 2) = x then 1 else 0) N
def cfS (N : Nat) (x : Int32) (y : Pg) : Int32 := sm (fun i => if y (30 + 7 * i + 1) = x then 1 else 0) N
def usS (N : Nat) (x : Int32) (y : Pg) : Int32 := sm (fun i => if y (30 + 7 * i + 1) = x ∧ (y (30 + 7 * i + 2) = 1 ∨ y (30 + 7 * i + 2) = 2) then y (30 + 7 * i) else 0) N
def pwS (N : Nat) (x bits : Int32) (y : Pg) : Int32 := sm (fun i => if ((bits >>> (nI i &&& 31)) &&& 1) = 1 ∧ y (30 + 7 * i + 1) = x then y (30 + 7 * i) else 0) N
section VAL
variable {C : Mem} {q r N Y : Nat}
theorem f_mean (hY : C q 66 = nI Y) (h1 : 1 ≤ Y) (h8 : Y ≤ 8) : F_X7_mean q C = some (avg Y (C q), C) := by
  have h : iter (fun x => S_X7_mean_4 q x.1 x.2.1 x.2.2) fuel ((0 : Int32), (0 : Int32), C) = some (fe (fun i v => v + C q (22 + i)) Y 0, nI Y, C) :=
    iter_emb (fun i v => (v, nI i, C)) (fun i v => v + C q (22 + i)) (fun _ _ => True) (fun v => (v, nI Y, C)) (by omega) trivial (fun i v hi _ => ⟨by
      show S_X7_mean_4 q v (nI i) C = _
      unfold S_X7_mean_4
      rw [hY, if_neg (nI_ge hi (by omega)), gi_n (show i < 8 by omega) (by decide), nI_clamp (show i < 2 ^ 31 by omega), nm_s, nm_s, nI_1], trivial⟩) (fun v _ => by
      show S_X7_mean_4 q v (nI Y) C = _
      unfold S_X7_mean_4
      rw [hY, if_pos (nI_le (Nat.le_refl Y) (by omega))])
  unfold F_X7_mean
  rw [h, b1_s, u3_s, hY, if_neg (nI_nle (by omega) (by omega)), gz_p (nI_ne0 (by omega) (by omega)), fe_sm, Int32.zero_add]
  rfl
theorem f_fuel (hN : C q 65 = nI N) (h5 : N ≤ 5) : F_X5_fuel q C = some (fuS N (C q), C) := by
  have h : iter (fun w => S_X5_fuel_4 q w.1 w.2.1 w.2.2) fuel ((0 : Int32), (0 : Int32), C) = some (fe (fun i v => v + C q (30 + 7 * i + 6)) N 0, nI N, C) :=
    iter_emb (fun i v => (v, nI i, C)) (fun i v => v + C q (30 + 7 * i + 6)) (fun _ _ => True) (fun v => (v, nI N, C)) (by omega) trivial (fun i v hi _ => ⟨by
      show S_X5_fuel_4 q v (nI i) C = _
      unfold S_X5_fuel_4
      rw [hN, if_neg (nI_ge hi (by omega))]
      rw [gi_n (show i < 5 by omega) (by decide), nI_clamp (show i < 2 ^ 31 by omega)]
      rw [nm_s, nm_s, nI_1], trivial⟩) (fun v _ => by
      show S_X5_fuel_4 q v (nI N) C = _
      unfold S_X5_fuel_4
      rw [hN, if_pos (nI_le (Nat.le_refl N) (by omega))])
  unfold F_X5_fuel
  rw [h, b1_s, u3_s, fe_sm, Int32.zero_add]
  rfl
theorem f_starts (hN : C q 65 = nI N) (h5 : N ≤ 5) : F_X5_starts q C = some (stS N (C q), C) := by
  have h : iter (fun w => S_X5_starts_4 q w.1 w.2.1 w.2.2) fuel ((0 : Int32), (0 : Int32), C) = some (fe (fun i v => v + C q (30 + 7 * i + 5)) N 0, nI N, C) :=
    iter_emb (fun i v => (v, nI i, C)) (fun i v => v + C q (30 + 7 * i + 5)) (fun _ _ => True) (fun v => (v, nI N, C)) (by omega) trivial (fun i v hi _ => ⟨by
      show S_X5_starts_4 q v (nI i) C = _
      unfold S_X5_starts_4
      rw [hN, if_neg (nI_ge hi (by omega))]
      rw [gi_n (show i < 5 by omega) (by decide), nI_clamp (show i < 2 ^ 31 by omega)]
      rw [nm_s, nm_s, nI_1], trivial⟩) (fun v _ => by
      show S_X5_starts_4 q v (nI N) C = _
      unfold S_X5_starts_4
      rw [hN, if_pos (nI_le (Nat.le_refl N) (by omega))])
  unfold F_X5_starts
  rw [h, b1_s, u3_s, fe_sm, Int32.zero_add]
  rfl
theorem f_countInState (hN : C q 65 = nI N) (h5 : N ≤ 5) (x : Int32) : F_X5_countInState q x C = some (cnS N x (C q), C) := by
  have h : iter (fun w => S_X5_countInState_4 q x w.1 w.2.1 w.2.2) fuel ((0 : Int32), (0 : Int32), C) = some (fe (fun i v => v + (if C q (30 + 7 * i + 2) = x then 1 else 0)) N 0, nI N, C) :=
    iter_emb (fun i v => (v, nI i, C)) (fun i v => v + (if C q (30 + 7 * i + 2) = x then 1 else 0)) (fun _ _ => True) (fun v => (v, nI N, C)) (by omega) trivial (fun i v hi _ => ⟨by
      show S_X5_countInState_4 q x v (nI i) C = _
      unfold S_X5_countInState_4
      rw [hN, if_neg (nI_ge hi (by omega))]
      rw [gi_n (show i < 5 by omega) (by decide), nI_clamp (show i < 2 ^ 31 by omega)]
      by_cases hc : C q (30 + 7 * i + 2) = x
      · simp only [hc, if_true, if_false, nm_s, nI_1, Int32.add_zero]
      · simp only [hc, if_true, if_false, nm_s, nI_1, Int32.add_zero], trivial⟩) (fun v _ => by
      show S_X5_countInState_4 q x v (nI N) C = _
      unfold S_X5_countInState_4
      rw [hN, if_pos (nI_le (Nat.le_refl N) (by omega))])
  unfold F_X5_countInState
  rw [h, b1_s, u3_s, fe_sm, Int32.zero_add]
  rfl
theorem f_countAtFlue (hN : C q 65 = nI N) (h5 : N ≤ 5) (x : Int32) : F_X5_countAtFlue q x C = some (cfS N x (C q), C) := by
  have h : iter (fun w => S_X5_countAtFlue_4 q x w.1 w.2.1 w.2.2) fuel ((0 : Int32), (0 : Int32), C) = some (fe (fun i v => v + (if C q (30 + 7 * i + 1) = x then 1 else 0)) N 0, nI N, C) :=
    iter_emb (fun i v => (v, nI i, C)) (fun i v => v + (if C q (30 + 7 * i + 1) = x then 1 else 0)) (fun _ _ => True) (fun v => (v, nI N, C)) (by omega) trivial (fun i v hi _ => ⟨by
      show S_X5_countAtFlue_4 q x v (nI i) C = _
      unfold S_X5_countAtFlue_4
      rw [hN, if_neg (nI_ge hi (by omega))]
      rw [gi_n (show i < 5 by omega) (by decide), nI_clamp (show i < 2 ^ 31 by omega)]
      by_cases hc : C q (30 + 7 * i + 1) = x
      · simp only [hc, if_true, if_false, nm_s, nI_1, Int32.add_zero]
      · simp only [hc, if_true, if_false, nm_s, nI_1, Int32.add_zero], trivial⟩) (fun v _ => by
      show S_X5_countAtFlue_4 q x v (nI N) C = _
      unfold S_X5_countAtFlue_4
      rw [hN, if_pos (nI_le (Nat.le_refl N) (by omega))])
  unfold F_X5_countAtFlue
  rw [h, b1_s, u3_s, fe_sm, Int32.zero_add]
  rfl
theorem f_useOf (hN : C q 65 = nI N) (h5 : N ≤ 5) (x : Int32) : F_X5_useOf q x C = some (usS N x (C q), C) := by
  have h : iter (fun w => S_X5_useOf_4 q x w.1 w.2.1 w.2.2) fuel ((0 : Int32), (0 : Int32), C) = some (fe (fun i v => v + (if C q (30 + 7 * i + 1) = x ∧ (C q (30 + 7 * i + 2) = 1 ∨ C q (30 + 7 * i + 2) = 2) then C q (30 + 7 * i) else 0)) N 0, nI N, C) :=
    iter_emb (fun i v => (v, nI i, C)) (fun i v => v + (if C q (30 + 7 * i + 1) = x ∧ (C q (30 + 7 * i + 2) = 1 ∨ C q (30 + 7 * i + 2) = 2) then C q (30 + 7 * i) else 0)) (fun _ _ => True) (fun v => (v, nI N, C)) (by omega) trivial (fun i v hi _ => ⟨by
      show S_X5_useOf_4 q x v (nI i) C = _
      unfold S_X5_useOf_4
      rw [hN, if_neg (nI_ge hi (by omega))]
      rw [gi_n (show i < 5 by omega) (by decide), nI_clamp (show i < 2 ^ 31 by omega)]
      by_cases hc : C q (30 + 7 * i + 1) = x <;> by_cases hd : C q (30 + 7 * i + 2) = 1 <;> by_cases he : C q (30 + 7 * i + 2) = 2 <;> simp only [hc, hd, he, if_true, if_false, nm_s, nI_1, Int32.add_zero, true_and, false_and, true_or, or_true, or_false, false_or, and_true, and_false, ite_self], trivial⟩) (fun v _ => by
      show S_X5_useOf_4 q x v (nI N) C = _
      unfold S_X5_useOf_4
      rw [hN, if_pos (nI_le (Nat.le_refl N) (by omega))])
  unfold F_X5_useOf
  rw [h, b1_s, u3_s, fe_sm, Int32.zero_add]
  rfl
theorem f_powerAt (hN : C q 65 = nI N) (h5 : N ≤ 5) (x bits : Int32) : F_X5_powerAt q x bits C = some (pwS N x bits (C q), C) := by
  have h : iter (fun w => S_X5_powerAt_5 q x bits w.1 w.2.1 w.2.2) fuel ((0 : Int32), (0 : Int32), C) = some (fe (fun i v => v + (if ((bits >>> (nI i &&& 31)) &&& 1) = 1 ∧ C q (30 + 7 * i + 1) = x then C q (30 + 7 * i) else 0)) N 0, nI N, C) :=
    iter_emb (fun i v => (v, nI i, C)) (fun i v => v + (if ((bits >>> (nI i &&& 31)) &&& 1) = 1 ∧ C q (30 + 7 * i + 1) = x then C q (30 + 7 * i) else 0)) (fun _ _ => True) (fun v => (v, nI N, C)) (by omega) trivial (fun i v hi _ => ⟨by
      show S_X5_powerAt_5 q x bits v (nI i) C = _
      unfold S_X5_powerAt_5
      rw [hN, if_neg (nI_ge hi (by omega))]
      by_cases hc : ((bits >>> (nI i &&& 31)) &&& (1 : Int32)) = 1
      · rw [if_pos hc, gi_n (show i < 5 by omega) (by decide), nI_clamp (show i < 2 ^ 31 by omega)]
        by_cases hd : C q (30 + 7 * i + 1) = x
        · rw [if_pos hd, gi_n (show i < 5 by omega) (by decide), if_pos ⟨hc, hd⟩, nm_s, nm_s, nI_1]
        · rw [if_neg hd, if_neg (fun z => hd z.2), nm_s, nI_1, Int32.add_zero]
      · rw [if_neg hc, if_neg (fun z => hc z.1), nm_s, nI_1, Int32.add_zero], trivial⟩) (fun v _ => by
      show S_X5_powerAt_5 q x bits v (nI N) C = _
      unfold S_X5_powerAt_5
      rw [hN, if_pos (nI_le (Nat.le_refl N) (by omega))])
  unfold F_X5_powerAt
  rw [h, b1_s, u3_s, fe_sm, Int32.zero_add]
  rfl
end VAL

