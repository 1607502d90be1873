/-! the smallest set -/
def bcv (x0 : Int32) : Int32 :=
  let v1 := x0 - ((((x0).toUInt32 >>> (((1 : Int32)).toUInt32 &&& Int32.toUInt32 31)).toInt32) &&& (1431655765 : Int32))
  let v2 := (v1 &&& (858993459 : Int32)) + ((((v1).toUInt32 >>> (((2 : Int32)).toUInt32 &&& Int32.toUInt32 31)).toInt32) &&& (858993459 : Int32))
  let v3 := (v2 + (((v2).toUInt32 >>> (((4 : Int32)).toUInt32 &&& Int32.toUInt32 31)).toInt32)) &&& (252645135 : Int32)
  let v4 := v3 + (((v3).toUInt32 >>> (((8 : Int32)).toUInt32 &&& Int32.toUInt32 31)).toInt32)
  let v5 := v4 + (((v4).toUInt32 >>> (((16 : Int32)).toUInt32 &&& Int32.toUInt32 31)).toInt32)
  v5 &&& (63 : Int32)
theorem f_bc (x : Int32) (C : Mem) : F_J6_bitCount_0f7a4 x C = some (bcv x, C) := rfl
def mnS (N : Nat) (bits : Int32) : Int32 := sm (fun i => if ((bits >>> (nI i &&& 31)) &&& 1) = 1 then 1 else 0) N
theorem bc_n : ∀ N : Nat, N < 6 → ∀ b : Nat, b < 2 ^ N → bcv (nI b) = mnS N (nI b) := by decide +kernel
theorem two_n : ∀ N : Nat, N < 6 → (1 : Int32) <<< (nI N &&& 31) = nI (2 ^ N) ∧ 2 ^ N ≤ 32 ∧ 1 ≤ 2 ^ N := by decide +kernel
theorem bits_0 : ∀ i : Nat, i < 5 → ((nI 0 >>> (nI i &&& 31)) &&& (1 : Int32)) = 0 := by decide +kernel
def pwA (N : Nat) (bits : Int32) (y : Pg) : Int32 := pwS N 0 bits y + pwS N 1 bits y
def okB (N : Nat) (heat : Int32) (y : Pg) (b : Int32) : Bool := !(decide (pwA N b y < heat)) && (!(decide (y 18 < pwS N 0 b y)) && !(decide (y 19 < pwS N 1 b y)))
def smB (N : Nat) (y : Pg) (b c : Int32) : Bool := decide (mnS N b < mnS N c) || (decide (mnS N b = mnS N c) && decide (pwA N b y < pwA N c y))
def bsf (N : Nat) (heat : Int32) (y : Pg) (i best : Nat) : Nat := if okB N heat y (nI (i + 1)) then (if best = 0 then i + 1 else if smB N y (nI (i + 1)) (nI best) then i + 1 else best) else best
def bss (N : Nat) (heat : Int32) (y : Pg) : Nat := fe (bsf N heat y) (2 ^ N - 1) 0
section SET
variable {C : Mem} {K N Y : Nat}
theorem pwA_c {y z : Pg} (h : Agree N Y y z) (b : Int32) : pwA N b y = pwA N b z := by
  unfold pwA
  rw [pwS_c h, pwS_c h]
theorem okB_c {y z : Pg} (h : Agree N Y y z) (heat b : Int32) : okB N heat y b = okB N heat z b := by
  unfold okB
  rw [pwA_c h, pwS_c h, pwS_c h, h.1 18 (by decide), h.1 19 (by decide)]
theorem smB_c {y z : Pg} (h : Agree N Y y z) (b c : Int32) : smB N y b c = smB N z b c := by
  unfold smB
  rw [pwA_c h, pwA_c h]
theorem bss_c {y z : Pg} (h : Agree N Y y z) (heat : Int32) : bss N heat y = bss N heat z := by
  refine fe_cong fun i t _ => ?_
  unfold bsf
  rw [okB_c h, smB_c h]
theorem bsf_le {heat : Int32} {y : Pg} {i best : Nat} (h : best ≤ i) : bsf N heat y i best ≤ i + 1 := by
  unfold bsf
  split
  · split
    · exact Nat.le_refl _
    · split <;> omega
  · omega
theorem f_powerOf (hN : C 0 65 = nI N) (h5 : N ≤ 5) (b : Int32) : F_X5_powerOf 0 b C = some (pwA N b (C 0), C) := by
  unfold F_X5_powerOf
  rw [f_powerAt hN h5, b2_s, f_powerAt hN h5, b2_s]
  rfl
theorem f_fits (hN : C 0 65 = nI N) (h5 : N ≤ 5) (b : Int32) : F_X5_fitsDrafts 0 b C = some ((if C 0 18 < pwS N 0 b (C 0) then 0 else if C 0 19 < pwS N 1 b (C 0) then 0 else 1), C) := by
  unfold F_X5_fitsDrafts
  rw [f_powerAt hN h5, b2_s]
  show (if C 0 18 < pwS N 0 b (C 0) then _ else _) = _
  by_cases h1 : C 0 18 < pwS N 0 b (C 0)
  · rw [if_pos h1, if_pos h1]
  · rw [if_neg h1, if_neg h1, f_powerAt hN h5, b2_s]
    show (if C 0 19 < pwS N 1 b (C 0) then _ else _) = _
    by_cases h2 : C 0 19 < pwS N 1 b (C 0)
    · rw [if_pos h2, if_pos h2]
    · rw [if_neg h2, if_neg h2]
theorem f_smaller (hN : C 0 65 = nI N) (h5 : N ≤ 5) {a b : Nat} (ha : a < 2 ^ N) (hb : b < 2 ^ N) : F_X5_isSmallerSet 0 (nI a) (nI b) C = some ((if smB N (C 0) (nI a) (nI b) then 1 else 0), C) := by
  unfold F_X5_isSmallerSet smB
  rw [f_bc, b2_s, f_bc, b2_s, bc_n N (by omega) a ha, bc_n N (by omega) b hb]
  by_cases h1 : mnS N (nI a) < mnS N (nI b)
  · rw [if_pos h1]
    simp [h1]
  · rw [if_neg h1]
    by_cases h2 : mnS N (nI a) = mnS N (nI b)
    · rw [if_pos h2, f_powerOf hN h5, b2_s, f_powerOf hN h5, b2_s]
      by_cases h3 : pwA N (nI a) (C 0) < pwA N (nI b) (C 0)
      · rw [if_neg (fa_of_lt h3).2.1]
        simp [h2, h3]
      · rw [if_pos (fa_of_nlt h3)]
        have hn : ¬ mnS N (nI b) < mnS N (nI b) := by rw [fa_lt]; omega
        simp [h2, h3, hn]
    · rw [if_neg h2]
      simp [h1, h2]
theorem c_set (hN : C 0 65 = nI N) (h5 : N ≤ 5) (heat : Int32) : iter (fun w => S_X8_smallestSet_13 heat w.1 w.2.1 w.2.2) fuel ((0 : Int32), (1 : Int32), C) = some (nI (bss N heat (C 0)), nI (2 ^ N - 1 + 1), C) := by
  obtain ⟨t1, t2, t3⟩ := two_n N (by omega)
  exact iter_emb (n := 2 ^ N - 1) (t0 := 0) (fun i b => (nI b, nI (i + 1), C)) (bsf N heat (C 0)) (fun i b => b ≤ i) (fun b => (nI b, nI (2 ^ N - 1 + 1), C)) (by omega) (Nat.le_refl 0) (fun i b hi hb => ⟨by
    show S_X8_smallestSet_13 heat (nI b) (nI (i + 1)) C = some (.inl (nI (bsf N heat (C 0) i b), nI (i + 1 + 1), C))
    have j57 : ∀ v : Int32, J_X8_smallestSet_57 (nI b) (nI (i + 1)) v C = some (.inl (nI (if v = 0 then b else if b = 0 then i + 1 else if smB N (C 0) (nI (i + 1)) (nI b) then i + 1 else b), nI (i + 1 + 1), C)) := fun v => by
      unfold J_X8_smallestSet_57
      by_cases c0 : v = 0
      · rw [if_pos c0, if_pos c0, nm_s, nI_1]
      · rw [if_neg c0, if_neg c0]
        by_cases c1 : b = 0
        · subst c1
          rw [if_pos (by decide), if_pos rfl, nm_s, nI_1]
        · rw [if_neg (nI_ne0 (by omega) (by omega)), if_neg c1, f_smaller hN h5 (by omega) (by omega), b2_s]
          cases smB N (C 0) (nI (i + 1)) (nI b) with
          | true => rw [if_pos rfl, if_neg (by decide), nm_s, nI_1]; rfl
          | false => rw [if_pos (show (if false = true then (1 : Int32) else 0) = 0 by decide), nm_s, nI_1]; rfl
    unfold S_X8_smallestSet_13 bsf okB
    rw [hN, t1, if_neg (nI_ge (show i + 1 < 2 ^ N by omega) (by omega)), f_powerOf hN h5, b2_s, f_fits hN h5, j57, b2_s]
    by_cases c1 : pwA N (nI (i + 1)) (C 0) < heat
    · rw [if_pos c1]
      simp [c1]
    · rw [if_neg c1]
      by_cases c2 : C 0 18 < pwS N 0 (nI (i + 1)) (C 0)
      · rw [if_pos c2, if_pos rfl, j57]
        simp [c2]
      · rw [if_neg c2]
        by_cases c3 : C 0 19 < pwS N 1 (nI (i + 1)) (C 0)
        · rw [if_pos c3, if_pos rfl, j57]
          simp [c3]
        · rw [if_neg c3, if_neg (by decide), j57]
          simp [c1, c2, c3], bsf_le hb⟩) (fun b _ => by
    show S_X8_smallestSet_13 heat (nI b) (nI (2 ^ N - 1 + 1)) C = _
    unfold S_X8_smallestSet_13
    rw [hN, t1, if_pos (nI_le (by omega) (by omega))])
/-- the model's inner loop -/
theorem m_set1 {D : Mem} (e4 : D 30 4 = nI N) (h5 : N ≤ 5) (wf : WF N Y K (D 33)) (b : Int32) : iter (fun w => S_X9_smallestSet_61 b w.1 w.2.1 w.2.2.1 w.2.2.2.1 w.2.2.2.2) fuel ((0 : Int32), (0 : Int32), (0 : Int32), (0 : Int32), D) = some (mnS N b, pwS N 0 b (D 33), pwS N 1 b (D 33), nI N, D) := by
  have a33 : alen 33 = 65 := rfl
  have h := iter_emb (step := fun w => S_X9_smallestSet_61 b w.1 w.2.1 w.2.2.1 w.2.2.2.1 w.2.2.2.2) (n := N) (t0 := ((0 : Int32), (0 : Int32), (0 : Int32))) (fun i t => (t.1, t.2.1, t.2.2, nI i, D)) (fun i t => (t.1 + (if ((b >>> (nI i &&& 31)) &&& 1) = 1 then 1 else 0), t.2.1 + (if ((b >>> (nI i &&& 31)) &&& 1) = 1 ∧ D 33 (30 + 7 * i + 1) = 0 then D 33 (30 + 7 * i) else 0), t.2.2 + (if ((b >>> (nI i &&& 31)) &&& 1) = 1 ∧ D 33 (30 + 7 * i + 1) = 1 then D 33 (30 + 7 * i) else 0))) (fun _ _ => True) (fun t => (t.1, t.2.1, t.2.2, nI N, D)) (by omega) trivial (fun i t hi _ => ⟨by
    show S_X9_smallestSet_61 b t.1 t.2.1 t.2.2 (nI i) D = _
    unfold S_X9_smallestSet_61
    rw [e4, if_neg (nI_ge hi (by omega))]
    by_cases c1 : ((b >>> (nI i &&& 31)) &&& (1 : Int32)) = 1
    · rw [if_pos c1]
      unfold J_X9_smallestSet_86
      rw [if_neg (by decide)]
      unfold J_X9_smallestSet_100
      rw [nm_s, if_neg (by decide), at_s, nI_1, a33, gi_n (by omega) (by decide), nI_clamp (by omega)]
      have hfl := (wf.2.2.2.2.2.2 i hi).2.1
      unfold J_X9_smallestSet_139
      by_cases c2 : D 33 (30 + 7 * i + 1) = 0
      · have c3 : ¬ D 33 (30 + 7 * i + 1) = 1 := by rw [c2]; decide
        rw [if_pos c2, at_s, gi_n (by omega) (by decide), nI_clamp (by omega), nm_s, if_neg (by decide), at_s, nI_1, a33, gi_n (by omega) (by decide), nI_clamp (by omega), if_neg c3, nm_s, nm_s, nI_1, if_pos c1, if_pos ⟨c1, c2⟩, if_neg (fun q => c3 q.2)]
      · have c3 : D 33 (30 + 7 * i + 1) = 1 := hfl.resolve_left c2
        rw [if_neg c2, nm_s, if_neg (by decide), at_s, nI_1, a33, gi_n (by omega) (by decide), nI_clamp (by omega), if_pos c3, at_s, gi_n (by omega) (by decide), nI_clamp (by omega), nm_s, nm_s, nI_1, if_pos c1, if_neg (fun q => c2 q.2), if_pos ⟨c1, c3⟩]
    · rw [if_neg c1]
      unfold J_X9_smallestSet_86
      rw [if_pos rfl]
      unfold J_X9_smallestSet_100
      rw [nm_s, if_pos rfl]
      unfold J_X9_smallestSet_139
      rw [nm_s, if_pos rfl, nm_s, nm_s, nI_1, if_neg c1, if_neg (fun q => c1 q.1), if_neg (fun q => c1 q.1)], trivial⟩) (fun t _ => by
    show S_X9_smallestSet_61 b t.1 t.2.1 t.2.2 (nI N) D = _
    unfold S_X9_smallestSet_61
    rw [e4, if_pos (nI_le (Nat.le_refl N) (by omega))])
  have three : ∀ (f g k : Nat → Int32) (n : Nat), fe (fun i (t : Int32 × Int32 × Int32) => (t.1 + f i, t.2.1 + g i, t.2.2 + k i)) n (0, 0, 0) = (sm f n, sm g n, sm k n) := fun f g k n => by
    induction n with
    | zero => rfl
    | succ n ih => rw [fe_s, ih]; rfl
  have h' := h
  rw [three] at h'
  exact h'
theorem m_set {D : Mem} (e4 : D 30 4 = nI N) (h5 : N ≤ 5) (wf : WF N Y K (D 33)) (heat : Int32) : ∃ f w, iter (fun w => S_X9_smallestSet_38 heat w.1 w.2.1 w.2.2.1 w.2.2.2.1 w.2.2.2.2) fuel ((-9 : Int32), (0 : Int32), (0 : Int32), (1 : Int32), D) = some ((if bss N heat (D 33) = 0 then -9 else nI (bss N heat (D 33))), f, pwA N (nI (bss N heat (D 33))) (D 33), w, D) := by
  obtain ⟨t1, t2, t3⟩ := two_n N (by omega)
  have a33 : alen 33 = 65 := rfl
  have z0 : mnS N (nI 0) = 0 ∧ pwA N (nI 0) (D 33) = 0 := by
    have sz : ∀ n, n ≤ 5 → sm (fun i => if ((nI 0 >>> (nI i &&& 31)) &&& (1 : Int32)) = 1 then (1 : Int32) else 0) n = 0 := fun n => by
      induction n with
      | zero => intro _; rfl
      | succ n ih =>
        intro hn
        show sm _ n + (if ((nI 0 >>> (nI n &&& 31)) &&& (1 : Int32)) = 1 then (1 : Int32) else 0) = 0
        rw [ih (by omega), if_neg (by rw [bits_0 n (by omega)]; decide)]
        rfl
    have sp : ∀ (x : Int32) n, n ≤ 5 → sm (fun i => if ((nI 0 >>> (nI i &&& 31)) &&& (1 : Int32)) = 1 ∧ D 33 (30 + 7 * i + 1) = x then D 33 (30 + 7 * i) else 0) n = 0 := fun x n => by
      induction n with
      | zero => intro _; rfl
      | succ n ih =>
        intro hn
        show sm _ n + (if ((nI 0 >>> (nI n &&& 31)) &&& (1 : Int32)) = 1 ∧ D 33 (30 + 7 * n + 1) = x then D 33 (30 + 7 * n) else 0) = 0
        rw [ih (by omega), if_neg (fun q => by have := q.1; rw [bits_0 n (by omega)] at this; exact absurd this (by decide))]
        rfl
    refine ⟨sz N h5, ?_⟩
    show pwS N 0 (nI 0) (D 33) + pwS N 1 (nI 0) (D 33) = 0
    unfold pwS
    rw [sp 0 N h5, sp 1 N h5]
    rfl
  have h := iter_emb (step := fun w => S_X9_smallestSet_38 heat w.1 w.2.1 w.2.2.1 w.2.2.2.1 w.2.2.2.2) (n := 2 ^ N - 1) (t0 := 0) (fun i b => ((if b = 0 then -9 else nI b), mnS N (nI b), pwA N (nI b) (D 33), nI (i + 1), D)) (bsf N heat (D 33)) (fun i b => b ≤ i) (fun b => ((if b = 0 then -9 else nI b), mnS N (nI b), pwA N (nI b) (D 33), nI (2 ^ N - 1 + 1), D)) (by omega) (Nat.le_refl 0) (fun i b hi hb => ⟨by
    show S_X9_smallestSet_38 heat (if b = 0 then -9 else nI b) (mnS N (nI b)) (pwA N (nI b) (D 33)) (nI (i + 1)) D = some (.inl ((if bsf N heat (D 33) i b = 0 then -9 else nI (bsf N heat (D 33) i b)), mnS N (nI (bsf N heat (D 33) i b)), pwA N (nI (bsf N heat (D 33) i b)) (D 33), nI (i + 1 + 1), D))
    have j230 : ∀ v : Int32, J_X9_smallestSet_230 (if b = 0 then -9 else nI b) (mnS N (nI b)) (pwA N (nI b) (D 33)) (nI (i + 1)) (mnS N (nI (i + 1))) D (pwA N (nI (i + 1)) (D 33)) v = some (.inl ((if (if v = 0 then b else if b = 0 then i + 1 else if smB N (D 33) (nI (i + 1)) (nI b) then i + 1 else b) = 0 then -9 else nI (if v = 0 then b else if b = 0 then i + 1 else if smB N (D 33) (nI (i + 1)) (nI b) then i + 1 else b)), mnS N (nI (if v = 0 then b else if b = 0 then i + 1 else if smB N (D 33) (nI (i + 1)) (nI b) then i + 1 else b)), pwA N (nI (if v = 0 then b else if b = 0 then i + 1 else if smB N (D 33) (nI (i + 1)) (nI b) then i + 1 else b)) (D 33), nI (i + 1 + 1), D)) := fun v => by
      unfold J_X9_smallestSet_230
      by_cases c0 : v = 0
      · simp only [if_pos c0]
        rw [nm_s, nI_1]
      · simp only [if_neg c0]
        by_cases c1 : b = 0
        · subst c1
          simp only [if_true]
          rw [nm_s, nI_1]
          simp
        · simp only [if_neg c1]
          rw [if_neg (nI_n9 (by omega))]
          unfold smB
          by_cases h1 : mnS N (nI (i + 1)) < mnS N (nI b)
          · rw [if_pos h1, nm_s, nI_1]
            simp [h1]
          · rw [if_neg h1]
            by_cases h2 : mnS N (nI (i + 1)) = mnS N (nI b)
            · rw [if_pos h2]
              by_cases h3 : pwA N (nI (i + 1)) (D 33) < pwA N (nI b) (D 33)
              · rw [if_neg (fa_of_lt h3).2.1, nm_s, nI_1]
                simp [h2, h3]
              · rw [if_pos (fa_of_nlt h3), nm_s, nI_1]
                have hn : ¬ mnS N (nI b) < mnS N (nI b) := by rw [fa_lt]; omega
                simp [h2, h3, hn, c1]
            · rw [if_neg h2, nm_s, nI_1]
              simp [h1, h2, c1]
    unfold S_X9_smallestSet_38 bsf okB
    rw [e4, t1, if_neg (nI_ge (show i + 1 < 2 ^ N by omega) (by omega)), m_set1 e4 h5 wf, b1_s, u5_s, show pwS N 0 (nI (i + 1)) (D 33) + pwS N 1 (nI (i + 1)) (D 33) = pwA N (nI (i + 1)) (D 33) from rfl, nm_s, a33, gl_18, cl_18, j230, j230]
    by_cases c2 : D 33 18 < pwS N 0 (nI (i + 1)) (D 33)
    · rw [if_pos c2]
      simp [c2]
    · rw [if_neg c2, gl_19, cl_19]
      by_cases c3 : D 33 19 < pwS N 1 (nI (i + 1)) (D 33)
      · rw [if_pos c3]
        simp [c3]
      · rw [if_neg c3]
        by_cases c1 : pwA N (nI (i + 1)) (D 33) < heat
        · rw [if_pos c1]
          simp [c1]
        · rw [if_neg c1]
          simp [c1, c2, c3], bsf_le hb⟩) (fun b _ => by
    show S_X9_smallestSet_38 heat _ _ _ (nI (2 ^ N - 1 + 1)) D = _
    unfold S_X9_smallestSet_38
    rw [e4, t1, if_pos (nI_le (by omega) (by omega))])
  have h' : iter (fun w => S_X9_smallestSet_38 heat w.1 w.2.1 w.2.2.1 w.2.2.2.1 w.2.2.2.2) fuel ((-9 : Int32), mnS N (nI 0), pwA N (nI 0) (D 33), (1 : Int32), D) = _ := h
  rw [z0.1, z0.2] at h'
  exact ⟨_, _, h'⟩
theorem p_smallestSet (hI : Inv K C) (x w : Int32) : Res K (F_L_smallestSet x w C) (F_X9_smallestSet x w) := by
  obtain ⟨N, Y, ⟨n1, n5, y2, y8, h4, h5⟩, ⟨c65, c66, wf, ag⟩, -, -, -⟩ := id hI
  by_cases hx : 1 ≤ x ∧ x ≤ 150
  case neg =>
    refine res_no hI (c := 1) (w := 0) (by decide) ?_ ?_
    · unfold F_L_smallestSet F_X8_smallestSet
      rw [rq, b2_s, if_neg hx, el_r, b2_s, el_r, if_pos rfl]
    · unfold F_X9_smallestSet
      rw [f_inL (b := 1) (c := 150) (by decide) (by decide), b2_s, if_neg hx, if_pos rfl]
      unfold J_X9_smallestSet_18
      rw [ref1, b2_s, if_neg (by decide)]
  have hb : bss N x (C 0) ≤ 2 ^ N - 1 := fe_inv (f := bsf N x (C 0)) (I := fun i b => b ≤ i) (Nat.le_refl 0) fun i b _ h => bsf_le h
  have t2 := (two_n N (by omega)).2.1
  have key : ∀ v : Int32, v = (if bss N x (C 0) = 0 then -9 else if w = 0 then pwA N (nI (bss N x (C 0))) (C 0) else nI (bss N x (C 0))) → Res K (F_L_smallestSet x w C) (F_X9_smallestSet x w) := fun v hv => by
    have e4 : (mu (mu C 40 0 v) 30 0 0) 30 4 = nI N := by rw [d30 _ _ _ (by decide)]; exact h4
    have e33 : (mu (mu C 40 0 v) 30 0 0) 33 = C 33 := d33 _ _ _
    obtain ⟨f, u, hm⟩ := m_set e4 n5 (Y := Y) (K := K) (by rw [e33]; exact wf.ag ag.sy) x
    rw [e33, ← bss_c ag, ← pwA_c ag] at hm
    refine res_ask hI (v := v) ?_ ?_
    · unfold F_L_smallestSet F_X8_smallestSet
      rw [rq, b2_s, if_pos hx, el_l, c_set c65 n5 x, b1_s, u3_s, hv]
      by_cases c0 : bss N x (C 0) = 0
      · rw [c0, if_pos (by decide), if_pos rfl, b2_s, el_l, nm_s]
      · rw [if_neg (nI_ne0 (by omega) (by omega)), if_neg c0]
        by_cases cw : w = 0
        · rw [if_pos cw, if_pos cw, f_powerOf c65 n5, b2_s, b2_s, el_l, nm_s]
        · rw [if_neg cw, if_neg cw, b2_s, el_l, nm_s]
    · unfold F_X9_smallestSet
      rw [f_inL (b := 1) (c := 150) (by decide) (by decide), b2_s, if_pos hx, if_neg (by decide)]
      unfold J_X9_smallestSet_18
      rw [ref0, b2_s, if_pos rfl, hm, b1_s, u5_s]
      generalize mu (mu C 40 0 v) 30 0 0 = D
      rw [hv]
      by_cases c0 : bss N x (C 0) = 0
      · simp only [if_pos c0]
        rw [if_pos trivial]
      · simp only [if_neg c0]
        rw [if_neg (nI_n9 (by omega))]
        by_cases cw : w = 0
        · rw [if_pos cw, if_pos cw]
        · rw [if_neg cw, if_neg cw]
  exact key _ rfl
end SET
