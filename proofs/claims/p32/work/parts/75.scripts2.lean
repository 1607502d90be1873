/-! scripts, the whole of it -/
section SCRIPTS2
variable {C : Mem} {N Y K : Nat} {z : Pg}
theorem sct (h : Ob N Y K z C) (hK : K < 600000) {σ : Nat} (hσ : σ < 10000000000) : ∃ C', F_L_tryScript (2 : Int32) (lN σ) C = some (scf N Y σ 2 0 z, C') ∧ Ob N Y K z C' ∧ Kt C C' := by
  obtain ⟨t, et⟩ := to_c h hK (n := 2) (σ := σ) (by decide) (by decide) (by show σ < 1 * 100000 * 100000; omega)
  exact ⟨_, et, ⟨h.1, by rw [sr_ne _ _ (show 0 ≠ 1 by decide)]; exact h.2⟩, kt_1 C t⟩
theorem scripts_ok (h : Ob N Y K z C) (hK : K < 600000) {X : Nat} (hX : X < 2147483648) : ∃ D, F_L_scripts (nI X) C = some (1, D) ∧ Kt C D := by
  obtain ⟨⟨n1, n5⟩, y2, y8⟩ := h.1
  have w := h.wz
  have sd := h.sz
  have hi : X % N < N := Nat.mod_lt _ (by omega)
  obtain ⟨q, hq, eq⟩ := av_n (z := z) (by omega) y8 w.1
  have hB := w.2.2.2.2.2.2 (X % N) hi
  have e0 : (0 : Int32).toInt = 0 := rfl
  -- the last block, from any memory
  have j254 : ∀ (C : Mem) (D0 : Mem), Ob N Y K z C → Kt D0 C → ∃ D, J_L_scripts_254 (nI X) (nI N) (smV N Y 20 ((nI X).toInt64 * (137 : Int64)) z) 1 C = some (1, D) ∧ Kt D0 D := fun C D0 h k0 => by
    obtain ⟨C1, e1, h1, k1⟩ := (sc1 h hK (κ := 2) (a := 0) (n := 0) (σ := 20000) (by decide) (by decide) (by decide) rfl).2 rfl
    obtain ⟨C2, e2, h2, k2⟩ := (sc1 h1 hK (κ := 2) (a := 0) (n := 21) (σ := 20021) (by decide) (by decide) (by decide) rfl).2 rfl
    obtain ⟨C3, e3, h3, k3⟩ := sct h2 hK (σ := 2002070000) (show 2002070000 + 1 ≤ 10000000000 from Nat.le_of_ble_eq_true rfl)
    have e3' : scf N Y 2002070000 2 0 z = -9 := by
      obtain ⟨u, hu, eu⟩ := av_n (z := dl Y 20 z) (by omega) y8 (w.k_dl (by omega) y8 20).1
      have c1 : cmdf N Y 2 0 20 z = some (dl Y 20 z) := rfl
      have c2 : cmdf N Y 7 0 0 (dl Y 20 z) = some (dl Y 20 z) := by
        show (if 0 = 0 ∧ 0 ≤ 99 ∧ ¬ avg Y (dl Y 20 z) < nI 0 then some (dl Y 20 z) else none) = _
        exact if_pos ⟨rfl, by decide, by rw [eu, fa_lt, ti u (by omega), ti 0 (by omega)]; omega⟩
      show (match cmdf N Y (2002070000 / 100000 % 100000 / 10000) (2002070000 / 100000 % 100000 / 1000 % 10) (2002070000 / 100000 % 100000 % 1000) z with | none => nI 0 | some t' => scf N Y 2002070000 1 1 t') = -9
      rw [show 2002070000 / 100000 % 100000 / 10000 = 2 by decide, show 2002070000 / 100000 % 100000 / 1000 % 10 = 0 by decide, show 2002070000 / 100000 % 100000 % 1000 = 20 by decide, c1]
      show (match cmdf N Y (2002070000 / 1 % 100000 / 10000) (2002070000 / 1 % 100000 / 1000 % 10) (2002070000 / 1 % 100000 % 1000) (dl Y 20 z) with | none => nI 1 | some t' => -9) = -9
      rw [show 2002070000 / 1 % 100000 / 10000 = 7 by decide, show 2002070000 / 1 % 100000 / 1000 % 10 = 0 by decide, c2]
    rw [e3'] at e3
    have e3'' : F_L_tryScript (2 : Int32) (2002070000 : Int64) C2 = some (-9, C3) := e3
    obtain ⟨C4, e4, h4, k4⟩ := (sc1 h3 hK (κ := 3) (a := 0) (n := 39) (σ := 30039) (by decide) (by decide) (by decide) rfl).2 rfl
    obtain ⟨C5, e5, h5, k5⟩ := (sc1 h4 hK (κ := 3) (a := 0) (n := 40) (σ := 30040) (by decide) (by decide) (by decide) rfl).1 _ rfl
    obtain ⟨C6, e6, h6, k6⟩ := (sc1 h5 hK (κ := 4) (a := 2) (n := 0) (σ := 42000) (by decide) (by decide) (by decide) rfl).2 rfl
    obtain ⟨C7, e7, h7, k7⟩ := (sc1 h6 hK (κ := 4) (a := 0) (n := 2) (σ := 40002) (by decide) (by decide) (by decide) rfl).2 rfl
    obtain ⟨C8, e8, h8, k8⟩ := (sc1 h7 hK (κ := 4) (a := 1) (n := 1) (σ := 41001) (by decide) (by decide) (by decide) rfl).1 _ rfl
    obtain ⟨C9, e9, h9, k9⟩ := (sc1 h8 hK (κ := 5) (a := N) (n := 0) (σ := (50000 : Int64) + (1000 : Int64) * (nI N).toInt64) (by decide) (by omega) (by decide) (by
      rw [l64 (by omega), show (1000 : Int64) * lN N = lN (1000 * N) from lN_mul 1000 N, show (50000 : Int64) + lN (1000 * N) = lN (50000 + 1000 * N) from lN_ad 50000 (1000 * N)]
      exact congrArg lN (by omega))).2 (by
        show (if 0 = 0 ∧ N < N ∧ z (30 + 7 * N + 2) ≠ 4 then some (lv z N 4) else none) = none
        exact if_neg (fun r => absurd r.2.1 (by omega)))
    obtain ⟨C10, e10, h10, k10⟩ := (sc1 h9 hK (κ := 0) (a := 0) (n := 0) (σ := 0) (by decide) (by decide) (by decide) rfl).2 rfl
    obtain ⟨t, e11⟩ := to_s h10 (by omega) (m := 20) (by decide) (by decide) ((nI X).toInt64 * (137 : Int64))
    have e11' : F_L_trySimulate ((nI X).toInt64 * (137 : Int64)) (20 : Int32) C10 = some (smV N Y 20 ((nI X).toInt64 * (137 : Int64)) z, sr C10 1 t) := e11
    refine ⟨sr C10 1 t, ?_, ((((((((((k0.tr k1).tr k2).tr k3).tr k4).tr k5).tr k6).tr k7).tr k8).tr k9).tr k10).tr (kt_1 C10 t)⟩
    unfold J_L_scripts_254
    rw [if_neg (by decide), e1, b2_s, if_pos rfl, e2, b2_s, if_pos rfl, e3'', b2_s, if_pos rfl, e4, b2_s, if_pos rfl, e5, b2_s, if_pos rfl, e6, b2_s, if_pos rfl, e7, b2_s, if_pos rfl, e8, b2_s, if_pos rfl, e9, b2_s, if_pos rfl, e10, b2_s, if_pos rfl, if_neg (smV_nn (by omega) y8 n5 w (by omega) _), e11', b2_s, if_pos rfl]
  have j213 : ∀ (C : Mem) (D0 : Mem) (v : Int32), Ob N Y K z C → Kt D0 C → ∃ D, J_L_scripts_213 (nI X) (nI N) (smV N Y 20 ((nI X).toInt64 * (137 : Int64)) z) v C v = some (1, D) ∧ Kt D0 D := fun C D0 v h k0 => by
    obtain ⟨C1, e1, h1, k1⟩ := (sc1 h hK (κ := 1) (a := 0) (n := 0) (σ := 10000) (by decide) (by decide) (by decide) rfl).2 rfl
    obtain ⟨C2, e2, h2, k2⟩ := (sc1 h1 hK (κ := 1) (a := 0) (n := 97) (σ := 10097) (by decide) (by decide) (by decide) rfl).2 rfl
    obtain ⟨C3, e3, h3, k3⟩ := (sc1 h2 hK (κ := 1) (a := 6) (n := 1) (σ := 16001) (by decide) (by decide) (by decide) rfl).2 rfl
    obtain ⟨D, eD, kD⟩ := j254 C3 D0 h3 (((k0.tr k1).tr k2).tr k3)
    refine ⟨D, ?_, kD⟩
    unfold J_L_scripts_213
    rw [if_pos rfl, e1, b2_s, if_pos rfl, e2, b2_s, if_pos rfl, e3, b2_s, if_pos rfl, eD]
  have s5 : ∀ b : Nat, b < 10 → (lN (10000 * b) : Int64) + (1000 : Int64) * (nI (X % N)).toInt64 = lN (10000 * b + 1000 * (X % N) + 0) := fun b hb => by
    rw [l64 (by omega), show (1000 : Int64) * lN (X % N) = lN (1000 * (X % N)) from lN_mul 1000 (X % N), lN_ad]
    rfl
  have j154 : ∀ (C : Mem) (D0 : Mem), Ob N Y K z C → Kt D0 C → ∃ D, J_L_scripts_154 (nI X) (nI N) (nI (X % N)) (z (30 + 7 * (X % N) + 2)) (smV N Y 20 ((nI X).toInt64 * (137 : Int64)) z) C = some (1, D) ∧ Kt D0 D := fun C D0 h k0 => by
    have r1 := fun {C : Mem} (h : Ob N Y K z C) => sc1 h hK (κ := 5) (a := X % N) (n := 0) (σ := (50000 : Int64) + (1000 : Int64) * (nI (X % N)).toInt64) (by decide) (by omega) (by decide) (s5 5 (by decide))
    have r2 := fun {C : Mem} (h : Ob N Y K z C) => sc1 h hK (κ := 6) (a := X % N) (n := 0) (σ := (60000 : Int64) + (1000 : Int64) * (nI (X % N)).toInt64) (by decide) (by omega) (by decide) (s5 6 (by decide))
    by_cases c : z (30 + 7 * (X % N) + 2) = 4
    · obtain ⟨C1, e1, h1, k1⟩ := (r1 h).2 (by
        show (if 0 = 0 ∧ X % N < N ∧ z (30 + 7 * (X % N) + 2) ≠ 4 then some (lv z (X % N) 4) else none) = none
        exact if_neg (fun r => r.2.2 c))
      obtain ⟨C2, e2, h2, k2⟩ := (r2 h1).1 (lv z (X % N) 0) (by
        show (if 0 = 0 ∧ X % N < N ∧ z (30 + 7 * (X % N) + 2) = 4 then some (lv z (X % N) 0) else none) = _
        exact if_pos ⟨rfl, hi, c⟩)
      obtain ⟨D, eD, kD⟩ := j213 C2 D0 (-9) h2 ((k0.tr k1).tr k2)
      refine ⟨D, ?_, kD⟩
      unfold J_L_scripts_154 J_L_scripts_182
      rw [e1, b2_s, if_pos c, if_pos rfl, e2, b2_s, if_pos c, eD]
    · obtain ⟨C1, e1, h1, k1⟩ := (r1 h).1 (lv z (X % N) 4) (by
        show (if 0 = 0 ∧ X % N < N ∧ z (30 + 7 * (X % N) + 2) ≠ 4 then some (lv z (X % N) 4) else none) = _
        exact if_pos ⟨rfl, hi, c⟩)
      obtain ⟨C2, e2, h2, k2⟩ := (r2 h1).2 (by
        show (if 0 = 0 ∧ X % N < N ∧ z (30 + 7 * (X % N) + 2) = 4 then some (lv z (X % N) 0) else none) = _
        exact if_neg (fun r => c r.2.2))
      obtain ⟨D, eD, kD⟩ := j213 C2 D0 0 h2 ((k0.tr k1).tr k2)
      refine ⟨D, ?_, kD⟩
      unfold J_L_scripts_154 J_L_scripts_182
      rw [e1, b2_s, if_neg c, if_pos rfl, e2, b2_s, if_neg c, eD]
  have j86 : ∀ (C : Mem) (D0 : Mem), Ob N Y K z C → Kt D0 C → ∃ D, J_L_scripts_86 (nI X) (nI N) (nI (X % N)) (z (30 + 7 * (X % N) + 2)) (z 11) (smV N Y 20 ((nI X).toInt64 * (137 : Int64)) z) C = some (1, D) ∧ Kt D0 D := fun C D0 h k0 => by
    obtain ⟨n, hn, en⟩ : ∃ n, n ≤ 4 ∧ z (30 + 7 * (X % N) + 2) = nI n := by
      rcases hB.2.2.1 with c | c | c | c | c
      · exact ⟨0, by decide, c⟩
      · exact ⟨1, by decide, c⟩
      · exact ⟨2, by decide, c⟩
      · exact ⟨3, by decide, c⟩
      · exact ⟨4, by decide, c⟩
    have s8 : ((80000 : Int64) + (1000 : Int64) * (nI (X % N)).toInt64) + (z (30 + 7 * (X % N) + 2)).toInt64 = lN (10000 * 8 + 1000 * (X % N) + n) := by
      rw [en, l64 (show n < 2147483648 by omega), show (80000 : Int64) + (1000 : Int64) * (nI (X % N)).toInt64 = lN (10000 * 8 + 1000 * (X % N) + 0) from s5 8 (by decide), lN_ad]
      rfl
    have s85 : (80005 : Int64) + (1000 : Int64) * (nI (X % N)).toInt64 = lN (10000 * 8 + 1000 * (X % N) + 5) := by
      rw [l64 (by omega), show (1000 : Int64) * lN (X % N) = lN (1000 * (X % N)) from lN_mul 1000 (X % N), show (80005 : Int64) + lN (1000 * (X % N)) = lN (80005 + 1000 * (X % N)) from lN_ad 80005 _]
      exact congrArg lN (by omega)
    obtain ⟨C1, e1, h1, k1⟩ := (sc1 h hK (by decide) (by omega) (by omega) s8).1 z (by
      show (if X % N < N ∧ z (30 + 7 * (X % N) + 2) = nI n then some z else none) = _
      exact if_pos ⟨hi, en⟩)
    obtain ⟨C2, e2, h2, k2⟩ := (sc1 h1 hK (by decide) (by omega) (by decide) s85).2 (by
      show (if X % N < N ∧ z (30 + 7 * (X % N) + 2) = nI 5 then some z else none) = none
      refine if_neg (fun r => ?_)
      have := congrArg Int32.toInt (en.symm.trans r.2)
      rw [ti n (by omega), ti 5 (by omega)] at this
      omega)
    by_cases c9 : (9 : Int32) < z 11
    · obtain ⟨D, eD, kD⟩ := j154 C2 D0 h2 ((k0.tr k1).tr k2)
      refine ⟨D, ?_, kD⟩
      unfold J_L_scripts_86
      rw [e1, b2_s, if_pos rfl, e2, b2_s, if_pos rfl, if_pos c9, eD]
    · have c9' := c9
      rw [fa_lt] at c9'
      have e9 : (9 : Int32).toInt = 9 := rfl
      obtain ⟨u, hu, eu⟩ := nn (x := z 11) (b := 9) sd.2.2.2.2.1.1 (by omega)
      obtain ⟨C3, e3, h3, k3⟩ := (sc1 h2 hK (κ := 9) (a := 0) (n := u) (σ := (90000 : Int64) + (z 11).toInt64) (by decide) (by decide) (by omega) (by
        rw [eu, l64 (by omega)]
        exact lN_ad 90000 u)).1 z (by
          show (if 0 = 0 ∧ u ≤ 9 ∧ z 11 = nI u then some z else none) = _
          exact if_pos ⟨rfl, hu, eu⟩)
      obtain ⟨D, eD, kD⟩ := j154 C3 D0 h3 (((k0.tr k1).tr k2).tr k3)
      refine ⟨D, ?_, kD⟩
      unfold J_L_scripts_86
      rw [e1, b2_s, if_pos rfl, e2, b2_s, if_pos rfl, if_neg c9, e3, b2_s, if_pos rfl, eD]
  obtain ⟨t0, e00⟩ := to_s h (by omega) (m := 20) (by decide) (by decide) ((nI X).toInt64 * (137 : Int64))
  have e00' : F_L_trySimulate ((nI X).toInt64 * (137 : Int64)) (20 : Int32) C = some (smV N Y 20 ((nI X).toInt64 * (137 : Int64)) z, sr C 1 t0) := e00
  have h0 : Ob N Y K z (sr C 1 t0) := ⟨h.1, by rw [sr_ne _ _ (show 0 ≠ 1 by decide)]; exact h.2⟩
  have k0 : Kt C (sr C 1 t0) := kt_1 C t0
  obtain ⟨C1, e1, h1, k1⟩ := (sc1 h0 hK (κ := 7) (a := 0) (n := q) (σ := (70000 : Int64) + (avg Y z).toInt64) (by decide) (by decide) (by omega) (by
    rw [eq, l64 (by omega)]
    exact lN_ad 70000 q)).1 z (by
      show (if 0 = 0 ∧ q ≤ 99 ∧ ¬ avg Y z < nI q then some z else none) = _
      exact if_pos ⟨rfl, hq, by rw [eq, fa_lt]; omega⟩)
  have hmod : nI X - nI X / nI N * nI N = nI (X % N) := md hX (by omega) (by omega)
  by_cases c99 : avg Y z = 99
  · obtain ⟨D, eD, kD⟩ := j86 C1 C h1 (k0.tr k1)
    refine ⟨D, ?_, kD⟩
    unfold F_L_scripts
    rw [ta_9 h, b2_s, ta_6 h, b2_s, gz_p (nI_ne0 (by omega) (by omega)), nm_s, hmod, tb_2 h hi, b2_s, ta_14 h, b2_s, e00', b2_s, e1, b2_s, if_pos rfl, if_pos c99, eD]
  · have hq98 : q ≤ 98 := by
      rcases Nat.lt_or_ge q 99 with a | a
      · omega
      · exact absurd (by rw [eq, show q = 99 by omega]; rfl) c99
    obtain ⟨C2, e2, h2, k2⟩ := (sc1 h1 hK (κ := 7) (a := 0) (n := q + 1) (σ := (70001 : Int64) + (avg Y z).toInt64) (by decide) (by decide) (by omega) (by
      rw [eq, l64 (by omega), show (70001 : Int64) + lN q = lN (70001 + q) from lN_ad 70001 q]
      exact congrArg lN (by omega))).2 (by
        show (if 0 = 0 ∧ q + 1 ≤ 99 ∧ ¬ avg Y z < nI (q + 1) then some z else none) = none
        exact if_neg (fun r => r.2.2 (by rw [eq, fa_lt, ti q (by omega), ti (q + 1) (by omega)]; omega)))
    obtain ⟨D, eD, kD⟩ := j86 C2 C h2 ((k0.tr k1).tr k2)
    refine ⟨D, ?_, kD⟩
    unfold F_L_scripts
    rw [ta_9 h, b2_s, ta_6 h, b2_s, gz_p (nI_ne0 (by omega) (by omega)), nm_s, hmod, tb_2 h hi, b2_s, ta_14 h, b2_s, e00', b2_s, e1, b2_s, if_pos rfl, if_neg c99, e2, b2_s, if_pos rfl, eD]
end SCRIPTS2
