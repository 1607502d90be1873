/-! scripts: the runs -/
theorem L_int {a : Nat} (h : a < 4611686018427387904) : (lN a).toInt = a := lg_ofNat_toInt (by omega)
theorem L_div {a b : Nat} (ha : a < 4611686018427387904) (h0 : 0 < b) (hb : b < 4611686018427387904) : lN a / lN b = lN (a / b) := by
  apply Int64.toInt_inj.mp
  rw [lg_ldiv_nonneg (by rw [L_int ha]; omega) (by rw [L_int hb]; omega), L_int ha, L_int hb, L_int (Nat.lt_of_le_of_lt (Nat.div_le_self a b) ha)]
  first | rfl | exact (Int.natCast_ediv _ _).symm
theorem L_rem {a b : Nat} (ha : a < 4611686018427387904) (h0 : 0 < b) (hb : b < 4611686018427387904) : lN a - lN a / lN b * lN b = lN (a % b) := by
  rw [L_div ha h0 hb, lN_mul, lN_sub (Nat.div_mul_le_self a b)]
  exact congrArg lN (by have := Nat.div_add_mod' a b; omega)
theorem L_ne {a : Nat} (ha : a < 4611686018427387904) (h0 : 0 < a) : lN a ≠ 0 := fun e => by
  have := congrArg Int64.toInt e
  rw [L_int ha] at this
  have e0 : (0 : Int64).toInt = 0 := rfl
  omega
theorem f_inQ (a b c : Int64) (C : Mem) : F_X9_in a b c C = some ((if b ≤ a ∧ a ≤ c then 1 else 0), C) := by
  unfold F_X9_in
  by_cases h1 : a < b
  · rw [if_pos ((lg_cmp_lt _ _).mpr h1), if_neg (fun q => lg_lt_not_le h1 q.1)]
  · rw [if_neg (fun q => h1 ((lg_cmp_lt _ _).mp q))]
    by_cases h2 : c < a
    · rw [if_pos ((lg_cmp_gt _ _).mpr h2), if_neg (fun q => lg_lt_not_le h2 q.2)]
    · rw [if_neg (fun q => h2 ((lg_cmp_gt _ _).mp q)), if_pos ⟨by rw [fa_le64]; rw [fa_lt64] at h1; omega, by rw [fa_le64]; rw [fa_lt64] at h2; omega⟩]
def pw : Nat → Nat
  | 0 => 1
  | k + 1 => pw k * 100000
def scf (N Y s : Nat) : Nat → Nat → Pg → Int32
  | 0, _, _ => -9
  | k + 1, i, t => match cmdf N Y (s / pw k % 100000 / 10000) (s / pw k % 100000 / 1000 % 10) (s / pw k % 100000 % 1000) t with
    | none => nI i
    | some t' => scf N Y s k (i + 1) t'
section RUN
variable {C : Mem} {K N Y : Nat}
theorem scf_c (h1 : 1 ≤ Y) (s : Nat) : ∀ (k i : Nat) (y z : Pg), Agree N Y y z → scf N Y s k i y = scf N Y s k i z
  | 0, _, _, _, _ => rfl
  | k + 1, i, y, z, h => by
    unfold scf
    rcases cmdf_c h1 h (s / pw k % 100000 / 10000) (s / pw k % 100000 / 1000 % 10) (s / pw k % 100000 % 1000) with ⟨e1, e2⟩ | ⟨y', z', e1, e2, g⟩
    · rw [e1, e2]
    · rw [e1, e2]
      exact scf_c h1 s k (i + 1) y' z' g
theorem num_g {g : Nat} (hg : g < 100000) : nI g / (10000 : Int32) = nI (g / 10000) ∧ nI g / (1000 : Int32) - nI g / (1000 : Int32) / (10 : Int32) * (10 : Int32) = nI (g / 1000 % 10) ∧ nI g - nI g / (1000 : Int32) * (1000 : Int32) = nI (g % 1000) := by
  refine ⟨pk_div (d := 10000) (by omega) (by decide) (by decide), ?_, pk_rem (d := 1000) (by omega) (by decide) (by decide)⟩
  rw [show nI g / (1000 : Int32) = nI (g / 1000) from pk_div (d := 1000) (by omega) (by decide) (by decide)]
  exact pk_rem (d := 10) (by omega) (by decide) (by decide)
theorem pw_s {k : Nat} (hk : k ≤ 2) : 0 < pw k ∧ pw k < 100000000000 := by
  rcases (show k = 0 ∨ k = 1 ∨ k = 2 by omega) with rfl | rfl | rfl <;> decide
theorem pw_d (k : Nat) : pw (k + 1) / 100000 = pw k := Nat.mul_div_cancel _ (by decide)
theorem c_run (n1 : 1 ≤ N) (h5 : N ≤ 5) (h1 : 1 ≤ Y) (h8 : Y ≤ 8) (hK : K < 700000) {s n : Nat} (hs : s < 1000000000000000) (hn : n ≤ 3) : ∀ (k i : Nat) (t : Pg) (m : Nat), i + k = n → Tr N Y (K + 96 * i) t → ∃ o t', iter (fun w => S_X8_runScript_74 (nI n) (lN s) w.1 w.2.1 w.2.2) (k + 1 + m) (lN (pw k / 100000), nI i, sr C 1 t) = some o ∧ Sum.elim (u3 fun (_ : Int64) (_ : Int32) C28 => (some (Sum.inl (-9 : Int32), C28) : Option (Rs × Mem))) (fun y => some y) o = some (.inl (scf N Y s k i t), sr C 1 t')
  | 0, i, t, m, hi, hT => by
    refine ⟨.inl (lN (pw 0 / 100000), nI i, sr C 1 t), t, ?_, rfl⟩
    rw [show 0 + 1 + m = m + 1 by omega]
    refine iter_e _ ?_ _
    show S_X8_runScript_74 (nI n) (lN s) (lN (pw 0 / 100000)) (nI i) (sr C 1 t) = _
    unfold S_X8_runScript_74
    rw [if_pos (nI_le (show n ≤ i by omega) (by omega))]
  | k + 1, i, t, m, hi, hT => by
    have hp := pw_s (show k ≤ 2 by omega)
    have hg : s / pw k % 100000 < 100000 := Nat.mod_lt _ (by decide)
    have ng := num_g hg
    have hsd : s / pw k < 4611686018427387904 := Nat.lt_of_le_of_lt (Nat.div_le_self _ _) (by omega)
    have hs0 : S_X8_runScript_74 (nI n) (lN s) (lN (pw k)) (nI i) (sr C 1 t) = b2 (F_X8_isAllowed (nI (s / pw k % 100000 / 10000)) (nI (s / pw k % 100000 / 1000 % 10)) (nI (s / pw k % 100000 % 1000)) (sr C 1 t)) fun r36 C37 => if r36 = 0 then some (Sum.inr (Sum.inr (Sum.inl (nI i), C37))) else b2 (F_X8_carryOut (nI (s / pw k % 100000 / 10000)) (nI (s / pw k % 100000 / 1000 % 10)) (nI (s / pw k % 100000 % 1000)) C37) fun r40 C41 => some (Sum.inl (lN (pw k / 100000), nI (i + 1), C41)) := by
      unfold S_X8_runScript_74
      rw [if_neg (nI_ge (show i < n by omega) (by omega)), if_neg (fun q => by
        have q' := (lg_cmp_le _ _).mp q
        rw [fa_le64, L_int (by omega)] at q'
        have e0 : (0 : Int64).toInt = 0 := rfl
        omega), gzL_p (L_ne (by omega) hp.1), nm_s, nm_s, nm_s, nm_s, nI_1, L_div (by omega) hp.1 (by omega), show lN (s / pw k) - lN (s / pw k) / (100000 : Int64) * (100000 : Int64) = lN (s / pw k % 100000) from L_rem (b := 100000) hsd (by decide) (by decide), lN_i, ng.1, ng.2.1, ng.2.2]
      simp only [nm_s]
      rw [show lN (pw k) / (100000 : Int64) = lN (pw k / 100000) from L_div (b := 100000) (by omega) (by decide) (by decide)]
    rw [pw_d, show k + 1 + 1 + m = (k + 1 + m) + 1 by omega]
    have hc := c_cmd (C := C) n1 h5 h1 h8 (by omega) hT (κ := s / pw k % 100000 / 10000) (a := s / pw k % 100000 / 1000 % 10) (n := s / pw k % 100000 % 1000) (by omega) (by omega) (by omega)
    unfold scf
    cases he : cmdf N Y (s / pw k % 100000 / 10000) (s / pw k % 100000 / 1000 % 10) (s / pw k % 100000 % 1000) t with
    | none =>
      rw [he] at hc
      have hc' : F_X8_isAllowed _ _ _ (sr C 1 t) = some (0, sr C 1 t) := hc
      rw [hc', b2_s, if_pos rfl] at hs0
      exact ⟨_, t, iter_e _ hs0 _, rfl⟩
    | some t' =>
      rw [he] at hc
      obtain ⟨c1, w, c2⟩ := hc
      rw [c1, b2_s, if_neg (by decide), c2, b2_s] at hs0
      have hT' : Tr N Y (K + 96 * (i + 1)) t' := ⟨(cmd_hi h1 h8 h5 he (by decide)).trans hT.1, (cmd_hi h1 h8 h5 he (by decide)).trans hT.2.1, (hT.2.2.kcmd h1 h8 (by omega) he).mo (by omega)⟩
      obtain ⟨o, t2, e1, e2⟩ := c_run n1 h5 h1 h8 hK hs hn k (i + 1) t' m (by omega) hT'
      exact ⟨o, t2, by rw [iter_s _ hs0]; exact e1, e2⟩
theorem m_run {D : Mem} (e4 : D 30 4 = nI N) (e5 : D 30 5 = nI Y) (n1 : 1 ≤ N) (h5 : N ≤ 5) (h1 : 1 ≤ Y) (h8 : Y ≤ 8) (hK : K < 700000) {s n : Nat} (hs : s < 1000000000000000) (hn : n ≤ 3) : ∀ (k i : Nat) (t : Pg) (m : Nat), i + k = n → WF N Y (K + 96 * i) t → ∃ o t', iter (fun w => S_X9_runScript_84 (nI n) w.1 w.2.1 w.2.2.1 w.2.2.2) (k + 1 + m) (lN (pw k), lN (s % pw k), nI i, sr D 34 t) = some o ∧ Sum.elim (u4 fun (_ : Int64) (_ : Int64) (_ : Int32) C24 => (some ((-9 : Int32), C24) : Option (Int32 × Mem))) (fun y => some y) o = some (scf N Y s k i t, sr D 34 t')
  | 0, i, t, m, hi, hT => by
    refine ⟨.inl (lN (pw 0), lN (s % pw 0), nI i, sr D 34 t), t, ?_, rfl⟩
    rw [show 0 + 1 + m = m + 1 by omega]
    refine iter_e _ ?_ _
    show S_X9_runScript_84 (nI n) (lN (pw 0)) (lN (s % pw 0)) (nI i) (sr D 34 t) = _
    unfold S_X9_runScript_84
    rw [if_pos (nI_le (show n ≤ i by omega) (by omega))]
  | k + 1, i, t, m, hi, hT => by
    have hp := pw_s (show k ≤ 2 by omega)
    have hg : s / pw k % 100000 < 100000 := Nat.mod_lt _ (by decide)
    have ng := num_g hg
    have hpk : pw (k + 1) = pw k * 100000 := rfl
    have hsm : s % pw (k + 1) < 4611686018427387904 := Nat.lt_of_le_of_lt (Nat.mod_le _ _) (by omega)
    have hdiv : s % pw (k + 1) / pw k = s / pw k % 100000 := by rw [hpk, Nat.mod_mul_right_div_self]
    have hmod : s % pw (k + 1) % pw k = s % pw k := by rw [hpk]; exact Nat.mod_mod_of_dvd s ⟨100000, rfl⟩
    have hs0 : S_X9_runScript_84 (nI n) (lN (pw (k + 1))) (lN (s % pw (k + 1))) (nI i) (sr D 34 t) = b2 (F_X9_does (nI (s / pw k % 100000 / 10000)) (nI (s / pw k % 100000 / 1000 % 10)) (nI (s / pw k % 100000 % 1000)) (sr D 34 t)) fun r31 C32 => if r31 = 0 then some (Sum.inr (Sum.inr (nI i, C32))) else some (Sum.inl (lN (pw k), lN (s % pw k), nI (i + 1), C32)) := by
      unfold S_X9_runScript_84
      rw [if_neg (nI_ge (show i < n by omega) (by omega)), show lN (pw (k + 1)) / (100000 : Int64) = lN (pw (k + 1) / 100000) from L_div (b := 100000) (by omega) (by decide) (by decide), pw_d, nm_s, gzL_p (L_ne (by omega) hp.1), nm_s, gzL_p (L_ne (by omega) hp.1), nm_s, L_rem hsm hp.1 (by omega), L_div hsm hp.1 (by omega), hdiv, hmod, lN_i, ng.1, ng.2.1, ng.2.2, nI_1]
      rfl
    rw [show k + 1 + 1 + m = (k + 1 + m) + 1 by omega]
    have hc := m_cmd e4 e5 n1 h5 h1 h8 (by omega) hT (κ := s / pw k % 100000 / 10000) (a := s / pw k % 100000 / 1000 % 10) (n := s / pw k % 100000 % 1000) (by omega) (by omega) (by omega)
    unfold scf
    cases he : cmdf N Y (s / pw k % 100000 / 10000) (s / pw k % 100000 / 1000 % 10) (s / pw k % 100000 % 1000) t with
    | none =>
      rw [he] at hc
      have hc' : F_X9_does _ _ _ (sr D 34 t) = some (0, sr D 34 t) := hc
      rw [hc', b2_s, if_pos rfl] at hs0
      exact ⟨_, t, iter_e _ hs0 _, rfl⟩
    | some t' =>
      rw [he] at hc
      have hc' : F_X9_does _ _ _ (sr D 34 t) = some (1, sr D 34 t') := hc
      rw [hc', b2_s, if_neg (by decide)] at hs0
      obtain ⟨o, t2, e1, e2⟩ := m_run e4 e5 n1 h5 h1 h8 hK hs hn k (i + 1) t' m (by omega) ((hT.kcmd h1 h8 (by omega) he).mo (by omega))
      exact ⟨o, t2, by rw [iter_s _ hs0]; exact e1, e2⟩
theorem c_place (C : Mem) {n : Nat} (h1 : 1 ≤ n) (h3 : n ≤ 3) : iter (fun w => S_X8_runScript_12 (nI n) w.1 w.2.1 w.2.2) fuel ((1 : Int64), (1 : Int32), C) = some (lN (pw (n - 1)), nI (n - 1 + 1), C) :=
  iter_emb (n := n - 1) (t0 := (lN 1 : Int64)) (fun i v => (v, nI (i + 1), C)) (fun _ v => v * 100000) (fun i v => v = lN (pw i)) (fun v => (lN (pw (n - 1)), nI (n - 1 + 1), C)) (by omega) rfl (fun i v hi hv => ⟨by
    show S_X8_runScript_12 (nI n) v (nI (i + 1)) C = _
    unfold S_X8_runScript_12
    rw [if_neg (nI_ge (show i + 1 < n by omega) (by omega)), nm_s, nm_s, nI_1], by rw [hv]; exact lN_mul (pw i) 100000⟩) (fun v hv => by
    show S_X8_runScript_12 (nI n) v (nI (n - 1 + 1)) C = _
    unfold S_X8_runScript_12
    rw [if_pos (nI_le (by omega) (by omega)), hv])
theorem p_runScript (hI : Inv K C) (hK : K < 700000) (x : Int32) (s : Int64) : Res K (F_L_runScript x s C) (F_X9_runScript x s) := by
  obtain ⟨N, Y, ⟨n1, n5, y2, y8, h4, h5⟩, ⟨c65, c66, wf, ag⟩, -, -, -⟩ := id hI
  have e0 : (0 : Int64).toInt = 0 := rfl
  have e1L : (1 : Int64).toInt = 1 := rfl
  have e0' : (0 : Int32).toInt = 0 := rfl
  by_cases hx : 1 ≤ x ∧ x ≤ 3
  case neg =>
    have hne : ¬ x = 1 ∧ ¬ x = 2 := ⟨fun e => hx (by subst e; decide), fun e => hx (by subst e; decide)⟩
    refine res_no hI (c := 1) (w := 0) (by decide) ?_ ?_
    · unfold F_L_runScript F_X8_runScript
      rw [rq, b2_s, if_neg hx, el_r, b2_s, el_r, if_pos rfl]
    · unfold F_X9_runScript
      rw [if_neg hne.1, if_neg hne.2]
      unfold J_X9_runScript_25
      rw [f_inL (b := 1) (c := 3) (by decide) (by decide), b2_s, if_neg hx, if_pos rfl]
      unfold J_X9_runScript_57
      rw [ref1, b2_s, if_neg (by decide)]
  obtain ⟨n, hn1, hn3, rfl⟩ := in_n (m := 1) (n := 3) rfl rfl hx
  have hp2 : 0 < pw n ∧ pw n < 4611686018427387904 := by
    rcases (show n = 1 ∨ n = 2 ∨ n = 3 by omega) with rfl | rfl | rfl <;> decide
  have mod : ∀ D : Mem, F_X9_runScript (nI n) s D = J_X9_runScript_25 (nI n) s D (lN (pw n)) := fun D => by
    unfold F_X9_runScript
    rcases (show n = 1 ∨ n = 2 ∨ n = 3 by omega) with rfl | rfl | rfl
    · rw [if_pos (by decide)]
      rfl
    · rw [if_neg (by decide), if_pos (by decide)]
      rfl
    · rw [if_neg (by decide), if_neg (by decide)]
      rfl
  have hall : lN (pw (n - 1)) * (100000 : Int64) = lN (pw n) := by
    obtain ⟨k, rfl⟩ : ∃ k, n = k + 1 := ⟨n - 1, by omega⟩
    exact lN_mul (pw k) 100000
  have hsub : (lN (pw n) - 1).toInt = pw n - 1 := by
    rw [show lN (pw n) - (1 : Int64) = lN (pw n - 1) from lN_sub (b := 1) hp2.1, L_int (by omega)]
    omega
  have hcond : (0 ≤ s ∧ s ≤ lN (pw n) - 1) ↔ (0 ≤ s.toInt ∧ s.toInt < pw n) := by
    rw [fa_le64, fa_le64, hsub, e0]
    omega
  by_cases hs : 0 ≤ s.toInt ∧ s.toInt < pw n
  case neg =>
    refine res_no hI (c := 1) (w := 0) (by decide) ?_ ?_
    · unfold F_L_runScript F_X8_runScript
      rw [rq, b2_s, if_pos hx, el_l, nm_s, c_place C hn1 hn3, b1_s, u3_s, hall]
      by_cases c1 : s.toInt < 0
      · rw [if_pos ((lg_cmp_lt _ _).mpr (by rw [fa_lt64, e0]; exact c1)), b2_s, el_r, if_pos rfl]
      · rw [if_neg (fun q => by have := (lg_cmp_lt _ _).mp q; rw [fa_lt64, e0] at this; omega), if_neg (fun q => by have := (lg_cmp_lt _ _).mp q; rw [fa_lt64, L_int hp2.2] at this; omega), b2_s, el_r, if_pos rfl]
    · rw [mod]
      unfold J_X9_runScript_25
      rw [f_inL (b := 1) (c := 3) (by decide) (by decide), b2_s, if_pos hx, if_neg (by decide), f_inQ, b2_s, if_neg (fun q => hs (hcond.mp q)), if_pos rfl]
      unfold J_X9_runScript_57
      rw [ref1, b2_s, if_neg (by decide)]
  obtain ⟨σ, hσ, rfl⟩ : ∃ σ : Nat, σ < pw n ∧ s = lN σ := ⟨s.toInt.toNat, by omega, Int64.toInt_inj.mp (by rw [L_int (by omega)]; omega)⟩
  have hσ15 : σ < 1000000000000000 := Nat.lt_of_lt_of_le hσ (by
    rcases (show n = 1 ∨ n = 2 ∨ n = 3 by omega) with rfl | rfl | rfl <;> decide)
  obtain ⟨y1, ey, s65, s66, sw, sa⟩ := t_c (C := C) (q := 1) (q0 := 0) (by decide) c65 c66 n5 y8 wf
  obtain ⟨o, t', eo, ep⟩ := c_run (C := C) n1 n5 (by omega) y8 hK hσ15 hn3 n 0 y1 (999 - n) (by omega) (⟨s65, s66, sw⟩ : Tr N Y (K + 96 * 0) y1)
  have eo' : iter (fun z => S_X8_runScript_74 (nI n) (lN σ) z.1 z.2.1 z.2.2) fuel (lN (pw (n - 1)), (0 : Int32), sr C 1 y1) = some o := by
    rw [show fuel = n + 1 + (999 - n) by unfold fuel; omega]
    have : pw n / 100000 = pw (n - 1) := by
      obtain ⟨k, rfl⟩ : ∃ k, n = k + 1 := ⟨n - 1, by omega⟩
      exact pw_d k
    rw [this] at eo
    exact eo
  have e4 : (mu (mu (sr C 1 t') 40 0 (scf N Y σ n 0 y1)) 30 0 0) 30 4 = nI N := by rw [d30 _ _ _ (by decide), sr_ne _ _ (show 30 ≠ 1 by decide)]; exact h4
  have e5 : (mu (mu (sr C 1 t') 40 0 (scf N Y σ n 0 y1)) 30 0 0) 30 5 = nI Y := by rw [d30 _ _ _ (by decide), sr_ne _ _ (show 30 ≠ 1 by decide)]; exact h5
  have e33 : (mu (mu (sr C 1 t') 40 0 (scf N Y σ n 0 y1)) 30 0 0) 33 = C 33 := by rw [d33, sr_ne _ _ (show 33 ≠ 1 by decide)]
  obtain ⟨z1, ez, az⟩ := t_m (N := N) (Y := Y) (mu (mu (sr C 1 t') 40 0 (scf N Y σ n 0 y1)) 30 0 0) n5 y8
  rw [e33] at az
  have azz : Agree N Y y1 z1 := (sa.tr ag).tr az.sy
  obtain ⟨o2, z', eo2, ep2⟩ := m_run e4 e5 n1 n5 (by omega) y8 hK hσ15 hn3 n 0 z1 (999 - n) (by omega) (sw.ag azz.sy)
  have eo2' : iter (fun z => S_X9_runScript_84 (nI n) z.1 z.2.1 z.2.2.1 z.2.2.2) fuel (lN (pw n), lN σ, (0 : Int32), sr (mu (mu (sr C 1 t') 40 0 (scf N Y σ n 0 y1)) 30 0 0) 34 z1) = some o2 := by
    rw [show fuel = n + 1 + (999 - n) by unfold fuel; omega]
    rw [Nat.mod_eq_of_lt hσ] at eo2
    exact eo2
  rw [← scf_c (by omega) σ n 0 y1 z1 azz] at ep2
  refine res_tr hI (t := t') (z := z') (v := scf N Y σ n 0 y1) ?_ ?_
  · unfold F_L_runScript F_X8_runScript
    rw [rq, b2_s, if_pos hx, el_l, nm_s, c_place C hn1 hn3, b1_s, u3_s, hall, if_neg (fun q => by have := (lg_cmp_lt _ _).mp q; rw [fa_lt64, e0] at this; omega), if_pos ((lg_cmp_lt _ _).mpr (by rw [fa_lt64, L_int hp2.2]; exact hs.2)), ey, b2_s, eo', b1_s, ep, b2_s, el_l, nm_s]
  · rw [mod]
    unfold J_X9_runScript_25
    rw [f_inL (b := 1) (c := 3) (by decide) (by decide), b2_s, if_pos hx, if_neg (by decide), f_inQ, b2_s, if_pos (hcond.mpr hs), if_neg (by decide)]
    unfold J_X9_runScript_57
    rw [ref0, b2_s, if_pos rfl, ez, b2_s, eo2', b1_s, ep2]
end RUN
