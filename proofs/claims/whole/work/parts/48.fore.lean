/-! forecasts -/
section FORE
variable {C : Mem} {K N Y : Nat}
theorem t_c {q q0 : Nat} (hq : q0 ≠ q) (c65 : C q0 65 = nI N) (c66 : C q0 66 = nI Y) (n5 : N ≤ 5) (y8 : Y ≤ 8) (wf : WF N Y K (C q0)) : ∃ y, F_X5_copyFrom q q0 C = some (0, sr C q y) ∧ Sv N Y K y (C q0) :=
  ⟨cpg N Y (C q0) (C q), g_copyFrom hq c65 c66 n5 y8 wf.2.1 wf.2.2.2.2.1 wf.2.2.2.2.2.1, (cpg_65 _ _ _ _).trans c65, (cpg_66 _ _ _ _).trans c66, wf.ag (cpg_a _ _ _ _), cpg_a _ _ _ _⟩
theorem Agree.of {y z : Pg} (n5 : N ≤ 5) (y8 : Y ≤ 8) (h : ∀ k, k < 65 → y k = z k) : Agree N Y y z := ⟨fun k hk => h k (by omega), fun j hj => h _ (by omega), fun i f hi hf => h _ (by omega)⟩
theorem t_m (D : Mem) (n5 : N ≤ 5) (y8 : Y ≤ 8) : ∃ z, F_X9_copyPage 33 (0 : Int32) 34 (0 : Int32) D = some (0, sr D 34 z) ∧ Agree N Y z (D 33) := by
  have g := g_copyPage D (r0 := 33) (r2 := 34) (a := 0) (b := 0) (by decide) (by decide) (by decide) (by decide) (by decide)
  refine ⟨_, g, Agree.of n5 y8 fun k hk => ?_⟩
  rw [pst_at, if_pos (by omega), show 0 + (k - 0) = k by omega]
theorem res_tr (hI : Inv K C) {x : Option (Int32 × Mem)} {g : Mem → Option (Int32 × Mem)} {v : Int32} {t z : Pg} (h1 : x = some (0, mu (sr C 1 t) 40 0 v)) (h2 : g (mu (sr C 1 t) 40 0 v) = some (v, sr (mu (mu (sr C 1 t) 40 0 v) 30 0 0) 34 z)) : Res K x g :=
  ⟨0, _, v, _, h1, h2, by rw [sr_ne _ _ (show 30 ≠ 34 by decide), mu_at], fun _ => by rw [sr_ne _ _ (show 40 ≠ 34 by decide), mu_r _ _ _ (show 40 ≠ 30 by decide), mu_at], ((((hI.qt (qt_1 C t)).qt (qt_40 _ v)).qt (qt_30 _ 0)).qt (qt_34 _ z)).mo (by omega)⟩
theorem g_tick1 {y : Pg} (hN : y 65 = nI N) (hY : y 66 = nI Y) (h5 : N ≤ 5) (h1 : 1 ≤ Y) (h8 : Y ≤ 8) (q : Nat) {d : Nat} (hd : d < 1000) (hK : K + 1 < 1000000) (hW : WF N Y K y) : F_X5_passTicks q (1 : Int32) (nI d) (sr C q y) = some (0, sr C q (tk N Y d y)) := g_passTicks (m := 1) hN hY h5 h1 h8 q hd (by decide) hK hW
/-- the trial's page, class and model -/
def Tr (N Y K : Nat) (y : Pg) : Prop := y 65 = nI N ∧ y 66 = nI Y ∧ WF N Y K y
theorem Tr.tk {y : Pg} (h1 : 1 ≤ Y) (h8 : Y ≤ 8) (h5 : N ≤ 5) (h : Tr N Y K y) (hK : K < 1000000) (d : Nat) : Tr N Y (K + 1) (tk N Y d y) := ⟨(tk_hi d y h1 h8 h5 (by decide)).trans h.1, (tk_hi d y h1 h8 h5 (by decide)).trans h.2.1, h.2.2.k_tk h1 h8 hK d⟩
def ahf (N Y d : Nat) (_ : Nat) (p : Int32 × Pg) : Int32 × Pg := (if avg Y (tk N Y d p.2) < p.1 then avg Y (tk N Y d p.2) else p.1, tk N Y d p.2)
def ahd (N Y d m : Nat) (y : Pg) : Int32 × Pg := fe (ahf N Y d) m (99, y)
theorem ahd_c {y z : Pg} (h1 : 1 ≤ Y) (h : Agree N Y y z) (d m : Nat) : (ahd N Y d m y).1 = (ahd N Y d m z).1 ∧ Agree N Y (ahd N Y d m y).2 (ahd N Y d m z).2 :=
  fe_rel (f := ahf N Y d) (g := ahf N Y d) (t := (99, y)) (u := (99, z)) (R := fun (_ : Nat) (p q : Int32 × Pg) => p.1 = q.1 ∧ Agree N Y p.2 q.2) ⟨rfl, h⟩ fun i p q _ hR => by
    have g := hR.2.k_tk h1 d
    refine ⟨?_, g⟩
    show (if avg Y (tk N Y d p.2) < p.1 then avg Y (tk N Y d p.2) else p.1) = (if avg Y (tk N Y d q.2) < q.1 then avg Y (tk N Y d q.2) else q.1)
    rw [avg_c g, hR.1]
theorem c_ahd {y : Pg} (h1 : 1 ≤ Y) (h8 : Y ≤ 8) (h5 : N ≤ 5) (h : Tr N Y K y) {d m : Nat} (hd : d < 1000) (hm : m < 1000) (hK : K + m < 1000000) : iter (fun w => S_X8_ahead_30 (nI m) (nI d) w.1 w.2.1 w.2.2) fuel ((99 : Int32), (0 : Int32), sr C 1 y) = some ((ahd N Y d m y).1, nI m, sr C 1 (ahd N Y d m y).2) ∧ Tr N Y (K + m) (ahd N Y d m y).2 := by
  have hs : ∀ (i : Nat) (p : Int32 × Pg), i < m → Tr N Y (K + i) p.2 → S_X8_ahead_30 (nI m) (nI d) p.1 (nI i) (sr C 1 p.2) = some (.inl ((ahf N Y d i p).1, nI (i + 1), sr C 1 (ahf N Y d i p).2)) ∧ Tr N Y (K + (i + 1)) (ahf N Y d i p).2 := fun i p hi hp => by
    have ht := hp.tk h1 h8 h5 (by omega) d
    refine ⟨?_, ht⟩
    unfold S_X8_ahead_30
    rw [if_neg (nI_ge hi (by omega)), g_tick1 hp.1 hp.2.1 h5 h1 h8 1 hd (by omega) hp.2.2, b2_s, f_mean (by rw [sr_same]; exact ht.2.1) h1 h8, b2_s, nm_s, nm_s, nI_1, sr_same]
    rfl
  exact ⟨iter_emb (n := m) (t0 := (99, y)) (fun i p => (p.1, nI i, sr C 1 p.2)) (ahf N Y d) (fun i p => Tr N Y (K + i) p.2) (fun p => (p.1, nI m, sr C 1 p.2)) hm h (fun i p hi hp => hs i p hi hp) (fun p _ => by
      show S_X8_ahead_30 (nI m) (nI d) p.1 (nI m) (sr C 1 p.2) = _
      unfold S_X8_ahead_30
      rw [if_pos (nI_le (Nat.le_refl m) (by omega))]), fe_inv (f := ahf N Y d) (I := fun i p => Tr N Y (K + i) p.2) h fun i p hi hp => (hs i p hi hp).2⟩
theorem m_ahd {D : Mem} {z : Pg} (e4 : D 30 4 = nI N) (e5 : D 30 5 = nI Y) (h1 : 1 ≤ Y) (h8 : Y ≤ 8) (h5 : N ≤ 5) (h : WF N Y K z) {d m : Nat} (hd : d < 1000) (hm : m < 1000) (hK : K + m < 1000000) : iter (fun w => S_X9_ahead_54 (nI m) (nI d) w.1 w.2.1 w.2.2) fuel ((99 : Int32), (0 : Int32), sr D 34 z) = some ((ahd N Y d m z).1, nI m, sr D 34 (ahd N Y d m z).2) :=
  iter_emb (n := m) (t0 := (99, z)) (fun i p => (p.1, nI i, sr D 34 p.2)) (ahf N Y d) (fun i p => WF N Y (K + i) p.2) (fun p => (p.1, nI m, sr D 34 p.2)) hm h (fun i p hi hp => ⟨by
    show S_X9_ahead_54 (nI m) (nI d) p.1 (nI i) (sr D 34 p.2) = some (.inl ((ahf N Y d i p).1, nI (i + 1), sr D 34 (ahf N Y d i p).2))
    unfold S_X9_ahead_54
    rw [if_neg (nI_ge hi (by omega)), g_tickOn e4 e5 h5 h1 h8 (by omega) hp 34 (by decide) rfl hd, b2_s, f_meanOf (by rw [sr_ne _ _ (show 30 ≠ 34 by decide)]; exact e5) h1 h8 rfl, b2_s, sr_same]
    unfold ahf
    by_cases c : avg Y (tk N Y d p.2) < p.1
    · rw [if_neg (fa_of_lt c).2.1, if_pos c, nm_s, nI_1]
    · rw [if_pos (fa_of_nlt c), if_neg c, nm_s, nI_1], hp.k_tk h1 h8 (by omega) d⟩) (fun p _ => by
    show S_X9_ahead_54 (nI m) (nI d) p.1 (nI m) (sr D 34 p.2) = _
    unfold S_X9_ahead_54
    rw [if_pos (nI_le (Nat.le_refl m) (by omega))])
theorem p_ahead (hI : Inv K C) (hK : K < 900000) (x w a : Int32) : Res K (F_L_ahead x w a C) (F_X9_ahead x w a) := by
  obtain ⟨N, Y, ⟨n1, n5, y2, y8, h4, h5⟩, ⟨c65, c66, wf, ag⟩, -, -, -⟩ := id hI
  by_cases hx : (1 ≤ x ∧ x ≤ 96) ∧ (0 ≤ w ∧ w ≤ 5)
  case neg =>
    refine res_no hI (c := 1) (w := 0) (by decide) ?_ ?_
    · unfold F_L_ahead F_X8_ahead
      rw [rqT, b2_s, if_neg hx, el_r, b2_s, el_r, if_pos rfl]
    · unfold F_X9_ahead
      rw [arT, b2_s, if_neg hx, if_pos rfl]
      unfold J_X9_ahead_26
      rw [ref1, b2_s, if_neg (by decide)]
  by_cases ha : 0 ≤ a ∧ a ≤ 6
  case neg =>
    refine res_no hI (c := 1) (w := 0) (by decide) ?_ ?_
    · unfold F_L_ahead F_X8_ahead
      rw [rqT, b2_s, if_pos hx, el_l, rq, b2_s, if_neg ha, el_r, b2_s, el_r, if_pos rfl]
    · unfold F_X9_ahead
      rw [arT, b2_s, if_pos hx, if_neg (by decide), f_inL (b := 0) (c := 6) (by decide) (by decide), b2_s, if_neg ha, if_pos rfl]
      unfold J_X9_ahead_26
      rw [ref1, b2_s, if_neg (by decide)]
  have hx' := hx
  obtain ⟨hx1, hx2⟩ := hx'
  obtain ⟨m, hm1, hm, rfl⟩ := in_n (m := 1) (n := 96) rfl rfl hx1
  obtain ⟨d, -, hd, rfl⟩ := in_n (m := 0) (n := 5) rfl rfl hx2
  obtain ⟨y1, ey, s65, s66, sw, sa⟩ := t_c (C := C) (q := 1) (q0 := 0) (by decide) c65 c66 n5 y8 wf
  obtain ⟨hc, ht⟩ := c_ahd (C := C) (by omega) y8 n5 (⟨s65, s66, sw⟩ : Tr N Y K y1) (d := d) (m := m) (by omega) (by omega) (by omega)
  -- the answer, as the class's trial tells it
  have fin : ∀ v : Int32, (∀ D : Mem, D = sr C 1 (ahd N Y d m y1).2 → (if a = 0 then (b2 (F_X7_mean 1 D) fun r36 C37 => some (Sum.inl r36, C37)) else if a = 1 then (b2 (F_X7_highest 1 D) fun r39 C40 => some (Sum.inl r39, C40)) else if a = 2 then some (Sum.inl ((D 1 15) - (D 0 15)), D) else if a = 3 then (b2 (F_X5_fuel 1 D) fun r42 C43 => b2 (F_X5_fuel 0 C43) fun r45 C46 => some (Sum.inl (r42 - r45), C46)) else if a = 4 then (b2 (F_X5_starts 1 D) fun r48 C49 => b2 (F_X5_starts 0 C49) fun r51 C52 => some (Sum.inl (r48 - r51), C52)) else if a = 5 then some (Sum.inl ((D 1 11) - (D 0 11)), D) else some (Sum.inl (ahd N Y d m y1).1, D)) = (some (.inl v, D) : Option (Rs × Mem))) → (∀ (D : Mem) (z : Pg), D 30 4 = nI N → D 30 5 = nI Y → D 33 = C 33 → Agree N Y (ahd N Y d m y1).2 z → (if a = 0 then (b2 (F_X9_meanOf 34 (sr D 34 z)) fun r37 C38 => some (r37, C38)) else if a = 1 then gi (((22 : Int32) + ((sr D 34 z) 30 5)) - (1 : Int32)) (alen 34) (some (((sr D 34 z) 34 ((((22 : Int32) + ((sr D 34 z) 30 5)) - (1 : Int32))).toNatClampNeg), sr D 34 z)) else if a = 2 then gi (15 : Int32) (alen 34) (gi (15 : Int32) (alen 33) (some ((((sr D 34 z) 34 ((15 : Int32)).toNatClampNeg) - ((sr D 34 z) 33 ((15 : Int32)).toNatClampNeg)), sr D 34 z))) else if a = 3 then (b2 (F_X9_fuelOf 34 (sr D 34 z)) fun r43 C44 => b2 (F_X9_fuelOf 33 C44) fun r46 C47 => some ((r43 - r46), C47)) else if a = 4 then (b2 (F_X9_startsOf 34 (sr D 34 z)) fun r49 C50 => b2 (F_X9_startsOf 33 C50) fun r52 C53 => some ((r49 - r52), C53)) else if a = 5 then gi (11 : Int32) (alen 34) (gi (11 : Int32) (alen 33) (some ((((sr D 34 z) 34 ((11 : Int32)).toNatClampNeg) - ((sr D 34 z) 33 ((11 : Int32)).toNatClampNeg)), sr D 34 z))) else some ((ahd N Y d m y1).1, sr D 34 z)) = some (v, sr D 34 z)) → Res K (F_L_ahead (nI m) (nI d) a C) (F_X9_ahead (nI m) (nI d) a) := fun v hv1 hv2 => by
    have e4 : (mu (mu (sr C 1 (ahd N Y d m y1).2) 40 0 v) 30 0 0) 30 4 = nI N := by rw [d30 _ _ _ (by decide), sr_ne _ _ (show 30 ≠ 1 by decide)]; exact h4
    have e5 : (mu (mu (sr C 1 (ahd N Y d m y1).2) 40 0 v) 30 0 0) 30 5 = nI Y := by rw [d30 _ _ _ (by decide), sr_ne _ _ (show 30 ≠ 1 by decide)]; exact h5
    have e33 : (mu (mu (sr C 1 (ahd N Y d m y1).2) 40 0 v) 30 0 0) 33 = C 33 := by rw [d33, sr_ne _ _ (show 33 ≠ 1 by decide)]
    obtain ⟨z1, ez, az⟩ := t_m (N := N) (Y := Y) (mu (mu (sr C 1 (ahd N Y d m y1).2) 40 0 v) 30 0 0) n5 y8
    rw [e33] at az
    have azz : Agree N Y y1 z1 := (sa.tr ag).tr az.sy
    obtain ⟨r1, r2⟩ := ahd_c (by omega) azz d m
    have hmm := m_ahd e4 e5 (by omega) y8 n5 (sw.ag azz.sy) (d := d) (m := m) (by omega) (by omega) (by omega)
    refine res_tr hI (t := (ahd N Y d m y1).2) (z := (ahd N Y d m z1).2) (v := v) ?_ ?_
    · unfold F_L_ahead F_X8_ahead
      rw [rqT, b2_s, if_pos hx, el_l, rq, b2_s, if_pos ha, el_l, ey, b2_s, hc, b1_s, u3_s, hv1 _ rfl, b2_s, el_l, nm_s]
    · unfold F_X9_ahead
      rw [arT, b2_s, if_pos hx, if_neg (by decide), f_inL (b := 0) (c := 6) (by decide) (by decide), b2_s, if_pos ha, if_neg (by decide)]
      unfold J_X9_ahead_26
      rw [ref0, b2_s, if_pos rfl, ez, b2_s, hmm, b1_s, u3_s, ← r1]
      exact hv2 _ _ e4 e5 e33 r2
  have hT := ht
  obtain ⟨t65, t66, tw⟩ := hT
  obtain ⟨k, -, hk, rfl⟩ := in_n (m := 0) (n := 6) rfl rfl ha
  have e34 : ∀ (D : Mem) (z : Pg), (sr D 34 z) 34 = z := fun D z => sr_same D 34 z
  have o33 : ∀ (D : Mem) (z : Pg), (sr D 34 z) 33 = D 33 := fun D z => sr_ne D z (by decide)
  have o30 : ∀ (D : Mem) (z : Pg), (sr D 34 z) 30 = D 30 := fun D z => sr_ne D z (by decide)
  have i1 : ∀ (z : Pg), (sr C 1 z) 1 = z := fun z => sr_same C 1 z
  have i0 : ∀ (z : Pg), (sr C 1 z) 0 = C 0 := fun z => sr_ne C z (by decide)
  generalize (ahd N Y d m y1) = P at *
  rcases (show k = 0 ∨ k = 1 ∨ k = 2 ∨ k = 3 ∨ k = 4 ∨ k = 5 ∨ k = 6 by omega) with rfl | rfl | rfl | rfl | rfl | rfl | rfl
  · refine fin (avg Y P.2) (fun D hD => ?_) (fun D z e4 e5 e33 az => ?_)
    · rw [if_pos (by decide), hD, f_mean (by rw [i1]; exact t66) (by omega) y8, b2_s, i1]
    · rw [if_pos (by decide), f_meanOf (by rw [o30]; exact e5) (by omega) y8 rfl, b2_s, e34, avg_c az]
  · refine fin (P.2 (22 + (Y - 1))) (fun D hD => ?_) (fun D z e4 e5 e33 az => ?_)
    · rw [if_neg (by decide), if_pos (by decide), hD, g_highest t66 (by omega) y8, b2_s]
    · rw [if_neg (by decide), if_pos (by decide), o30, e5, a22, s1 (by omega), show alen 34 = 65 from rfl, gi_n (by omega) (by decide), nI_clamp (by omega), e34, az.2.1 (Y - 1) (by omega), show 22 + Y - 1 = 22 + (Y - 1) by omega]
  · refine fin (P.2 15 - C 0 15) (fun D hD => ?_) (fun D z e4 e5 e33 az => ?_)
    · rw [if_neg (by decide), if_neg (by decide), if_pos (by decide), hD, i1, i0]
    · rw [if_neg (by decide), if_neg (by decide), if_pos (by decide), show alen 34 = 65 from rfl, show alen 33 = 65 from rfl, gl_15, gl_15, cl_15, e34, o33, e33, az.1 15 (by decide), ag.1 15 (by decide)]
  · refine fin (fuS N P.2 - fuS N (C 0)) (fun D hD => ?_) (fun D z e4 e5 e33 az => ?_)
    · rw [if_neg (by decide), if_neg (by decide), if_neg (by decide), if_pos (by decide), hD, f_fuel (by rw [i1]; exact t65) n5, b2_s, f_fuel (by rw [i0]; exact c65) n5, b2_s, i1, i0]
    · rw [if_neg (by decide), if_neg (by decide), if_neg (by decide), if_pos (by decide), f_fuelOf (by rw [o30]; exact e4) n5 rfl, b2_s, f_fuelOf (by rw [o30]; exact e4) n5 rfl, b2_s, e34, o33, e33, fuS_c az, fuS_c ag]
  · refine fin (stS N P.2 - stS N (C 0)) (fun D hD => ?_) (fun D z e4 e5 e33 az => ?_)
    · rw [if_neg (by decide), if_neg (by decide), if_neg (by decide), if_neg (by decide), if_pos (by decide), hD, f_starts (by rw [i1]; exact t65) n5, b2_s, f_starts (by rw [i0]; exact c65) n5, b2_s, i1, i0]
    · rw [if_neg (by decide), if_neg (by decide), if_neg (by decide), if_neg (by decide), if_pos (by decide), f_startsOf (by rw [o30]; exact e4) n5 rfl, b2_s, f_startsOf (by rw [o30]; exact e4) n5 rfl, b2_s, e34, o33, e33, stS_c az, stS_c ag]
  · refine fin (P.2 11 - C 0 11) (fun D hD => ?_) (fun D z e4 e5 e33 az => ?_)
    · rw [if_neg (by decide), if_neg (by decide), if_neg (by decide), if_neg (by decide), if_neg (by decide), if_pos (by decide), hD, i1, i0]
    · rw [if_neg (by decide), if_neg (by decide), if_neg (by decide), if_neg (by decide), if_neg (by decide), if_pos (by decide), show alen 34 = 65 from rfl, show alen 33 = 65 from rfl, gl_11, gl_11, cl_11, e34, o33, e33, az.1 11 (by decide), ag.1 11 (by decide)]
  · refine fin P.1 (fun D hD => ?_) (fun D z e4 e5 e33 az => ?_)
    · rw [if_neg (by decide), if_neg (by decide), if_neg (by decide), if_neg (by decide), if_neg (by decide), if_neg (by decide)]
    · rw [if_neg (by decide), if_neg (by decide), if_neg (by decide), if_neg (by decide), if_neg (by decide), if_neg (by decide)]
/-! until it is warm -/
def waf (N Y d : Nat) (x : Int32) : Nat → Nat → Pg → Int32
  | 0, i, t => if avg Y t < x then -9 else nI i
  | k + 1, i, t => if avg Y t < x then waf N Y d x k (i + 1) (tk N Y d t) else nI i
theorem waf_c (h1 : 1 ≤ Y) (d : Nat) (x : Int32) : ∀ (k i : Nat) (y z : Pg), Agree N Y y z → waf N Y d x k i y = waf N Y d x k i z
  | 0, i, y, z, h => by
    unfold waf
    rw [avg_c h]
  | k + 1, i, y, z, h => by
    unfold waf
    rw [avg_c h, waf_c h1 d x k (i + 1) _ _ (h.k_tk h1 d)]
theorem c_warm (h1 : 1 ≤ Y) (h8 : Y ≤ 8) (h5 : N ≤ 5) {d : Nat} (hd : d < 1000) (x : Int32) (hK : K < 900000) : ∀ (k i : Nat) (t : Pg) (m : Nat), i + k = 200 → Tr N Y (K + i) t → ∃ o t', iter (fun w => S_X8_warmAfter_26 x (nI d) w.1 w.2) (k + 1 + m) (nI i, sr C 1 t) = some o ∧ Sum.elim (u2 fun (_ : Int32) C18 => b2 (F_X7_mean 1 C18) fun r28 C29 => (if r28 < x then some (Sum.inl (-9 : Int32), C29) else some (Sum.inl (200 : Int32), C29) : Option (Rs × Mem))) (fun y => some y) o = some (.inl (waf N Y d x k i t), sr C 1 t')
  | 0, i, t, m, hi, hT => by
    refine ⟨.inl (nI i, sr C 1 t), t, ?_, ?_⟩
    · rw [show 0 + 1 + m = m + 1 by omega]
      refine iter_e _ ?_ _
      show S_X8_warmAfter_26 x (nI d) (nI i) (sr C 1 t) = _
      unfold S_X8_warmAfter_26
      rw [if_pos (show (200 : Int32) ≤ nI i from nI_le (show 200 ≤ i by omega) (by omega))]
    · rw [el_l, u2_s, f_mean (by rw [sr_same]; exact hT.2.1) h1 h8, b2_s, sr_same]
      unfold waf
      have : i = 200 := by omega
      subst this
      split <;> rfl
  | k + 1, i, t, m, hi, hT => by
    have hs : S_X8_warmAfter_26 x (nI d) (nI i) (sr C 1 t) = if avg Y t < x then some (.inl (nI (i + 1), sr C 1 (tk N Y d t))) else some (.inr (.inr (.inl (nI i), sr C 1 t))) := by
      unfold S_X8_warmAfter_26
      rw [if_neg (show ¬ (200 : Int32) ≤ nI i from nI_ge (show i < 200 by omega) (by decide)), f_mean (by rw [sr_same]; exact hT.2.1) h1 h8, b2_s, sr_same, g_tick1 hT.1 hT.2.1 h5 h1 h8 1 hd (by omega) hT.2.2, b2_s, nm_s, nI_1]
    rw [show k + 1 + 1 + m = (k + 1 + m) + 1 by omega]
    unfold waf
    by_cases c : avg Y t < x
    · rw [if_pos c] at hs
      obtain ⟨o, t', e1, e2⟩ := c_warm h1 h8 h5 hd x hK k (i + 1) (tk N Y d t) m (by omega) (hT.tk h1 h8 h5 (by omega) d)
      rw [if_pos c]
      exact ⟨o, t', by rw [iter_s _ hs]; exact e1, e2⟩
    · rw [if_neg c] at hs
      rw [if_neg c]
      exact ⟨_, t, iter_e _ hs _, rfl⟩
theorem m_warm {D : Mem} (e4 : D 30 4 = nI N) (e5 : D 30 5 = nI Y) (h1 : 1 ≤ Y) (h8 : Y ≤ 8) (h5 : N ≤ 5) {d : Nat} (hd : d < 1000) (x : Int32) (hK : K < 900000) : ∀ (k i : Nat) (t : Pg) (m : Nat), i + k = 200 → WF N Y (K + i) t → ∃ o t', iter (fun w => S_X9_warmAfter_53 x (nI d) w.1 w.2) (k + 2 + m) (nI i, sr D 34 t) = some o ∧ Sum.elim (u2 fun (_ : Int32) C18 => (some ((-9 : Int32), C18) : Option (Int32 × Mem))) (fun y => some y) o = some (waf N Y d x k i t, sr D 34 t')
  | 0, i, t, m, hi, hT => by
    have : i = 200 := by omega
    subst this
    have hs : S_X9_warmAfter_53 x (nI d) (nI 200) (sr D 34 t) = if avg Y t < x then some (.inl (nI 201, sr D 34 (tk N Y d t))) else some (.inr (.inr (nI 200, sr D 34 t))) := by
      unfold S_X9_warmAfter_53
      rw [if_neg (by decide), f_meanOf (by rw [sr_ne _ _ (show 30 ≠ 34 by decide)]; exact e5) h1 h8 rfl, b2_s, sr_same, g_tickOn e4 e5 h5 h1 h8 (by omega) hT 34 (by decide) rfl hd, b2_s, nm_s, nI_1]
    rw [show 0 + 2 + m = (m + 1) + 1 by omega]
    unfold waf
    by_cases c : avg Y t < x
    · rw [if_pos c] at hs
      rw [if_pos c]
      refine ⟨.inl (nI 201, sr D 34 (tk N Y d t)), tk N Y d t, ?_, rfl⟩
      rw [iter_s _ hs]
      refine iter_e _ ?_ _
      show S_X9_warmAfter_53 x (nI d) (nI 201) (sr D 34 (tk N Y d t)) = _
      unfold S_X9_warmAfter_53
      rw [if_pos (by decide)]
    · rw [if_neg c] at hs
      rw [if_neg c]
      exact ⟨_, t, iter_e _ hs _, rfl⟩
  | k + 1, i, t, m, hi, hT => by
    have hs : S_X9_warmAfter_53 x (nI d) (nI i) (sr D 34 t) = if avg Y t < x then some (.inl (nI (i + 1), sr D 34 (tk N Y d t))) else some (.inr (.inr (nI i, sr D 34 t))) := by
      unfold S_X9_warmAfter_53
      rw [if_neg (show ¬ (200 : Int32) < nI i from nI_nlt (show i ≤ 200 by omega) (by decide)), f_meanOf (by rw [sr_ne _ _ (show 30 ≠ 34 by decide)]; exact e5) h1 h8 rfl, b2_s, sr_same, g_tickOn e4 e5 h5 h1 h8 (by omega) hT 34 (by decide) rfl hd, b2_s, nm_s, nI_1]
    rw [show k + 1 + 2 + m = (k + 2 + m) + 1 by omega]
    unfold waf
    by_cases c : avg Y t < x
    · rw [if_pos c] at hs
      obtain ⟨o, t', e1, e2⟩ := m_warm e4 e5 h1 h8 h5 hd x hK k (i + 1) (tk N Y d t) m (by omega) (hT.k_tk h1 h8 (by omega) d)
      rw [if_pos c]
      exact ⟨o, t', by rw [iter_s _ hs]; exact e1, e2⟩
    · rw [if_neg c] at hs
      rw [if_neg c]
      exact ⟨_, t, iter_e _ hs _, rfl⟩
theorem p_warmAfter (hI : Inv K C) (hK : K < 900000) (x w : Int32) : Res K (F_L_warmAfter x w C) (F_X9_warmAfter x w) := by
  obtain ⟨N, Y, ⟨n1, n5, y2, y8, h4, h5⟩, ⟨c65, c66, wf, ag⟩, -, -, -⟩ := id hI
  by_cases hx : 0 ≤ x ∧ x ≤ 99
  case neg =>
    refine res_no hI (c := 1) (w := 0) (by decide) ?_ ?_
    · unfold F_L_warmAfter F_X8_warmAfter
      rw [rq, b2_s, if_neg hx, el_r, b2_s, el_r, if_pos rfl]
    · unfold F_X9_warmAfter
      rw [f_inL (b := 0) (c := 99) (by decide) (by decide), b2_s, if_neg hx, if_pos rfl]
      unfold J_X9_warmAfter_30
      rw [ref1, b2_s, if_neg (by decide)]
  by_cases hw : 0 ≤ w ∧ w ≤ 5
  case neg =>
    refine res_no hI (c := 1) (w := 0) (by decide) ?_ ?_
    · unfold F_L_warmAfter F_X8_warmAfter
      rw [rq, b2_s, if_pos hx, el_l, rq, b2_s, if_neg hw, el_r, b2_s, el_r, if_pos rfl]
    · unfold F_X9_warmAfter
      rw [f_inL (b := 0) (c := 99) (by decide) (by decide), b2_s, if_pos hx, if_neg (by decide), f_inL (b := 0) (c := 5) (by decide) (by decide), b2_s, if_neg hw, if_pos rfl]
      unfold J_X9_warmAfter_30
      rw [ref1, b2_s, if_neg (by decide)]
  obtain ⟨d, -, hd, rfl⟩ := in_n (m := 0) (n := 5) rfl rfl hw
  obtain ⟨y1, ey, s65, s66, sw, sa⟩ := t_c (C := C) (q := 1) (q0 := 0) (by decide) c65 c66 n5 y8 wf
  obtain ⟨o, t', eo, ep⟩ := c_warm (C := C) (by omega) y8 n5 (d := d) (by omega) x hK 200 0 y1 799 (by decide) (⟨s65, s66, sw⟩ : Tr N Y (K + 0) y1)
  have eo' : iter (fun z => S_X8_warmAfter_26 x (nI d) z.1 z.2) fuel ((0 : Int32), sr C 1 y1) = some o := by
    rw [show fuel = 200 + 1 + 799 by decide]
    exact eo
  have e4 : (mu (mu (sr C 1 t') 40 0 (waf N Y d x 200 0 y1)) 30 0 0) 30 4 = nI N := by rw [d30 _ _ _ (by decide), sr_ne _ _ (show 30 ≠ 1 by decide)]; exact h4
  have e5 : (mu (mu (sr C 1 t') 40 0 (waf N Y d x 200 0 y1)) 30 0 0) 30 5 = nI Y := by rw [d30 _ _ _ (by decide), sr_ne _ _ (show 30 ≠ 1 by decide)]; exact h5
  have e33 : (mu (mu (sr C 1 t') 40 0 (waf N Y d x 200 0 y1)) 30 0 0) 33 = C 33 := by rw [d33, sr_ne _ _ (show 33 ≠ 1 by decide)]
  obtain ⟨z1, ez, az⟩ := t_m (N := N) (Y := Y) (mu (mu (sr C 1 t') 40 0 (waf N Y d x 200 0 y1)) 30 0 0) n5 y8
  rw [e33] at az
  have azz : Agree N Y y1 z1 := (sa.tr ag).tr az.sy
  obtain ⟨o2, z', eo2, ep2⟩ := m_warm e4 e5 (by omega) y8 n5 (d := d) (by omega) x hK 200 0 z1 798 (by decide) (sw.ag azz.sy)
  have eo2' : iter (fun z => S_X9_warmAfter_53 x (nI d) z.1 z.2) fuel ((0 : Int32), sr (mu (mu (sr C 1 t') 40 0 (waf N Y d x 200 0 y1)) 30 0 0) 34 z1) = some o2 := by
    rw [show fuel = 200 + 2 + 798 by decide]
    exact eo2
  rw [← waf_c (by omega) d x 200 0 y1 z1 azz] at ep2
  refine res_tr hI (t := t') (z := z') (v := waf N Y d x 200 0 y1) ?_ ?_
  · unfold F_L_warmAfter F_X8_warmAfter
    rw [rq, b2_s, if_pos hx, el_l, rq, b2_s, if_pos hw, el_l, ey, b2_s, eo', b1_s, ep, b2_s, el_l, nm_s]
  · unfold F_X9_warmAfter
    rw [f_inL (b := 0) (c := 99) (by decide) (by decide), b2_s, if_pos hx, if_neg (by decide), f_inL (b := 0) (c := 5) (by decide) (by decide), b2_s, if_pos hw, if_neg (by decide)]
    unfold J_X9_warmAfter_30
    rw [ref0, b2_s, if_pos rfl, ez, b2_s, eo2', b1_s, ep2]
end FORE
