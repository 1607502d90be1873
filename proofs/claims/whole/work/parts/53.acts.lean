/-! actions: both remember, then both change the same -/
section ACTS
variable {C : Mem} {K N Y : Nat}
theorem c_rem {P H : Nat} (hP : P < 15) (hH : H ≤ 14) (e1 : C 23 1 = nI P) (e2 : C 23 2 = nI H) (c65 : C 0 65 = nI N) (c66 : C 0 66 = nI Y) (n5 : N ≤ 5) (y8 : Y ≤ 8) (wf : WF N Y K (C 0)) : ∃ y, Sv N Y K y (C 0) ∧ F_X2_remember 0 C = some (0, sr (sr C (2 + P % 14) y) 23 (up (up (C 23) 1 (nI (P % 14 + 1))) 2 (nI (if H = 14 then 14 else H + 1)))) := by
  have j17 : ∀ (D : Mem) (Q : Nat) (y : Pg), Q < 14 → D 23 1 = nI Q → D 23 2 = nI H → F_X5_copyFrom (2 + Q) 0 D = some (0, sr D (2 + Q) y) → J_X2_remember_17 0 D = some (0, sr (sr D (2 + Q) y) 23 (up (up (D 23) 1 (nI (Q + 1))) 2 (nI (if H = 14 then 14 else H + 1)))) := fun D Q y hQ d1 d2 ey => by
    have e23 : (sr D (2 + Q) y) 23 = D 23 := sr_ne _ _ (by omega)
    unfold J_X2_remember_17
    rw [d1, gi_n hQ (by decide), nI_clamp (by omega), ey, b2_s, nm_s, nm_s, mu_s (sr D (2 + Q) y), mu_sr, sr_same, e23, up_ne _ _ (show 2 ≠ 1 by decide), d2, d1, nI_1, nI_1]
    by_cases h : H = 14
    · subst h
      rw [if_pos (show (14 : Int32) < nI (14 + 1) by decide), if_pos rfl]
      rfl
    · rw [if_neg (show ¬ (14 : Int32) < nI (H + 1) from nI_nlt (show H + 1 ≤ 14 by omega) (by decide)), if_neg h]
  unfold F_X2_remember
  by_cases h : P = 14
  · subst h
    obtain ⟨y, ey, hy⟩ := t_c (C := mu C 23 1 0) (q := 2 + 0) (q0 := 0) (K := K) (by omega) (by rw [mu_r _ _ _ (show 0 ≠ 23 by decide)]; exact c65) (by rw [mu_r _ _ _ (show 0 ≠ 23 by decide)]; exact c66) n5 y8 (by rw [mu_r _ _ _ (show 0 ≠ 23 by decide)]; exact wf)
    rw [mu_r _ _ _ (show 0 ≠ 23 by decide)] at hy
    refine ⟨y, hy, ?_⟩
    rw [e1, if_neg (show ¬ nI 14 < (14 : Int32) by decide), nm_s]
    refine (j17 (mu C 23 1 0) 0 y (by decide) (mu_at C 23 1 0) (by rw [mu_o _ _ (show 2 ≠ 1 by decide)]; exact e2) ey).trans ?_
    rw [mu_s C, sr_same, sr_comm _ _ _ (show 23 ≠ 2 + 0 by decide), sr_sr, up_up]
  · obtain ⟨y, ey, hy⟩ := t_c (C := C) (q := 2 + P) (q0 := 0) (by omega) c65 c66 n5 y8 wf
    refine ⟨y, hy, ?_⟩
    rw [e1, if_pos (show nI P < (14 : Int32) from nI_lt (show P < 14 by omega) (by decide)), j17 C P y (by omega) e1 e2 ey, show P % 14 = P by omega]
theorem act (hI : Inv K C) {N Y : Nat} (hN : Nu N Y C) (hS : Sv N Y K (C 0) (C 33)) (hT : Tx C) (hH : Hs N Y K C) (hL : Sl N Y K C) : ∃ R, F_X2_remember 0 C = some (0, sr R 0 (C 0)) ∧ R 33 = C 33 ∧ R 30 = C 30 ∧ ∀ (y' z' : Pg) (v : Int32), Sv N Y (K + 96) y' z' → ∃ D2, F_X9_note (mu (mu (sr R 0 y') 40 0 v) 30 0 0) = some (0, sr D2 33 (C 33)) ∧ D2 30 4 = nI N ∧ D2 30 5 = nI Y ∧ D2 30 0 = 0 ∧ D2 40 0 = v ∧ Inv (K + 96) (sr D2 33 z') := by
  obtain ⟨P, H, hP, hH14, e1, e2, e12, hst⟩ := hH
  obtain ⟨c65, c66, wf, ag⟩ := id hS
  obtain ⟨y, hy, er⟩ := c_rem hP hH14 e1 e2 c65 c66 hN.2.1 hN.2.2.2.1 wf
  refine ⟨sr (sr C (2 + P % 14) y) 23 (up (up (C 23) 1 (nI (P % 14 + 1))) 2 (nI (if H = 14 then 14 else H + 1))), ?_, by rw [sr_ne _ _ (show 33 ≠ 23 by decide), sr_ne _ _ (show 33 ≠ 2 + P % 14 by omega)], by rw [sr_ne _ _ (show 30 ≠ 23 by decide), sr_ne _ _ (show 30 ≠ 2 + P % 14 by omega)], fun y' z' v hS' => ?_⟩
  · rw [er]
    have e0 : C 0 = (sr (sr C (2 + P % 14) y) 23 (up (up (C 23) 1 (nI (P % 14 + 1))) 2 (nI (if H = 14 then 14 else H + 1)))) 0 := by rw [sr_ne _ _ (show 0 ≠ 23 by decide), sr_ne _ _ (show 0 ≠ 2 + P % 14 by omega)]
    rw [e0, sr_self]
  generalize hR : sr (sr C (2 + P % 14) y) 23 (up (up (C 23) 1 (nI (P % 14 + 1))) 2 (nI (if H = 14 then 14 else H + 1))) = R at er
  have rR : ∀ r, r ≠ 23 → r ≠ 2 + P % 14 → R r = C r := fun r a b => by rw [← hR, sr_ne _ _ a, sr_ne _ _ b]
  have rP : R (2 + P % 14) = y := by rw [← hR, sr_ne _ _ (show 2 + P % 14 ≠ 23 by omega), sr_same]
  have r23 : R 23 = up (up (C 23) 1 (nI (P % 14 + 1))) 2 (nI (if H = 14 then 14 else H + 1)) := by rw [← hR, sr_same]
  have d1 : ∀ r, r ≠ 0 → r ≠ 40 → r ≠ 30 → (mu (mu (sr R 0 y') 40 0 v) 30 0 0) r = R r := fun r a b c => by rw [mu_r _ _ _ c, mu_r _ _ _ b, sr_ne _ _ a]
  have d0 : (mu (mu (sr R 0 y') 40 0 v) 30 0 0) 0 = y' := by rw [mu_r _ _ _ (show 0 ≠ 30 by decide), mu_r _ _ _ (show 0 ≠ 40 by decide), sr_same]
  have dn : ∀ k, k ≠ 0 → (mu (mu (sr R 0 y') 40 0 v) 30 0 0) 30 k = C 30 k := fun k h => by rw [d30 _ _ _ h, sr_ne _ _ (show 30 ≠ 0 by decide), rR 30 (by decide) (by omega)]
  have d40 : (mu (mu (sr R 0 y') 40 0 v) 30 0 0) 40 0 = v := by rw [mu_r _ _ _ (show 40 ≠ 30 by decide), mu_at]
  have dz : (mu (mu (sr R 0 y') 40 0 v) 30 0 0) 30 0 = 0 := mu_at _ _ _ _
  generalize mu (mu (sr R 0 y') 40 0 v) 30 0 0 = D1 at d1 d0 dn d40 dz
  obtain ⟨d, en, hd⟩ := g_note D1 hH14 ((dn 12 (by decide)).trans e12)
  have w : ∀ r, r ≠ 35 → r ≠ 30 → (sr (sr D1 35 d) 30 (up (D1 30) 12 (nI (if H = 14 then 14 else H + 1)))) r = D1 r := fun r a b => by rw [sr_ne _ _ b, sr_ne _ _ a]
  have w35 : (sr (sr D1 35 d) 30 (up (D1 30) 12 (nI (if H = 14 then 14 else H + 1)))) 35 = d := by rw [sr_ne _ _ (show 35 ≠ 30 by decide), sr_same]
  have w30 : ∀ k, k ≠ 12 → (sr (sr D1 35 d) 30 (up (D1 30) 12 (nI (if H = 14 then 14 else H + 1)))) 30 k = D1 30 k := fun k h => by rw [sr_same, up_ne _ _ h]
  have w12 : (sr (sr D1 35 d) 30 (up (D1 30) 12 (nI (if H = 14 then 14 else H + 1)))) 30 12 = nI (if H = 14 then 14 else H + 1) := by rw [sr_same, up_same]
  generalize sr (sr D1 35 d) 30 (up (D1 30) 12 (nI (if H = 14 then 14 else H + 1))) = D2 at en w w35 w30 w12
  have g33 : D2 33 = C 33 := by rw [w 33 (by decide) (by decide), d1 33 (by decide) (by decide) (by decide), rR 33 (by decide) (by omega)]
  have g4 : D2 30 4 = nI N := by rw [w30 4 (by decide), dn 4 (by decide)]; exact hN.2.2.2.2.1
  have g5 : D2 30 5 = nI Y := by rw [w30 5 (by decide), dn 5 (by decide)]; exact hN.2.2.2.2.2
  -- a region that neither touches
  have same : ∀ r, r ≠ 0 → r ≠ 23 → r ≠ 2 + P % 14 → r ≠ 30 → r ≠ 33 → r ≠ 35 → r ≠ 40 → (sr D2 33 z') r = C r := fun r h0 h23 hPP h30 h33 h35 h40 => by rw [sr_ne _ _ h33, w r h35 h30, d1 r h0 h40 h30, rR r h23 hPP]
  have n30 : ∀ k, k ≠ 0 → k ≠ 12 → (sr D2 33 z') 30 k = C 30 k := fun k a b => by rw [sr_ne _ _ (show 30 ≠ 33 by decide), w30 k b, dn k a]
  refine ⟨D2, by rw [en, ← g33, sr_self], g4, g5, by rw [w30 0 (by decide)]; exact dz, by rw [w 40 (by decide) (by decide)]; exact d40, N, Y, hN.cg (n30 4 (by decide) (by decide)) (n30 5 (by decide) (by decide)), ?_, ?_, ?_, ?_⟩
  · rw [sr_ne _ _ (show 0 ≠ 33 by decide), w 0 (by decide) (by decide), d0, sr_same]
    exact hS'
  · exact hT.cg (by rw [same 18 (by decide) (by decide) (by omega) (by decide) (by decide) (by decide) (by decide)]) (same 19 (by decide) (by decide) (by omega) (by decide) (by decide) (by decide) (by decide)) (n30 2 (by decide) (by decide)) (same 31 (by decide) (by decide) (by omega) (by decide) (by decide) (by decide) (by decide))
  · have s23 : (sr D2 33 z') 23 = up (up (C 23) 1 (nI (P % 14 + 1))) 2 (nI (if H = 14 then 14 else H + 1)) := by rw [sr_ne _ _ (show 23 ≠ 33 by decide), w 23 (by decide) (by decide), d1 23 (by decide) (by decide) (by decide), r23]
    have hH' : (if H = 14 then 14 else H + 1) ≤ 14 := by split <;> omega
    refine ⟨P % 14 + 1, if H = 14 then 14 else H + 1, by omega, hH', by rw [s23, up_ne _ _ (by decide), up_same], by rw [s23, up_same], by rw [sr_ne _ _ (show 30 ≠ 33 by decide)]; exact w12, fun j hj => ?_⟩
    have e35 : (sr D2 33 z') 35 = d := by rw [sr_ne _ _ (show 35 ≠ 33 by decide), w35]
    rw [e35]
    by_cases hj0 : j = 0
    · subst hj0
      have er0 : (sr D2 33 z') (2 + ((P % 14 + 1) + 13 - 0) % 14) = y := by
        rw [show 2 + ((P % 14 + 1) + 13 - 0) % 14 = 2 + P % 14 by omega, sr_ne _ _ (by omega), w _ (by omega) (by omega), d1 _ (by omega) (by omega) (by omega), rP]
      rw [er0]
      refine (show Sv N Y K _ _ from ⟨hy.1, hy.2.1, hy.2.2.1, ?_⟩).mo (by omega)
      refine (hy.2.2.2.tr ag).tr (Agree.of hN.2.1 hN.2.2.2.1 fun k hk => ?_)
      have h1 := hd 0 k hj hk
      rw [if_pos rfl, d1 33 (by decide) (by decide) (by decide), rR 33 (by decide) (by omega)] at h1
      exact h1.symm
    · have hj1 : j - 1 < H := by
        by_cases h : H = 14
        · rw [if_pos h] at hj; omega
        · rw [if_neg h] at hj; omega
      have hlt : j < 14 := by omega
      have erj : (sr D2 33 z') (2 + ((P % 14 + 1) + 13 - j) % 14) = C (2 + (P + 13 - (j - 1)) % 14) := by
        rw [show 2 + ((P % 14 + 1) + 13 - j) % 14 = 2 + (P + 13 - (j - 1)) % 14 by omega]
        exact same _ (by omega) (by omega) (by omega) (by omega) (by omega) (by omega) (by omega)
      rw [erj]
      have k := hst (j - 1) hj1
      refine (show Sv N Y K _ _ from ⟨k.1, k.2.1, k.2.2.1, ?_⟩).mo (by omega)
      refine k.2.2.2.tr (Agree.of hN.2.1 hN.2.2.2.1 fun a ha => ?_)
      have h1 := hd j a hj ha
      rw [if_neg hj0, d1 35 (by decide) (by decide) (by decide), rR 35 (by decide) (by omega)] at h1
      exact h1.symm
  · exact (hL.cg (same 24 (by decide) (by decide) (by omega) (by decide) (by decide) (by decide) (by decide)) (same 37 (by decide) (by decide) (by omega) (by decide) (by decide) (by decide) (by decide)) ⟨same 16 (by decide) (by decide) (by omega) (by decide) (by decide) (by decide) (by decide), same 17 (by decide) (by decide) (by omega) (by decide) (by decide) (by decide) (by decide)⟩ (same 36 (by decide) (by decide) (by omega) (by decide) (by decide) (by decide) (by decide))).mo (by omega)
theorem res_act {x : Option (Int32 × Mem)} {g : Mem → Option (Int32 × Mem)} {R D2 : Mem} {y' z' : Pg} {v : Int32} (h1 : x = some (0, mu (sr R 0 y') 40 0 v)) (h2 : g (mu (sr R 0 y') 40 0 v) = some (v, sr D2 33 z')) (g0 : D2 30 0 = 0) (g40 : D2 40 0 = v) (hInv : Inv (K + 96) (sr D2 33 z')) : Res K x g :=
  ⟨0, _, v, _, h1, h2, by rw [sr_ne _ _ (show 30 ≠ 33 by decide)]; exact g0, fun _ => by rw [sr_ne _ _ (show 40 ≠ 33 by decide)]; exact g40, hInv⟩
theorem p_tick (hI : Inv K C) (hK : K < 800000) (x w : Int32) : Res K (F_L_tick x w C) (F_X9_tick x w) := by
  obtain ⟨N, Y, hN, hS, hT, hH, hL⟩ := id hI
  obtain ⟨n1, n5, y2, y8, h4, h5⟩ := id hN
  obtain ⟨c65, c66, wf, ag⟩ := id hS
  by_cases hx : (1 ≤ x ∧ x ≤ 96) ∧ (0 ≤ w ∧ w ≤ 5)
  case neg =>
    refine res_no hI (c := 1) (w := 0) (by decide) ?_ ?_
    · unfold F_L_tick F_X8_tick
      rw [rqT, b2_s, if_neg hx, el_r, b2_s, el_r, if_pos rfl]
    · unfold F_X9_tick
      rw [arT, b2_s, if_neg hx, if_pos rfl]
      unfold J_X9_tick_14
      rw [ref1, b2_s, if_neg (by decide)]
  have hx' := hx
  obtain ⟨hx1, hx2⟩ := hx'
  obtain ⟨m, hm1, hm, rfl⟩ := in_n (m := 1) (n := 96) rfl rfl hx1
  obtain ⟨d, -, hd, rfl⟩ := in_n (m := 0) (n := 5) rfl rfl hx2
  obtain ⟨R, er, r33, r30, hact⟩ := act hI hN hS hT hH hL
  have az := ag.k_tkn (by omega) d m
  have hS' : Sv N Y (K + 96) (tkn N Y d m (C 0)) (tkn N Y d m (C 33)) := ⟨(tkn_hi d m _ (by omega) y8 n5 (by decide)).trans c65, (tkn_hi d m _ (by omega) y8 n5 (by decide)).trans c66, (wf.k_tkn (by omega) y8 d m (by omega)).mo (by omega), az⟩
  obtain ⟨D2, en, g4, g5, g0, g40, hInv⟩ := hact _ _ (avg Y (tkn N Y d m (C 0))) hS'
  refine res_act (R := R) (y' := tkn N Y d m (C 0)) ?_ ?_ g0 g40 hInv
  · unfold F_L_tick F_X8_tick
    rw [rqT, b2_s, if_pos hx, el_l, er, b2_s, g_passTicks c65 c66 n5 (by omega) y8 0 (by omega) (by omega) (K := K) (by omega) wf, b2_s, f_mean (by rw [sr_same]; exact hS'.2.1) (by omega) y8, b2_s, sr_same, b2_s, el_l, nm_s]
  · unfold F_X9_tick
    rw [arT, b2_s, if_pos hx, if_neg (by decide)]
    unfold J_X9_tick_14
    rw [ref0, b2_s, if_pos rfl, en, b2_s, g_ticksOn g4 g5 n5 (by omega) y8 33 (by decide) rfl (by omega) (by omega) (K := K) (by omega) (wf.ag ag.sy), b2_s, f_meanOf (by rw [sr_ne _ _ (show 30 ≠ 33 by decide)]; exact g5) (by omega) y8 rfl, b2_s, sr_same, avg_c az]
theorem p_draw (hI : Inv K C) (x : Int32) : Res K (F_L_draw x C) (F_X9_draw x) := by
  obtain ⟨N, Y, hN, hS, hT, hH, hL⟩ := id hI
  obtain ⟨n1, n5, y2, y8, h4, h5⟩ := id hN
  obtain ⟨c65, c66, wf, ag⟩ := id hS
  by_cases hx : 1 ≤ x ∧ x ≤ 20
  case neg =>
    refine res_no hI (c := 1) (w := 0) (by decide) ?_ ?_
    · unfold F_L_draw F_X8_draw
      rw [rq, b2_s, if_neg hx, el_r, b2_s, el_r, if_pos rfl]
    · unfold F_X9_draw
      rw [f_inL (b := 1) (c := 20) (by decide) (by decide), b2_s, if_neg hx, if_pos rfl]
      unfold J_X9_draw_18
      rw [ref1, b2_s, if_neg (by decide)]
  obtain ⟨d, -, hd, rfl⟩ := in_n (m := 1) (n := 20) rfl rfl hx
  obtain ⟨R, er, r33, r30, hact⟩ := act hI hN hS hT hH hL
  have dv := dlv_c (show 1 ≤ Y by omega) ag d
  have hS' : Sv N Y (K + 96) (dl Y d (C 0)) (dl Y d (C 33)) := ⟨(dl_hi Y d _ y8 (by decide)).trans c65, (dl_hi Y d _ y8 (by decide)).trans c66, (wf.k_dl (by omega) y8 d).mo (by omega), ag.k_dl (by omega) d⟩
  obtain ⟨D2, en, g4, g5, g0, g40, hInv⟩ := hact _ _ (dlv Y d (C 0)).1 hS'
  refine res_act (R := R) (y' := dl Y d (C 0)) ?_ ?_ g0 g40 hInv
  · unfold F_L_draw F_X8_draw
    rw [rq, b2_s, if_pos hx, el_l, er, b2_s, g_deliver c66 (by omega) y8 0 (by omega), b2_s, b2_s, el_l, nm_s]
  · unfold F_X9_draw
    rw [f_inL (b := 1) (c := 20) (by decide) (by decide), b2_s, if_pos hx, if_neg (by decide)]
    unfold J_X9_draw_18
    rw [ref0, b2_s, if_pos rfl, en, b2_s, g_drawOn g5 (by omega) y8 33 (by decide) rfl (by omega), b2_s, dv.1]
theorem p_set (hI : Inv K C) (x v : Int32) : Res K (F_L_set x v C) (F_X9_set x v) := by
  obtain ⟨N, Y, hN, hS, hT, hH, hL⟩ := id hI
  obtain ⟨n1, n5, y2, y8, h4, h5⟩ := id hN
  obtain ⟨c65, c66, wf, ag⟩ := id hS
  have no : (∀ D : Mem, F_X8_isSetting x v D = some (0, D)) → (∀ D : Mem, F_X9_isSetting x v D = some (0, D)) → Res K (F_L_set x v C) (F_X9_set x v) := fun a b => by
    refine res_no hI (c := 1) (w := 0) (by decide) ?_ ?_
    · unfold F_L_set F_X8_set
      rw [a, b2_s, if_pos rfl, b2_s, el_r, if_pos rfl]
    · unfold F_X9_set
      rw [b, b2_s, if_pos rfl]
      unfold J_X9_set_14
      rw [ref1, b2_s, if_neg (by decide)]
  by_cases hx : 0 ≤ x ∧ x ≤ 5
  case neg => exact no (fun D => (set_out v D hx).1) (fun D => (set_out v D hx).2)
  obtain ⟨k, -, hk, rfl⟩ := in_n (m := 0) (n := 5) rfl rfl hx
  by_cases hv : kLeast k ≤ v ∧ v ≤ kMost k
  case neg => exact no (fun D => by rw [(set_in v D k (by omega)).1, if_neg hv]) (fun D => by rw [(set_in v D k (by omega)).2, if_neg hv])
  obtain ⟨R, er, r33, r30, hact⟩ := act hI hN hS hT hH hL
  have hS' : Sv N Y (K + 96) (up (C 0) k v) (up (C 33) k v) := ⟨(up_ne _ _ (by omega)).trans c65, (up_ne _ _ (by omega)).trans c66, (wf.kset (by omega) hv).mo (by omega), ag.put rfl⟩
  obtain ⟨D2, en, g4, g5, g0, g40, hInv⟩ := hact _ _ (C 0 k) hS'
  refine res_act (R := R) (y' := up (C 0) k v) ?_ ?_ g0 g40 hInv
  · unfold F_L_set F_X8_set
    rw [(set_in v C k (by omega)).1, b2_s, if_pos hv, if_neg (by decide), er, b2_s, gi_n (by omega) (by decide), nm_s, gi_n (by omega) (by decide), nI_clamp (by omega), nm_s, mu_sr, sr_same, b2_s, el_l, nm_s]
  · unfold F_X9_set
    rw [(set_in v _ k (by omega)).2, b2_s, if_pos hv, if_neg (by decide)]
    unfold J_X9_set_14
    rw [ref0, b2_s, if_pos rfl, en, b2_s, show alen 33 = 65 from rfl, gi_n (by omega) (by decide), nm_s, gi_n (by omega) (by decide), nI_clamp (by omega), nm_s, mu_sr, sr_same, ag.1 k (by omega)]
theorem p_setFlue (hI : Inv K C) (x : Int32) (o : Bool) : Res K (F_L_setFlue x (if o then 1 else 0) C) (F_X9_setFlue x (if o then 1 else 0)) := by
  obtain ⟨N, Y, hN, hS, hT, hH, hL⟩ := id hI
  obtain ⟨n1, n5, y2, y8, h4, h5⟩ := id hN
  obtain ⟨c65, c66, wf, ag⟩ := id hS
  by_cases hx : 0 ≤ x ∧ x ≤ 1
  case neg =>
    refine res_no hI (c := 1) (w := 0) (by decide) ?_ ?_
    · unfold F_L_setFlue F_X8_setFlue
      rw [rqF, b2_s, if_neg hx, el_r, b2_s, el_r, if_pos rfl]
    · unfold F_X9_setFlue
      rw [f_inL (b := 0) (c := 1) (by decide) (by decide), b2_s, if_neg hx, if_pos rfl]
      unfold J_X9_setFlue_16
      rw [ref1, b2_s, if_neg (by decide)]
  obtain ⟨f, -, hf, rfl⟩ := in_n (m := 0) (n := 1) rfl rfl hx
  obtain ⟨R, er, r33, r30, hact⟩ := act hI hN hS hT hH hL
  have mvc := mv_c ag f o
  have hS' : Sv N Y (K + 96) (mv N f o (C 0)).2 (mv N f o (C 33)).2 := ⟨(mv_hi f o _ (by omega) n5 (by decide)).trans c65, (mv_hi f o _ (by omega) n5 (by decide)).trans c66, (wf.k_mv y8 (by omega) o).mo (by omega), mvc.2⟩
  obtain ⟨D2, en, g4, g5, g0, g40, hInv⟩ := hact _ _ (mv N f o (C 0)).1 hS'
  refine res_act (R := R) (y' := (mv N f o (C 0)).2) ?_ ?_ g0 g40 hInv
  · unfold F_L_setFlue F_X8_setFlue
    rw [rqF, b2_s, if_pos hx, el_l, er, b2_s, g_moveFlue c65 n5 0 (by omega) o, b2_s, b2_s, el_l, nm_s]
  · unfold F_X9_setFlue
    rw [f_inL (b := 0) (c := 1) (by decide) (by decide), b2_s, if_pos hx, if_neg (by decide)]
    unfold J_X9_setFlue_16
    rw [ref0, b2_s, if_pos rfl, en, b2_s, g_flueOn g4 n5 33 (by decide) rfl (by omega) o (fun j hj => ((wf.ag ag.sy).2.2.2.2.2.2 j hj).2.2.1), b2_s, mvc.1]
theorem p_setDraft (hI : Inv K C) (x v : Int32) : Res K (F_L_setDraft x v C) (F_X9_setDraft x v) := by
  obtain ⟨N, Y, hN, hS, hT, hH, hL⟩ := id hI
  obtain ⟨n1, n5, y2, y8, h4, h5⟩ := id hN
  obtain ⟨c65, c66, wf, ag⟩ := id hS
  by_cases hx : 0 ≤ x ∧ x ≤ 1
  case neg =>
    refine res_no hI (c := 1) (w := 0) (by decide) ?_ ?_
    · unfold F_L_setDraft F_X8_setDraft
      rw [rqF, b2_s, if_neg hx, el_r, b2_s, el_r, if_pos rfl]
    · unfold F_X9_setDraft
      rw [f_inL (b := 0) (c := 1) (by decide) (by decide), b2_s, if_neg hx, if_pos rfl]
      unfold J_X9_setDraft_32
      rw [ref1, b2_s, if_neg (by decide)]
  by_cases hv : 0 ≤ v ∧ v ≤ 99
  case neg =>
    refine res_no hI (c := 2) (w := 0) (by decide) ?_ ?_
    · unfold F_L_setDraft F_X8_setDraft
      rw [rqF, b2_s, if_pos hx, el_l, rq, b2_s, if_neg hv, el_r, b2_s, el_r, if_neg (by decide), if_pos rfl]
    · unfold F_X9_setDraft
      rw [f_inL (b := 0) (c := 1) (by decide) (by decide), b2_s, if_pos hx, if_neg (by decide), f_inL (b := 0) (c := 99) (by decide) (by decide), b2_s, if_neg hv, if_pos rfl]
      unfold J_X9_setDraft_32
      rw [ref2, b2_s, if_neg (by decide)]
  obtain ⟨f, -, hf, rfl⟩ := in_n (m := 0) (n := 1) rfl rfl hx
  have hfl : (if nI f = 0 then 0 else 1 : Nat) = f := by rcases (show f = 0 ∨ f = 1 by omega) with rfl | rfl <;> decide
  obtain ⟨R, er, r33, r30, hact⟩ := act hI hN hS hT hH hL
  have hS' : Sv N Y (K + 96) (up (C 0) (18 + f) v) (up (C 33) (18 + f) v) := ⟨(up_ne _ _ (by omega)).trans c65, (up_ne _ _ (by omega)).trans c66, (wf.u (by omega) (by omega) (by omega) (by omega) v).mo (by omega), ag.put rfl⟩
  obtain ⟨D2, en, g4, g5, g0, g40, hInv⟩ := hact _ _ (C 0 (18 + f)) hS'
  refine res_act (R := R) (y' := up (C 0) (18 + f) v) ?_ ?_ g0 g40 hInv
  · unfold F_L_setDraft F_X8_setDraft
    rw [rqF, b2_s, if_pos hx, el_l, rq, b2_s, if_pos hv, el_l, er, b2_s, f_flueOf, b2_s, hfl, gn_p (by omega), nm_s, nm_s, mu_sr, sr_same, b2_s, el_l, nm_s]
  · unfold F_X9_setDraft
    rw [f_inL (b := 0) (c := 1) (by decide) (by decide), b2_s, if_pos hx, if_neg (by decide), f_inL (b := 0) (c := 99) (by decide) (by decide), b2_s, if_pos hv, if_neg (by decide)]
    unfold J_X9_setDraft_32
    rw [ref0, b2_s, if_pos rfl, en, b2_s, a18, show alen 33 = 65 from rfl, gi_n (by omega) (by decide), nm_s, gi_n (by omega) (by decide), nI_clamp (by omega), nm_s, mu_sr, sr_same, ag.1 (18 + f) (by omega)]
theorem p_lock (hI : Inv K C) (x : Int32) : Res K (F_L_lock x C) (F_X9_lock x) := by
  obtain ⟨N, Y, hN, hS, hT, hH, hL⟩ := id hI
  obtain ⟨n1, n5, y2, y8, h4, h5⟩ := id hN
  obtain ⟨c65, c66, wf, ag⟩ := id hS
  by_cases hx : 0 ≤ x ∧ x ≤ nI (N - 1)
  case neg =>
    refine res_no hI (c := 1) (w := 0) (by decide) ?_ ?_
    · unfold F_L_lock F_X8_lock
      rw [rqB c65 n1 n5, b2_s, if_neg hx, el_r, b2_s, el_r, if_pos rfl]
    · unfold F_X9_lock
      rw [has_m h4 n1, b2_s, if_neg hx, if_pos rfl]
      unfold J_X9_lock_33
      rw [ref1, b2_s, if_neg (by decide)]
  obtain ⟨i, hi, rfl⟩ := in_b n1 n5 hx
  by_cases hs : ¬ C 0 (30 + 7 * i + 2) = 4
  case neg =>
    refine res_no hI (c := 2) (w := 0) (by decide) ?_ ?_
    · unfold F_L_lock F_X8_lock
      rw [rqB c65 n1 n5, b2_s, if_pos hx, el_l, gi_n (by omega) (by decide), nI_clamp (by omega), nm_s, if_pos (Classical.byContradiction hs), b2_s, el_r, if_neg (by decide), if_pos rfl]
    · unfold F_X9_lock
      rw [has_m h4 n1, b2_s, if_pos hx, if_neg (by decide), at_s, a2, show alen 33 = 65 from rfl, gi_n (by omega) (by decide), nI_clamp (by omega), ← ag.b2 hi, if_pos (Classical.byContradiction hs)]
      unfold J_X9_lock_33
      rw [ref2, b2_s, if_neg (by decide)]
  obtain ⟨R, er, r33, r30, hact⟩ := act hI hN hS hT hH hL
  have hS' : Sv N Y (K + 96) (lv (C 0) i 4) (lv (C 33) i 4) := ⟨(lv_out _ (by omega)).trans c65, (lv_out _ (by omega)).trans c66, (wf.k_lv y8 hi (Or.inr (Or.inr (Or.inr rfl)))).mo (by omega), ag.k_lv i _⟩
  obtain ⟨D2, en, g4, g5, g0, g40, hInv⟩ := hact _ _ (C 0 (30 + 7 * i + 2)) hS'
  have m33 : (mu (sr R 0 (lv (C 0) i 4)) 40 0 (C 0 (30 + 7 * i + 2))) 33 = C 33 := by rw [mu_r _ _ _ (show 33 ≠ 40 by decide), sr_ne _ _ (show 33 ≠ 0 by decide), r33]
  have m4 : (mu (sr R 0 (lv (C 0) i 4)) 40 0 (C 0 (30 + 7 * i + 2))) 30 4 = nI N := by rw [mu_r _ _ _ (show 30 ≠ 40 by decide), sr_ne _ _ (show 30 ≠ 0 by decide), r30]; exact h4
  refine res_act (R := R) (y' := lv (C 0) i 4) ?_ ?_ g0 g40 hInv
  · unfold F_L_lock F_X8_lock
    rw [rqB c65 n1 n5, b2_s, if_pos hx, el_l, gi_n (by omega) (by decide), nI_clamp (by omega), nm_s, if_neg hs, er, b2_s, gi_n (by omega) (by decide), g_leave, b2_s, b2_s, el_l, nm_s]
  · unfold F_X9_lock
    rw [has_m m4 n1, b2_s, if_pos hx, if_neg (by decide), at_s, a2, show alen 33 = 65 from rfl, gi_n (by omega) (by decide), nI_clamp (by omega), m33, ← ag.b2 hi, if_neg hs]
    unfold J_X9_lock_33
    rw [ref0, b2_s, if_pos rfl, en, b2_s, at_s, a2, show alen 33 = 65 from rfl, gi_n (by omega) (by decide), nI_clamp (by omega), nm_s, g_put 33 (by omega) _ rfl, b2_s, sr_same, ag.b2 hi]
theorem p_unlock (hI : Inv K C) (x : Int32) : Res K (F_L_unlock x C) (F_X9_unlock x) := by
  obtain ⟨N, Y, hN, hS, hT, hH, hL⟩ := id hI
  obtain ⟨n1, n5, y2, y8, h4, h5⟩ := id hN
  obtain ⟨c65, c66, wf, ag⟩ := id hS
  by_cases hx : 0 ≤ x ∧ x ≤ nI (N - 1)
  case neg =>
    refine res_no hI (c := 1) (w := 0) (by decide) ?_ ?_
    · unfold F_L_unlock F_X8_unlock
      rw [rqB c65 n1 n5, b2_s, if_neg hx, el_r, b2_s, el_r, if_pos rfl]
    · unfold F_X9_unlock
      rw [has_m h4 n1, b2_s, if_neg hx, if_pos rfl]
      unfold J_X9_unlock_33
      rw [ref1, b2_s, if_neg (by decide)]
  obtain ⟨i, hi, rfl⟩ := in_b n1 n5 hx
  by_cases hs : C 0 (30 + 7 * i + 2) = 4
  case neg =>
    refine res_no hI (c := 2) (w := 0) (by decide) ?_ ?_
    · unfold F_L_unlock F_X8_unlock
      rw [rqB c65 n1 n5, b2_s, if_pos hx, el_l, gi_n (by omega) (by decide), nI_clamp (by omega), if_neg hs, b2_s, el_r, if_neg (by decide), if_pos rfl]
    · unfold F_X9_unlock
      rw [has_m h4 n1, b2_s, if_pos hx, if_neg (by decide), at_s, a2, show alen 33 = 65 from rfl, gi_n (by omega) (by decide), nI_clamp (by omega), ← ag.b2 hi, if_neg hs]
      unfold J_X9_unlock_33
      rw [ref2, b2_s, if_neg (by decide)]
  obtain ⟨R, er, r33, r30, hact⟩ := act hI hN hS hT hH hL
  have hS' : Sv N Y (K + 96) (lv (C 0) i 0) (lv (C 33) i 0) := ⟨(lv_out _ (by omega)).trans c65, (lv_out _ (by omega)).trans c66, (wf.k_lv y8 hi (Or.inl rfl)).mo (by omega), ag.k_lv i _⟩
  obtain ⟨D2, en, g4, g5, g0, g40, hInv⟩ := hact _ _ (cnS N 4 (lv (C 0) i 0)) hS'
  have m33 : (mu (sr R 0 (lv (C 0) i 0)) 40 0 (cnS N 4 (lv (C 0) i 0))) 33 = C 33 := by rw [mu_r _ _ _ (show 33 ≠ 40 by decide), sr_ne _ _ (show 33 ≠ 0 by decide), r33]
  have m4 : (mu (sr R 0 (lv (C 0) i 0)) 40 0 (cnS N 4 (lv (C 0) i 0))) 30 4 = nI N := by rw [mu_r _ _ _ (show 30 ≠ 40 by decide), sr_ne _ _ (show 30 ≠ 0 by decide), r30]; exact h4
  refine res_act (R := R) (y' := lv (C 0) i 0) ?_ ?_ g0 g40 hInv
  · unfold F_L_unlock F_X8_unlock
    rw [rqB c65 n1 n5, b2_s, if_pos hx, el_l, gi_n (by omega) (by decide), nI_clamp (by omega), if_pos hs, er, b2_s, gi_n (by omega) (by decide), g_leave, b2_s, f_countInState (by rw [sr_same]; exact hS'.1) n5, b2_s, sr_same, b2_s, el_l, nm_s]
  · unfold F_X9_unlock
    rw [has_m m4 n1, b2_s, if_pos hx, if_neg (by decide), at_s, a2, show alen 33 = 65 from rfl, gi_n (by omega) (by decide), nI_clamp (by omega), m33, ← ag.b2 hi, if_pos hs]
    unfold J_X9_unlock_33
    rw [ref0, b2_s, if_pos rfl, en, b2_s, g_put 33 (by omega) _ rfl, b2_s, f_count (by rw [sr_ne _ _ (show 30 ≠ 33 by decide)]; exact g4) n5 rfl, b2_s, sr_same, cnS_c hS'.2.2.2]
theorem p_putOff (hI : Inv K C) (x : Int32) : Res K (F_L_putOff x C) (F_X9_putOff x) := by
  obtain ⟨N, Y, hN, hS, hT, hH, hL⟩ := id hI
  obtain ⟨n1, n5, y2, y8, h4, h5⟩ := id hN
  obtain ⟨c65, c66, wf, ag⟩ := id hS
  by_cases hx : 0 ≤ x ∧ x ≤ nI (N - 1)
  case neg =>
    refine res_no hI (c := 1) (w := 0) (by decide) ?_ ?_
    · unfold F_L_putOff F_X8_putOff
      rw [rqB c65 n1 n5, b2_s, if_neg hx, el_r, b2_s, el_r, if_pos rfl]
    · unfold F_X9_putOff
      rw [has_m h4 n1, b2_s, if_neg hx, if_pos rfl]
      unfold J_X9_putOff_33
      rw [ref1, b2_s, if_neg (by decide)]
  obtain ⟨i, hi, rfl⟩ := in_b n1 n5 hx
  by_cases hs : C 0 (30 + 7 * i + 2) = 3
  case neg =>
    refine res_no hI (c := 2) (w := 0) (by decide) ?_ ?_
    · unfold F_L_putOff F_X8_putOff
      rw [rqB c65 n1 n5, b2_s, if_pos hx, el_l, gi_n (by omega) (by decide), nI_clamp (by omega), if_neg hs, b2_s, el_r, if_neg (by decide), if_pos rfl]
    · unfold F_X9_putOff
      rw [has_m h4 n1, b2_s, if_pos hx, if_neg (by decide), at_s, a2, show alen 33 = 65 from rfl, gi_n (by omega) (by decide), nI_clamp (by omega), ← ag.b2 hi, if_neg hs]
      unfold J_X9_putOff_33
      rw [ref2, b2_s, if_neg (by decide)]
  obtain ⟨R, er, r33, r30, hact⟩ := act hI hN hS hT hH hL
  have hS' : Sv N Y (K + 96) (lv (C 0) i 0) (lv (C 33) i 0) := ⟨(lv_out _ (by omega)).trans c65, (lv_out _ (by omega)).trans c66, (wf.k_lv y8 hi (Or.inl rfl)).mo (by omega), ag.k_lv i _⟩
  obtain ⟨D2, en, g4, g5, g0, g40, hInv⟩ := hact _ _ (C 0 (30 + 7 * i + 6)) hS'
  have m33 : (mu (sr R 0 (lv (C 0) i 0)) 40 0 (C 0 (30 + 7 * i + 6))) 33 = C 33 := by rw [mu_r _ _ _ (show 33 ≠ 40 by decide), sr_ne _ _ (show 33 ≠ 0 by decide), r33]
  have m4 : (mu (sr R 0 (lv (C 0) i 0)) 40 0 (C 0 (30 + 7 * i + 6))) 30 4 = nI N := by rw [mu_r _ _ _ (show 30 ≠ 40 by decide), sr_ne _ _ (show 30 ≠ 0 by decide), r30]; exact h4
  refine res_act (R := R) (y' := lv (C 0) i 0) ?_ ?_ g0 g40 hInv
  · unfold F_L_putOff F_X8_putOff
    rw [rqB c65 n1 n5, b2_s, if_pos hx, el_l, gi_n (by omega) (by decide), nI_clamp (by omega), if_pos hs, er, b2_s, gi_n (by omega) (by decide), g_leave, b2_s, gi_n (by omega) (by decide), sr_same, lv_o 0 (f := 6) (by decide) (by decide), b2_s, el_l, nm_s]
  · unfold F_X9_putOff
    rw [has_m m4 n1, b2_s, if_pos hx, if_neg (by decide), at_s, a2, show alen 33 = 65 from rfl, gi_n (by omega) (by decide), nI_clamp (by omega), m33, ← ag.b2 hi, if_pos hs]
    unfold J_X9_putOff_33
    rw [ref0, b2_s, if_pos rfl, en, b2_s, g_put 33 (by omega) _ rfl, b2_s, at_s, a6, show alen 33 = 65 from rfl, gi_n (by omega) (by decide), nI_clamp (by omega), sr_same, lv_o 0 (f := 6) (by decide) (by decide), ag.b6 hi]
end ACTS
