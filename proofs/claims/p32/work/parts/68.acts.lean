/-! actions: what is remembered, what the page is then -/
section ACTS
variable {C : Mem} {N Y K : Nat} {y z : Pg} {H : Nat} {hf : Nat → Pg} {s : Nat → Option Pg}
theorem c_rem {P H : Nat} (hP : P < 15) (hH : H ≤ 14) (e1 : C 23 1 = nI P) (e2 : C 23 2 = nI H) (c65 : C 0 65 = nI N) (c66 : C 0 66 = nI Y) (n5 : N ≤ 5) (y8 : Y ≤ 8) (wf : WF N Y K (C 0)) : ∃ y, Sv N Y K y (C 0) ∧ F_X2_remember 0 C = some (0, sr (sr C (2 + P % 14) y) 23 (up (up (C 23) 1 (nI (P % 14 + 1))) 2 (nI (if H = 14 then 14 else H + 1)))) := by
  have j17 : ∀ (D : Mem) (Q : Nat) (y : Pg), Q < 14 → D 23 1 = nI Q → D 23 2 = nI H → F_X5_copyFrom (2 + Q) 0 D = some (0, sr D (2 + Q) y) → J_X2_remember_17 0 D = some (0, sr (sr D (2 + Q) y) 23 (up (up (D 23) 1 (nI (Q + 1))) 2 (nI (if H = 14 then 14 else H + 1)))) := fun D Q y hQ d1 d2 ey => by
    have e23 : (sr D (2 + Q) y) 23 = D 23 := sr_ne _ _ (by omega)
    unfold J_X2_remember_17
    rw [d1, gi_n hQ (by decide), nI_clamp (by omega), ey, b2_s, nm_s, nm_s, mu_s (sr D (2 + Q) y), mu_sr, sr_same, e23, up_ne _ _ (show 2 ≠ 1 by decide), d2, d1, nI_1, nI_1]
    by_cases h : H = 14
    · subst h
      rw [if_pos (show (14 : Int32) < nI (14 + 1) by decide), if_pos rfl]
      rfl
    · rw [if_neg (show ¬ (14 : Int32) < nI (H + 1) from nI_nlt (show H + 1 ≤ 14 by omega) (by decide)), if_neg h]
  unfold F_X2_remember
  by_cases h : P = 14
  · subst h
    obtain ⟨y, ey, hy⟩ := t_c (C := mu C 23 1 0) (q := 2 + 0) (q0 := 0) (K := K) (by omega) (by rw [mu_r _ _ _ (show 0 ≠ 23 by decide)]; exact c65) (by rw [mu_r _ _ _ (show 0 ≠ 23 by decide)]; exact c66) n5 y8 (by rw [mu_r _ _ _ (show 0 ≠ 23 by decide)]; exact wf)
    rw [mu_r _ _ _ (show 0 ≠ 23 by decide)] at hy
    refine ⟨y, hy, ?_⟩
    rw [e1, if_neg (show ¬ nI 14 < (14 : Int32) by decide), nm_s]
    refine (j17 (mu C 23 1 0) 0 y (by decide) (mu_at C 23 1 0) (by rw [mu_o _ _ (show 2 ≠ 1 by decide)]; exact e2) ey).trans ?_
    rw [mu_s C, sr_same, sr_comm _ _ _ (show 23 ≠ 2 + 0 by decide), sr_sr, up_up]
  · obtain ⟨y, ey, hy⟩ := t_c (C := C) (q := 2 + P) (q0 := 0) (by omega) c65 c66 n5 y8 wf
    refine ⟨y, hy, ?_⟩
    rw [e1, if_pos (show nI P < (14 : Int32) from nI_lt (show P < 14 by omega) (by decide)), j17 C P y (by omega) e1 e2 ey, show P % 14 = P by omega]
def Hn (H : Nat) : Nat := if H = 14 then 14 else H + 1
def psh (z : Pg) (hf : Nat → Pg) : Nat → Pg := fun j => if j = 0 then z else hf (j - 1)
theorem act (h : Zu N Y K z H hf s C) : ∃ R, F_X2_remember 0 C = some (0, sr R 0 (C 0)) ∧ ∀ (L : Nat) (y' z' : Pg), K ≤ L → Sw N Y L y' z' → Zu N Y L z' (Hn H) (psh z hf) s (sr R 0 y') := by
  obtain ⟨⟨hN, hS, hD⟩, ⟨hH14, P, hP, e1, e2, hst⟩, hL⟩ := h
  obtain ⟨c65, c66, wf, ag⟩ := id hS
  obtain ⟨y, hy, er⟩ := c_rem hP hH14 e1 e2 c65 c66 hN.1.2 hN.2.2 wf
  refine ⟨sr (sr C (2 + P % 14) y) 23 (up (up (C 23) 1 (nI (P % 14 + 1))) 2 (nI (if H = 14 then 14 else H + 1))), ?_, fun L y' z' hKL hw => ?_⟩
  · rw [er]
    have e0 : C 0 = (sr (sr C (2 + P % 14) y) 23 (up (up (C 23) 1 (nI (P % 14 + 1))) 2 (nI (if H = 14 then 14 else H + 1)))) 0 := by rw [sr_ne _ _ (show 0 ≠ 23 by decide), sr_ne _ _ (show 0 ≠ 2 + P % 14 by omega)]
    rw [e0, sr_self]
  have rR : ∀ r, r ≠ 0 → r ≠ 23 → r ≠ 2 + P % 14 → (sr (sr (sr C (2 + P % 14) y) 23 (up (up (C 23) 1 (nI (P % 14 + 1))) 2 (nI (if H = 14 then 14 else H + 1)))) 0 y') r = C r := fun r o a b => by rw [sr_ne _ _ o, sr_ne _ _ a, sr_ne _ _ b]
  have rP : (sr (sr (sr C (2 + P % 14) y) 23 (up (up (C 23) 1 (nI (P % 14 + 1))) 2 (nI (if H = 14 then 14 else H + 1)))) 0 y') (2 + P % 14) = y := by rw [sr_ne _ _ (show 2 + P % 14 ≠ 0 by omega), sr_ne _ _ (show 2 + P % 14 ≠ 23 by omega), sr_same]
  have r23 : (sr (sr (sr C (2 + P % 14) y) 23 (up (up (C 23) 1 (nI (P % 14 + 1))) 2 (nI (if H = 14 then 14 else H + 1)))) 0 y') 23 = up (up (C 23) 1 (nI (P % 14 + 1))) 2 (nI (if H = 14 then 14 else H + 1)) := by rw [sr_ne _ _ (show 23 ≠ 0 by decide), sr_same]
  have r0 : (sr (sr (sr C (2 + P % 14) y) 23 (up (up (C 23) 1 (nI (P % 14 + 1))) 2 (nI (if H = 14 then 14 else H + 1)))) 0 y') 0 = y' := sr_same _ _ _
  generalize sr (sr (sr C (2 + P % 14) y) 23 (up (up (C 23) 1 (nI (P % 14 + 1))) 2 (nI (if H = 14 then 14 else H + 1)))) 0 y' = R at rR rP r23 r0
  refine ⟨⟨hN, by rw [r0]; exact hw⟩, ⟨?_, P % 14 + 1, by omega, ?_, ?_, fun j hj => ?_⟩, (hL.mo hKL).cg (rR 24 (by decide) (by decide) (by omega)) (rR 16 (by decide) (by decide) (by omega)) (rR 17 (by decide) (by decide) (by omega)) (rR 18 (by decide) (by decide) (by omega))⟩
  · unfold Hn; split <;> omega
  · rw [r23, up_ne _ _ (by decide), up_same]
  · rw [r23, up_same]; rfl
  · unfold Hn at hj
    by_cases hj0 : j = 0
    · subst hj0
      rw [show 2 + (P % 14 + 1 + 13 - 0) % 14 = 2 + P % 14 by omega, rP]
      refine ⟨(show Sv N Y K _ _ from ⟨hy.1, hy.2.1, hy.2.2.1, hy.2.2.2.tr ?_⟩).mo hKL, ?_⟩
      · unfold psh; rw [if_pos rfl]; exact ag
      · unfold psh; rw [if_pos rfl]; exact hD.mo hKL
    · have hj1 : j - 1 < H := by
        by_cases h : H = 14
        · rw [if_pos h] at hj; omega
        · rw [if_neg h] at hj; omega
      have hlt : j < 14 := by
        by_cases h : H = 14
        · rw [if_pos h] at hj; omega
        · rw [if_neg h] at hj; omega
      rw [show 2 + (P % 14 + 1 + 13 - j) % 14 = 2 + (P + 13 - (j - 1)) % 14 by omega, rR _ (by omega) (by omega) (by omega)]
      unfold psh
      rw [if_neg hj0]
      exact (hst (j - 1) hj1).mo hKL
/-! what is sound stays so -/
theorem SD.cg (h : SD N K y) (e : ∀ k, k = 6 ∨ k = 8 ∨ k = 9 ∨ k = 10 ∨ k = 11 → z k = y k) (e14 : z 14 = 10 * z 17) (b : ∀ i, i < N → z (30 + 7 * i) = y (30 + 7 * i) ∧ z (30 + 7 * i + 4) = y (30 + 7 * i + 4) ∧ z (30 + 7 * i + 5) = y (30 + 7 * i + 5) ∧ z (30 + 7 * i + 6) = y (30 + 7 * i + 6) ∧ (z (30 + 7 * i + 2) = y (30 + 7 * i + 2) ∨ z (30 + 7 * i + 2) = 0 ∨ z (30 + 7 * i + 2) = 4)) : SD N K z := by
  unfold SD
  rw [e 6 (Or.inl rfl), e 8 (Or.inr (Or.inl rfl)), e 9 (Or.inr (Or.inr (Or.inl rfl))), e 10 (Or.inr (Or.inr (Or.inr (Or.inl rfl)))), e 11 (Or.inr (Or.inr (Or.inr (Or.inr rfl))))]
  refine ⟨h.1, h.2.1, e14, h.2.2.2.1, h.2.2.2.2.1, fun i hi => ?_⟩
  obtain ⟨b0, b4, b5, b6, b2⟩ := b i hi
  obtain ⟨q1, q2, q3, q4, q5⟩ := h.2.2.2.2.2 i hi
  unfold SB
  rw [e 6 (Or.inl rfl), b0, b4, b5, b6]
  refine ⟨q1, q2, q3, ?_, q5⟩
  rcases b2 with b2 | b2 | b2
  · rw [b2]; exact q4
  · exact Or.inr (Or.inl b2)
  · exact Or.inr (Or.inr b2)
theorem SD.k_dl (h8 : Y ≤ 8) (h : SD N K y) (d : Nat) : SD N K (dl Y d y) := by
  refine h.cg (fun k hk => dl_lo d (by omega) (by omega) (by omega) (by omega)) ?_ fun i hi => ⟨dl_hi Y d y h8 (by omega), dl_hi Y d y h8 (by omega), dl_hi Y d y h8 (by omega), dl_hi Y d y h8 (by omega), Or.inl (dl_hi Y d y h8 (by omega))⟩
  rw [(dl_14 d).1, (dl_14 d).2, h.2.2.1, show nI (10 * d) = 10 * nI d from (nI_mul 10 d).symm]
  grind
theorem SD.u (h : SD N K y) {k : Nat} (hk : k < 6 ∨ (18 ≤ k ∧ k < 30)) (v : Int32) : SD N K (up y k v) := by
  refine h.cg (fun a ha => up_ne _ _ (by omega)) ?_ fun i hi => ⟨up_ne _ _ (by omega), up_ne _ _ (by omega), up_ne _ _ (by omega), up_ne _ _ (by omega), Or.inl (up_ne _ _ (by omega))⟩
  rw [up_ne _ _ (by omega), up_ne _ _ (by omega)]
  exact h.2.2.1
theorem SD.k_lv (h : SD N K y) (i : Nat) {x : Int32} (hx : x = 0 ∨ x = 4) : SD N K (lv y i x) := by
  refine h.cg (fun a ha => lv_out _ (by omega)) ?_ fun j hj => ?_
  · rw [lv_out _ (by omega), lv_out _ (by omega)]
    exact h.2.2.1
  · by_cases e : j = i
    · subst e
      exact ⟨lv_o x (f := 0) (by decide) (by decide), lv_o x (by decide) (by decide), lv_o x (by decide) (by decide), lv_o x (by decide) (by decide), by rw [lv_2]; exact Or.inr hx⟩
    · exact ⟨lv_out _ (by omega), lv_out _ (by omega), lv_out _ (by omega), lv_out _ (by omega), Or.inl (lv_out _ (by omega))⟩
theorem SD.k_mv (h : SD N K y) {f : Nat} (hf : f < 2) (o : Bool) : SD N K (mv N f o y).2 := by
  unfold mv
  cases o
  · exact fe_inv (f := mvf f) (I := fun _ (p : Int32 × Pg) => SD N K p.2) (t := (0, up y (20 + f) 0)) (n := N) (h.u (by omega) 0) fun i p _ hp => by
      unfold mvf
      split
      · exact hp.k_lv i (Or.inl rfl)
      · exact hp
  · exact h.u (by omega) 1
/-! the actions -/
theorem at_tick (h : Zu N Y K z H hf s C) (hK : K < 800000) {m d : Nat} (hm1 : 1 ≤ m) (hm : m ≤ 96) (hd : d ≤ 5) : ∃ D, F_L_tryTick (nI m) (nI d) C = some (avg Y (tkn N Y d m z), D) ∧ Zu N Y (K + m) (tkn N Y d m z) (Hn H) (psh z hf) s D := by
  obtain ⟨R, er, hact⟩ := act h
  have sz := h.1.sz
  have wz := h.1.wz
  obtain ⟨⟨⟨⟨n1, n5⟩, y2, y8⟩, ⟨c65, c66, wf, ag⟩, hD⟩, -, -⟩ := h
  have az := ag.k_tkn (by omega) d m
  have hS' : Sv N Y (K + m) (tkn N Y d m (C 0)) (tkn N Y d m z) := ⟨(tkn_hi d m _ (by omega) y8 n5 (by decide)).trans c65, (tkn_hi d m _ (by omega) y8 n5 (by decide)).trans c66, wf.k_tkn (by omega) y8 d m (by omega), az⟩
  refine ⟨sr R 0 (tkn N Y d m (C 0)), ?_, hact _ _ _ (by omega) ⟨hS', sz.k_tkn (by omega) y8 d wz m (by omega)⟩⟩
  unfold F_L_tryTick F_X8_tick
  rw [rqT, b2_s, if_pos (XT m d hm1 hm hd), el_l, er, b2_s, g_passTicks c65 c66 n5 (by omega) y8 0 (by omega) (by omega) (K := K) (by omega) wf, b2_s, f_mean (by rw [sr_same]; exact hS'.2.1) (by omega) y8, b2_s, sr_same, b2_s, el_l, avg_c az]
theorem at_draw (h : Zu N Y K z H hf s C) {d : Nat} (hd1 : 1 ≤ d) (hd : d ≤ 20) : ∃ D, F_L_tryDraw (nI d) C = some ((dlv Y d z).1, D) ∧ Zu N Y K (dl Y d z) (Hn H) (psh z hf) s D := by
  obtain ⟨R, er, hact⟩ := act h
  obtain ⟨⟨⟨⟨n1, n5⟩, y2, y8⟩, ⟨c65, c66, wf, ag⟩, hD⟩, -, -⟩ := h
  have dv := dlv_c (show 1 ≤ Y by omega) ag d
  have hS' : Sv N Y K (dl Y d (C 0)) (dl Y d z) := ⟨(dl_hi Y d _ y8 (by decide)).trans c65, (dl_hi Y d _ y8 (by decide)).trans c66, wf.k_dl (by omega) y8 d, ag.k_dl (by omega) d⟩
  refine ⟨sr R 0 (dl Y d (C 0)), ?_, hact _ _ _ (by omega) ⟨hS', hD.k_dl y8 d⟩⟩
  unfold F_L_tryDraw F_X8_draw
  rw [rq, b2_s, if_pos (show 1 ≤ nI d ∧ nI d ≤ 20 from ⟨nI_le hd1 (by omega), nI_le hd (by decide)⟩), el_l, er, b2_s, g_deliver c66 (by omega) y8 0 (by omega), b2_s, b2_s, el_l, dv.1]
theorem at_sett (h : Zu N Y K z H hf s C) {k : Nat} (hk : k < 6) {v : Int32} (hv : kLeast k ≤ v ∧ v ≤ kMost k) : ∃ D, F_L_trySet (nI k) v C = some (z k, D) ∧ Zu N Y K (up z k v) (Hn H) (psh z hf) s D := by
  obtain ⟨R, er, hact⟩ := act h
  obtain ⟨⟨⟨⟨n1, n5⟩, y2, y8⟩, ⟨c65, c66, wf, ag⟩, hD⟩, -, -⟩ := h
  have hS' : Sv N Y K (up (C 0) k v) (up z k v) := ⟨(up_ne _ _ (by omega)).trans c65, (up_ne _ _ (by omega)).trans c66, wf.kset hk hv, ag.put rfl⟩
  refine ⟨sr R 0 (up (C 0) k v), ?_, hact _ _ _ (by omega) ⟨hS', hD.u (Or.inl hk) v⟩⟩
  unfold F_L_trySet F_X8_set
  rw [(set_in v C k hk).1, b2_s, if_pos hv, if_neg (by decide), er, b2_s, gi_n hk (by decide), nm_s, gi_n hk (by decide), nI_clamp (by omega), nm_s, mu_sr, sr_same, b2_s, el_l, ag.1 k (by omega)]
theorem at_setFlue (h : Zu N Y K z H hf s C) {f : Nat} (hf2 : f < 2) (o : Bool) : ∃ D, F_L_trySetFlue (nI f) (if o then 1 else 0) C = some ((mv N f o z).1, D) ∧ Zu N Y K (mv N f o z).2 (Hn H) (psh z hf) s D := by
  obtain ⟨R, er, hact⟩ := act h
  obtain ⟨⟨⟨⟨n1, n5⟩, y2, y8⟩, ⟨c65, c66, wf, ag⟩, hD⟩, -, -⟩ := h
  have mvc := mv_c ag f o
  have hS' : Sv N Y K (mv N f o (C 0)).2 (mv N f o z).2 := ⟨(mv_hi f o _ (by omega) n5 (by decide)).trans c65, (mv_hi f o _ (by omega) n5 (by decide)).trans c66, wf.k_mv y8 (by omega) o, mvc.2⟩
  refine ⟨sr R 0 (mv N f o (C 0)).2, ?_, hact _ _ _ (by omega) ⟨hS', hD.k_mv hf2 o⟩⟩
  unfold F_L_trySetFlue F_X8_setFlue
  rw [rqF, b2_s, if_pos (show 0 ≤ nI f ∧ nI f ≤ 1 from ⟨nI_pos' (by omega), nI_le (show f ≤ 1 by omega) (by decide)⟩), el_l, er, b2_s, g_moveFlue c65 n5 0 (by omega) o, b2_s, b2_s, el_l, mvc.1]
theorem at_setDraft (h : Zu N Y K z H hf s C) {f : Nat} (hf2 : f < 2) {v : Int32} (hv : 0 ≤ v ∧ v ≤ 99) : ∃ D, F_L_trySetDraft (nI f) v C = some (z (18 + f), D) ∧ Zu N Y K (up z (18 + f) v) (Hn H) (psh z hf) s D := by
  obtain ⟨R, er, hact⟩ := act h
  obtain ⟨⟨⟨⟨n1, n5⟩, y2, y8⟩, ⟨c65, c66, wf, ag⟩, hD⟩, -, -⟩ := h
  have hfl : (if nI f = 0 then 0 else 1 : Nat) = f := by rcases (show f = 0 ∨ f = 1 by omega) with rfl | rfl <;> decide
  have hS' : Sv N Y K (up (C 0) (18 + f) v) (up z (18 + f) v) := ⟨(up_ne _ _ (by omega)).trans c65, (up_ne _ _ (by omega)).trans c66, wf.u (by omega) (by omega) (by omega) (by omega) v, ag.put rfl⟩
  refine ⟨sr R 0 (up (C 0) (18 + f) v), ?_, hact _ _ _ (by omega) ⟨hS', hD.u (by omega) v⟩⟩
  unfold F_L_trySetDraft F_X8_setDraft
  rw [rqF, b2_s, if_pos (show 0 ≤ nI f ∧ nI f ≤ 1 from ⟨nI_pos' (by omega), nI_le (show f ≤ 1 by omega) (by decide)⟩), el_l, rq, b2_s, if_pos hv, el_l, er, b2_s, f_flueOf, b2_s, hfl, gn_p (by omega), nm_s, nm_s, mu_sr, sr_same, b2_s, el_l, ag.1 (18 + f) (by omega)]
theorem iB {i : Nat} (h5 : N ≤ 5) (hi : i < N) : 0 ≤ nI i ∧ nI i ≤ nI (N - 1) := ⟨nI_pos' (by omega), nI_le (by omega) (by omega)⟩
theorem at_lock (h : Zu N Y K z H hf s C) {i : Nat} (hi : i < N) (hs : ¬ z (30 + 7 * i + 2) = 4) : ∃ D, F_L_tryLock (nI i) C = some (z (30 + 7 * i + 2), D) ∧ Zu N Y K (lv z i 4) (Hn H) (psh z hf) s D := by
  obtain ⟨R, er, hact⟩ := act h
  obtain ⟨⟨⟨⟨n1, n5⟩, y2, y8⟩, ⟨c65, c66, wf, ag⟩, hD⟩, -, -⟩ := h
  have hS' : Sv N Y K (lv (C 0) i 4) (lv z i 4) := ⟨(lv_out _ (by omega)).trans c65, (lv_out _ (by omega)).trans c66, wf.k_lv y8 hi (Or.inr (Or.inr (Or.inr rfl))), ag.k_lv i _⟩
  refine ⟨sr R 0 (lv (C 0) i 4), ?_, hact _ _ _ (by omega) ⟨hS', hD.k_lv i (Or.inr rfl)⟩⟩
  unfold F_L_tryLock F_X8_lock
  rw [rqB c65 n1 n5, b2_s, if_pos (iB n5 hi), el_l, gi_n (by omega) (by decide), nI_clamp (by omega), nm_s, ag.b2 hi, if_neg hs, er, b2_s, gi_n (by omega) (by decide), g_leave, b2_s, b2_s, el_l]
theorem at_unlock (h : Zu N Y K z H hf s C) {i : Nat} (hi : i < N) (hs : z (30 + 7 * i + 2) = 4) : ∃ D, F_L_tryUnlock (nI i) C = some (cnS N 4 (lv z i 0), D) ∧ Zu N Y K (lv z i 0) (Hn H) (psh z hf) s D := by
  obtain ⟨R, er, hact⟩ := act h
  obtain ⟨⟨⟨⟨n1, n5⟩, y2, y8⟩, ⟨c65, c66, wf, ag⟩, hD⟩, -, -⟩ := h
  have hS' : Sv N Y K (lv (C 0) i 0) (lv z i 0) := ⟨(lv_out _ (by omega)).trans c65, (lv_out _ (by omega)).trans c66, wf.k_lv y8 hi (Or.inl rfl), ag.k_lv i _⟩
  refine ⟨sr R 0 (lv (C 0) i 0), ?_, hact _ _ _ (by omega) ⟨hS', hD.k_lv i (Or.inl rfl)⟩⟩
  unfold F_L_tryUnlock F_X8_unlock
  rw [rqB c65 n1 n5, b2_s, if_pos (iB n5 hi), el_l, gi_n (by omega) (by decide), nI_clamp (by omega), ag.b2 hi, if_pos hs, er, b2_s, gi_n (by omega) (by decide), g_leave, b2_s, f_countInState (by rw [sr_same]; exact hS'.1) n5, b2_s, sr_same, b2_s, el_l, cnS_c hS'.2.2.2]
theorem at_putOff (h : Zu N Y K z H hf s C) {i : Nat} (hi : i < N) (hs : z (30 + 7 * i + 2) = 3) : ∃ D, F_L_tryPutOff (nI i) C = some (z (30 + 7 * i + 6), D) ∧ Zu N Y K (lv z i 0) (Hn H) (psh z hf) s D := by
  obtain ⟨R, er, hact⟩ := act h
  obtain ⟨⟨⟨⟨n1, n5⟩, y2, y8⟩, ⟨c65, c66, wf, ag⟩, hD⟩, -, -⟩ := h
  have hS' : Sv N Y K (lv (C 0) i 0) (lv z i 0) := ⟨(lv_out _ (by omega)).trans c65, (lv_out _ (by omega)).trans c66, wf.k_lv y8 hi (Or.inl rfl), ag.k_lv i _⟩
  refine ⟨sr R 0 (lv (C 0) i 0), ?_, hact _ _ _ (by omega) ⟨hS', hD.k_lv i (Or.inl rfl)⟩⟩
  unfold F_L_tryPutOff F_X8_putOff
  rw [rqB c65 n1 n5, b2_s, if_pos (iB n5 hi), el_l, gi_n (by omega) (by decide), nI_clamp (by omega), ag.b2 hi, if_pos hs, er, b2_s, gi_n (by omega) (by decide), g_leave, b2_s, gi_n (by omega) (by decide), sr_same, lv_o 0 (f := 6) (by decide) (by decide), b2_s, el_l, ag.b6 hi]
/-! taking back, putting away -/
theorem at_undo0 (h : Zu N Y K z 0 hf s C) : F_L_tryUndo C = some (-1003, C) := by
  obtain ⟨-, ⟨-, P, -, -, e2, -⟩, -⟩ := h
  unfold F_L_tryUndo F_X8_undo F_X2_takeBackInto
  rw [e2, if_neg (by decide), b2_s, if_pos rfl, b2_s, el_r, if_pos rfl]
theorem at_undo (h : Zu N Y K z (H + 1) hf s C) : ∃ D, F_L_tryUndo C = some (nI H, D) ∧ Zu N Y K (hf 0) H (fun j => hf (j + 1)) s D := by
  obtain ⟨⟨hN, -⟩, ⟨hH, P, hP, e1, e2, hst⟩, hL⟩ := h
  obtain ⟨⟨p65, p66, pwf, pag⟩, pD⟩ := hst 0 (by omega)
  rw [show (P + 13 - 0) % 14 = (P + 13) % 14 by omega] at p65 p66 pwf pag
  have hreg : 2 + (P + 13) % 14 ≠ 23 := by omega
  obtain ⟨y, ey, y65, y66, yw, ya⟩ := t_c (C := sr C 23 (up (C 23) 1 (nI ((P + 13) % 14)))) (K := K) (q := 0) (q0 := 2 + (P + 13) % 14) (by omega) (by rw [sr_ne _ _ hreg]; exact p65) (by rw [sr_ne _ _ hreg]; exact p66) hN.1.2 hN.2.2 (by rw [sr_ne _ _ hreg]; exact pwf)
  rw [sr_ne _ _ hreg] at ya
  have j33 : J_X2_takeBackInto_33 0 C (nI ((P + 13) % 14)) = some (1, mu (sr (sr C 23 (up (C 23) 1 (nI ((P + 13) % 14)))) 0 y) 23 2 (nI H)) := by
    unfold J_X2_takeBackInto_33
    rw [nm_s, mu_s C, sr_same, up_same, gi_n (by omega) (by decide), nI_clamp (by omega), ey, b2_s, nm_s, sr_ne _ _ (show 23 ≠ 0 by decide), sr_same, up_ne _ _ (show 2 ≠ 1 by decide), e2, s1 (by omega), Nat.add_sub_cancel]
  have htb : F_X2_takeBackInto 0 C = some (1, mu (sr (sr C 23 (up (C 23) 1 (nI ((P + 13) % 14)))) 0 y) 23 2 (nI H)) := by
    unfold F_X2_takeBackInto
    rw [e2, if_pos (show (0 : Int32) < nI (H + 1) from nI_lt (show 0 < H + 1 by omega) (by omega)), e1]
    by_cases hp0 : P = 0
    · subst hp0
      rw [if_pos (by decide), show (14 : Int32) - 1 = nI ((0 + 13) % 14) by decide]
      exact j33
    · rw [if_neg (nI_nle (by omega) (by omega)), s1 (by omega), show P - 1 = (P + 13) % 14 by omega]
      exact j33
  have rr : ∀ r, r ≠ 0 → r ≠ 23 → (mu (sr (sr C 23 (up (C 23) 1 (nI ((P + 13) % 14)))) 0 y) 23 2 (nI H)) r = C r := fun r a b => by rw [mu_r _ _ _ b, sr_ne _ _ a, sr_ne _ _ b]
  have r0 : (mu (sr (sr C 23 (up (C 23) 1 (nI ((P + 13) % 14)))) 0 y) 23 2 (nI H)) 0 = y := by rw [mu_r _ _ _ (show 0 ≠ 23 by decide), sr_same]
  have r1 : (mu (sr (sr C 23 (up (C 23) 1 (nI ((P + 13) % 14)))) 0 y) 23 2 (nI H)) 23 1 = nI ((P + 13) % 14) := by rw [mu_o _ _ (by decide), sr_ne _ _ (show 23 ≠ 0 by decide), sr_same, up_same]
  have r2' : (mu (sr (sr C 23 (up (C 23) 1 (nI ((P + 13) % 14)))) 0 y) 23 2 (nI H)) 23 2 = nI H := mu_at _ _ _ _
  generalize mu (sr (sr C 23 (up (C 23) 1 (nI ((P + 13) % 14)))) 0 y) 23 2 (nI H) = R at htb rr r0 r1 r2'
  refine ⟨R, ?_, ⟨hN, by rw [r0]; exact ⟨⟨y65, y66, yw, ya.tr pag⟩, pD⟩⟩, ⟨by omega, (P + 13) % 14, by omega, r1, r2', fun j hj => ?_⟩, hL.cg (rr 24 (by decide) (by decide)) (rr 16 (by decide) (by decide)) (rr 17 (by decide) (by decide)) (rr 18 (by decide) (by decide))⟩
  · unfold F_L_tryUndo F_X8_undo
    rw [htb, b2_s, if_neg (by decide), r2', b2_s, el_l]
  · rw [rr _ (by omega) (by omega)]
    have k := hst (j + 1) (by omega)
    rw [show (P + 13 - (j + 1)) % 14 = ((P + 13) % 14 + 13 - j) % 14 by omega] at k
    exact k
theorem at_save (h : Zu N Y K z H hf s C) {k : Nat} (hk : k < 2) : ∃ D, F_L_trySave (nI k) C = some (z 6, D) ∧ Zu N Y K z H hf (fun a => if a = k then some z else s a) D := by
  obtain ⟨⟨hN, ⟨c65, c66, wf, ag⟩, hD⟩, hH, hL⟩ := h
  obtain ⟨y, ey, y65, y66, yw, ya⟩ := t_c (C := C) (K := K) (q := 16 + k) (q0 := 0) (by omega) c65 c66 hN.1.2 hN.2.2 wf
  have cls : F_L_trySave (nI k) C = some (z 6, mu (sr C (16 + k) y) 24 k 1) := by
    unfold F_L_trySave F_X8_save
    rw [rqS, b2_s, if_pos (show 0 ≤ nI k ∧ nI k ≤ 1 from ⟨nI_pos' (by omega), nI_le (show k ≤ 1 by omega) (by decide)⟩), el_l]
    rcases (show k = 0 ∨ k = 1 by omega) with q | q
    · subst q
      rw [if_pos (by decide), ey, b2_s, nm_s, mu_r _ _ _ (show 0 ≠ 24 by decide), sr_ne _ _ (show 0 ≠ 16 + 0 by decide), b2_s, el_l, ag.1 6 (by decide)]
    · subst q
      rw [if_neg (by decide), ey, b2_s, nm_s, mu_r _ _ _ (show 0 ≠ 24 by decide), sr_ne _ _ (show 0 ≠ 16 + 1 by decide), b2_s, el_l, ag.1 6 (by decide)]
  have dr : ∀ r, r ≠ 16 + k → r ≠ 24 → (mu (sr C (16 + k) y) 24 k 1) r = C r := fun r a b => by rw [mu_r _ _ _ b, sr_ne _ _ a]
  have d16 : (mu (sr C (16 + k) y) 24 k 1) (16 + k) = y := by rw [mu_r _ _ _ (show 16 + k ≠ 24 by omega), sr_same]
  have d24 : ∀ a, (mu (sr C (16 + k) y) 24 k 1) 24 a = if a = k then 1 else C 24 a := fun a => by
    by_cases q : a = k
    · subst q; rw [mu_at, if_pos rfl]
    · rw [mu_o _ _ q, if_neg q, sr_ne _ _ (by omega)]
  generalize mu (sr C (16 + k) y) 24 k 1 = D at cls dr d16 d24
  refine ⟨D, cls, ⟨hN, by rw [dr 0 (by omega) (by decide)]; exact ⟨⟨c65, c66, wf, ag⟩, hD⟩⟩, hH.cg (dr 23 (by omega) (by decide)) (fun r a b => dr r (by omega) (by omega)), fun a ha => ?_, fun w e => ?_⟩
  · rw [d24]
    by_cases q : a = k
    · subst q
      rw [if_pos rfl, show (fun b => if b = a then some z else s b) a = some z from if_pos rfl]
      refine ⟨fun e => absurd e (by simp), fun z' e => ⟨rfl, ?_⟩⟩
      have : z = z' := Option.some.inj e
      subst this
      rw [d16]
      exact ⟨⟨y65, y66, yw, ya.tr ag⟩, hD⟩
    · rw [if_neg q, show (fun b => if b = k then some z else s b) a = s a from if_neg q, dr (16 + a) (by omega) (by omega)]
      exact hL.1 a ha
  · rw [dr 18 (by omega) (by decide)]
    rw [show (fun b => if b = k then some z else s b) 2 = s 2 from if_neg (by omega)] at e
    exact hL.2 w e
theorem at_restore0 (h : Zu N Y K z H hf s C) {k : Nat} (hk : k < 2) (e : s k = none) : F_L_tryRestore (nI k) C = some (-1003, C) := by
  have hz := (h.2.2.1 k hk).1 e
  unfold F_L_tryRestore F_X8_restore
  rw [rqS, b2_s, if_pos (show 0 ≤ nI k ∧ nI k ≤ 1 from ⟨nI_pos' (by omega), nI_le (show k ≤ 1 by omega) (by decide)⟩), el_l]
  rcases (show k = 0 ∨ k = 1 by omega) with q | q
  · subst q
    rw [if_pos (by decide), if_pos hz, b2_s, el_r, if_neg (by decide), if_pos rfl]
  · subst q
    rw [if_neg (by decide), if_pos hz, b2_s, el_r, if_neg (by decide), if_pos rfl]
theorem at_restore (h : Zu N Y K z H hf s C) {k : Nat} (hk : k < 2) {x : Pg} (e : s k = some x) : ∃ D, F_L_tryRestore (nI k) C = some (x 6, D) ∧ Zu N Y K x 0 hf s D := by
  obtain ⟨l1, ⟨s65, s66, sw, sa⟩, sD⟩ := (h.2.2.1 k hk).2 x e
  obtain ⟨⟨hN, -⟩, ⟨hH, P, hP, e1, e2, hst⟩, hL⟩ := h
  have hz : ¬ C 24 k = 0 := by rw [l1]; decide
  obtain ⟨y, ey, y65, y66, yw, ya⟩ := t_c (C := C) (K := K) (q := 0) (q0 := 16 + k) (by omega) s65 s66 hN.1.2 hN.2.2 sw
  have cls : F_L_tryRestore (nI k) C = some (x 6, mu (sr C 0 y) 23 2 0) := by
    unfold F_L_tryRestore F_X8_restore
    rw [rqS, b2_s, if_pos (show 0 ≤ nI k ∧ nI k ≤ 1 from ⟨nI_pos' (by omega), nI_le (show k ≤ 1 by omega) (by decide)⟩), el_l]
    rcases (show k = 0 ∨ k = 1 by omega) with q | q
    · subst q
      rw [if_pos (by decide), if_neg hz, ey, b2_s]
      unfold F_X2_forgetAll
      rw [nm_s, b2_s, mu_r _ _ _ (show 0 ≠ 23 by decide), sr_same, b2_s, el_l, (ya.tr sa).1 6 (by decide)]
    · subst q
      rw [if_neg (by decide), if_neg hz, ey, b2_s]
      unfold F_X2_forgetAll
      rw [nm_s, b2_s, mu_r _ _ _ (show 0 ≠ 23 by decide), sr_same, b2_s, el_l, (ya.tr sa).1 6 (by decide)]
  have dr : ∀ r, r ≠ 0 → r ≠ 23 → (mu (sr C 0 y) 23 2 0) r = C r := fun r a b => by rw [mu_r _ _ _ b, sr_ne _ _ a]
  have d0 : (mu (sr C 0 y) 23 2 0) 0 = y := by rw [mu_r _ _ _ (show 0 ≠ 23 by decide), sr_same]
  have d1 : (mu (sr C 0 y) 23 2 0) 23 1 = C 23 1 := by rw [mu_o _ _ (show 1 ≠ 2 by decide), sr_ne _ _ (show 23 ≠ 0 by decide)]
  have d2 : (mu (sr C 0 y) 23 2 0) 23 2 = 0 := mu_at _ _ _ _
  generalize mu (sr C 0 y) 23 2 0 = D at cls dr d0 d1 d2
  exact ⟨D, cls, ⟨hN, by rw [d0]; exact ⟨⟨y65, y66, yw, ya.tr sa⟩, sD⟩⟩, ⟨by omega, P, hP, d1.trans e1, d2, fun j hj => absurd hj (Nat.not_lt_zero j)⟩, hL.cg (dr 24 (by decide) (by decide)) (dr 16 (by decide) (by decide)) (dr 17 (by decide) (by decide)) (dr 18 (by decide) (by decide))⟩
end ACTS
