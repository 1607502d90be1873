/-! undo, slots, the text's calls -/
/-- nothing that the invariant speaks of is touched -/
def Rt (C D : Mem) : Prop := (∀ r, r ≠ 1 → r ≠ 18 → r ≠ 20 → r ≠ 21 → r ≠ 22 → r ≠ 30 → r ≠ 32 → r ≠ 34 → r ≠ 40 → D r = C r) ∧ D 18 1 = C 18 1 ∧ D 30 2 = C 30 2 ∧ D 30 4 = C 30 4 ∧ D 30 5 = C 30 5 ∧ D 30 12 = C 30 12
theorem Inv.rt {K : Nat} {C D : Mem} (h : Inv K C) (q : Rt C D) : Inv K D := by
  obtain ⟨e, q1, q2, q4, q5, q12⟩ := q
  obtain ⟨N, Y, h1, h2, h3, h4, h5⟩ := h
  refine ⟨N, Y, h1.cg q4 q5, ?_, h3.cg q1 (e 19 (by decide) (by decide) (by decide) (by decide) (by decide) (by decide) (by decide) (by decide) (by decide)) q2 (e 31 (by decide) (by decide) (by decide) (by decide) (by decide) (by decide) (by decide) (by decide) (by decide)), h4.cg (e 23 (by decide) (by decide) (by decide) (by decide) (by decide) (by decide) (by decide) (by decide) (by decide)) q12 (fun r a b => e r (by omega) (by omega) (by omega) (by omega) (by omega) (by omega) (by omega) (by omega) (by omega)) (e 35 (by decide) (by decide) (by decide) (by decide) (by decide) (by decide) (by decide) (by decide) (by decide)), h5.cg (e 24 (by decide) (by decide) (by decide) (by decide) (by decide) (by decide) (by decide) (by decide) (by decide)) (e 37 (by decide) (by decide) (by decide) (by decide) (by decide) (by decide) (by decide) (by decide) (by decide)) ⟨e 16 (by decide) (by decide) (by decide) (by decide) (by decide) (by decide) (by decide) (by decide) (by decide), e 17 (by decide) (by decide) (by decide) (by decide) (by decide) (by decide) (by decide) (by decide) (by decide)⟩ (e 36 (by decide) (by decide) (by decide) (by decide) (by decide) (by decide) (by decide) (by decide) (by decide))⟩
  rw [e 0 (by decide) (by decide) (by decide) (by decide) (by decide) (by decide) (by decide) (by decide) (by decide), e 33 (by decide) (by decide) (by decide) (by decide) (by decide) (by decide) (by decide) (by decide) (by decide)]
  exact h2
section KEEP
variable {C : Mem} {K : Nat}
theorem p_undo (hI : Inv K C) : Res K (F_L_undo C) F_X9_undo := by
  obtain ⟨N, Y, hN, hS, hT, ⟨P, H, hP, hH, e1, e2, e12, hst⟩, hL⟩ := id hI
  obtain ⟨n1, n5, y2, y8, h4, h5⟩ := id hN
  by_cases h0 : H = 0
  case pos =>
    subst h0
    refine res_no hI (c := 1) (w := 0) (by decide) ?_ ?_
    · unfold F_L_undo F_X8_undo F_X2_takeBackInto
      rw [e2, if_neg (by decide), b2_s, if_pos rfl, b2_s, el_r, if_pos rfl]
    · unfold F_X9_undo
      rw [e12, if_pos (by decide)]
      unfold J_X9_undo_13
      rw [ref1, b2_s, if_neg (by decide)]
  obtain ⟨p65, p66, pwf, pag⟩ := hst 0 (by omega)
  rw [show (P + 13 - 0) % 14 = (P + 13) % 14 by omega] at p65 p66 pwf pag
  have hreg : 2 + (P + 13) % 14 ≠ 23 := by omega
  obtain ⟨y, ey, y65, y66, yw, ya⟩ := t_c (C := sr C 23 (up (C 23) 1 (nI ((P + 13) % 14)))) (K := K) (q := 0) (q0 := 2 + (P + 13) % 14) (by omega) (by rw [sr_ne _ _ hreg]; exact p65) (by rw [sr_ne _ _ hreg]; exact p66) n5 y8 (by rw [sr_ne _ _ hreg]; exact pwf)
  rw [sr_ne _ _ hreg] at ya
  have j33 : J_X2_takeBackInto_33 0 C (nI ((P + 13) % 14)) = some (1, mu (sr (sr C 23 (up (C 23) 1 (nI ((P + 13) % 14)))) 0 y) 23 2 (nI (H - 1))) := by
    unfold J_X2_takeBackInto_33
    rw [nm_s, mu_s C, sr_same, up_same, gi_n (by omega) (by decide), nI_clamp (by omega), ey, b2_s, nm_s, sr_ne _ _ (show 23 ≠ 0 by decide), sr_same, up_ne _ _ (show 2 ≠ 1 by decide), e2, s1 (by omega)]
  have htb : F_X2_takeBackInto 0 C = some (1, mu (sr (sr C 23 (up (C 23) 1 (nI ((P + 13) % 14)))) 0 y) 23 2 (nI (H - 1))) := by
    unfold F_X2_takeBackInto
    rw [e2, if_pos (show (0 : Int32) < nI H from nI_lt (show 0 < H by omega) (by omega)), e1]
    by_cases hp0 : P = 0
    · subst hp0
      rw [if_pos (by decide), show (14 : Int32) - 1 = nI ((0 + 13) % 14) by decide]
      exact j33
    · rw [if_neg (nI_nle (by omega) (by omega)), s1 (by omega), show P - 1 = (P + 13) % 14 by omega]
      exact j33
  have rr : ∀ r, r ≠ 0 → r ≠ 23 → (mu (sr (sr C 23 (up (C 23) 1 (nI ((P + 13) % 14)))) 0 y) 23 2 (nI (H - 1))) r = C r := fun r a b => by rw [mu_r _ _ _ b, sr_ne _ _ a, sr_ne _ _ b]
  have r0 : (mu (sr (sr C 23 (up (C 23) 1 (nI ((P + 13) % 14)))) 0 y) 23 2 (nI (H - 1))) 0 = y := by rw [mu_r _ _ _ (show 0 ≠ 23 by decide), sr_same]
  have r1 : (mu (sr (sr C 23 (up (C 23) 1 (nI ((P + 13) % 14)))) 0 y) 23 2 (nI (H - 1))) 23 1 = nI ((P + 13) % 14) := by rw [mu_o _ _ (by decide), sr_ne _ _ (show 23 ≠ 0 by decide), sr_same, up_same]
  have r2' : (mu (sr (sr C 23 (up (C 23) 1 (nI ((P + 13) % 14)))) 0 y) 23 2 (nI (H - 1))) 23 2 = nI (H - 1) := mu_at _ _ _ _
  generalize mu (sr (sr C 23 (up (C 23) 1 (nI ((P + 13) % 14)))) 0 y) 23 2 (nI (H - 1)) = R at htb rr r0 r1 r2'
  -- the model's side
  have g := g_copyPage (mu (mu (mu R 40 0 (nI (H - 1))) 30 0 0) 30 12 (nI (H - 1))) (r0 := 35) (r2 := 33) (a := 65 * (H - 1)) (b := 0) (by decide) (by show 65 * (H - 1) + 65 ≤ 910; omega) (by decide) (by decide) (by decide)
  have e35 : (mu (mu (mu R 40 0 (nI (H - 1))) 30 0 0) 30 12 (nI (H - 1))) 35 = C 35 := by rw [mu_r _ _ _ (show 35 ≠ 30 by decide), mu_r _ _ _ (show 35 ≠ 30 by decide), mu_r _ _ _ (show 35 ≠ 40 by decide), rr 35 (by decide) (by decide)]
  rw [e35] at g
  have zk : ∀ k, k < 65 → pst (C 35) (65 * (H - 1)) 0 65 ((mu (mu (mu R 40 0 (nI (H - 1))) 30 0 0) 30 12 (nI (H - 1))) 33) k = C 35 (65 * (H - 1) + k) := fun k hk => by
    rw [pst_at, if_pos (by omega), show k - 0 = k by omega]
  generalize pst (C 35) (65 * (H - 1)) 0 65 ((mu (mu (mu R 40 0 (nI (H - 1))) 30 0 0) 30 12 (nI (H - 1))) 33) = z at g zk
  have m12 : (mu R 40 0 (nI (H - 1))) 30 12 = nI H := by rw [mu_r _ _ _ (show 30 ≠ 40 by decide), rr 30 (by decide) (by decide)]; exact e12
  have E30 : ∀ k, k ≠ 0 → k ≠ 12 → (sr (mu (mu (mu R 40 0 (nI (H - 1))) 30 0 0) 30 12 (nI (H - 1))) 33 z) 30 k = C 30 k := fun k a b => by rw [sr_ne _ _ (show 30 ≠ 33 by decide), mu_o _ _ b, mu_o _ _ a, mu_r _ _ _ (show 30 ≠ 40 by decide), rr 30 (by decide) (by decide)]
  have Er : ∀ r, r ≠ 0 → r ≠ 23 → r ≠ 30 → r ≠ 33 → r ≠ 40 → (sr (mu (mu (mu R 40 0 (nI (H - 1))) 30 0 0) 30 12 (nI (H - 1))) 33 z) r = C r := fun r a b c d e => by rw [sr_ne _ _ d, mu_r _ _ _ c, mu_r _ _ _ c, mu_r _ _ _ e, rr r a b]
  have E23 : (sr (mu (mu (mu R 40 0 (nI (H - 1))) 30 0 0) 30 12 (nI (H - 1))) 33 z) 23 = R 23 := by rw [sr_ne _ _ (show 23 ≠ 33 by decide), mu_r _ _ _ (show 23 ≠ 30 by decide), mu_r _ _ _ (show 23 ≠ 30 by decide), mu_r _ _ _ (show 23 ≠ 40 by decide)]
  refine ⟨0, mu R 40 0 (nI (H - 1)), nI (H - 1), sr (mu (mu (mu R 40 0 (nI (H - 1))) 30 0 0) 30 12 (nI (H - 1))) 33 z, ?_, ?_, ?_, fun _ => ?_, N, Y, hN.cg (E30 4 (by decide) (by decide)) (E30 5 (by decide) (by decide)), ?_, hT.cg (by rw [Er 18 (by decide) (by decide) (by decide) (by decide) (by decide)]) (Er 19 (by decide) (by decide) (by decide) (by decide) (by decide)) (E30 2 (by decide) (by decide)) (Er 31 (by decide) (by decide) (by decide) (by decide) (by decide)), ?_, (hL.cg (Er 24 (by decide) (by decide) (by decide) (by decide) (by decide)) (Er 37 (by decide) (by decide) (by decide) (by decide) (by decide)) ⟨Er 16 (by decide) (by decide) (by decide) (by decide) (by decide), Er 17 (by decide) (by decide) (by decide) (by decide) (by decide)⟩ (Er 36 (by decide) (by decide) (by decide) (by decide) (by decide))).mo (by omega)⟩
  · unfold F_L_undo F_X8_undo
    rw [htb, b2_s, if_neg (by decide), r2', b2_s, el_l, nm_s]
  · unfold F_X9_undo
    rw [m12, if_neg (nI_ne0 (by omega) (by omega))]
    unfold J_X9_undo_13
    rw [ref0, b2_s, if_pos rfl, mu_o _ _ (show 12 ≠ 0 by decide), m12, s1 (by omega), nm_s, mu_at, show (65 : Int32) * nI (H - 1) = nI (65 * (H - 1)) from nI_mul 65 (H - 1), show (0 : Int32) = nI 0 from rfl]
    rw [show nI 0 = (0 : Int32) from rfl] at g ⊢
    rw [g, b2_s, sr_ne _ _ (show 30 ≠ 33 by decide), mu_at]
  · rw [sr_ne _ _ (show 30 ≠ 33 by decide), mu_o _ _ (by decide), mu_at]
  · rw [sr_ne _ _ (show 40 ≠ 33 by decide), mu_r _ _ _ (show 40 ≠ 30 by decide), mu_r _ _ _ (show 40 ≠ 30 by decide), mu_at]
  · rw [sr_ne _ _ (show 0 ≠ 33 by decide), mu_r _ _ _ (show 0 ≠ 30 by decide), mu_r _ _ _ (show 0 ≠ 30 by decide), mu_r _ _ _ (show 0 ≠ 40 by decide), r0, sr_same]
    refine ⟨y65, y66, yw.mo (by omega), (ya.tr pag).tr (Agree.of n5 y8 fun k hk => ?_)⟩
    rw [zk k hk]
    rfl
  · refine ⟨(P + 13) % 14, H - 1, by omega, by omega, by rw [E23]; exact r1, by rw [E23]; exact r2', by rw [sr_ne _ _ (show 30 ≠ 33 by decide), mu_at], fun j hj => ?_⟩
    rw [Er _ (by omega) (by omega) (by omega) (by omega) (by omega), Er 35 (by decide) (by decide) (by decide) (by decide) (by decide)]
    have k := (hst (j + 1) (by omega)).mo (show K ≤ K + 96 by omega)
    rw [show (P + 13 - (j + 1)) % 14 = ((P + 13) % 14 + 13 - j) % 14 by omega, show H - 1 - (j + 1) = H - 1 - 1 - j by omega] at k
    exact k
/-! slots -/
theorem rqS (x : Int32) (C : Mem) : F_X8_requireSlot x C = some ((if 0 ≤ x ∧ x ≤ 1 then .inl 0 else .inr 3), C) := by
  unfold F_X8_requireSlot
  by_cases h0 : x = 0
  · subst h0
    rw [if_pos rfl, if_pos (by decide)]
  · rw [if_neg h0]
    by_cases h1 : x = 1
    · subst h1
      rw [if_pos rfl, if_pos (by decide)]
    · rw [if_neg h1, if_neg]
      intro q
      obtain ⟨k, -, hk, rfl⟩ := in_n (m := 0) (n := 1) rfl rfl q
      rcases (show k = 0 ∨ k = 1 by omega) with e | e
      · subst e; exact h0 rfl
      · subst e; exact h1 rfl
theorem p_save (hI : Inv K C) (x : Int32) : Res K (F_L_save x C) (F_X9_save x) := by
  obtain ⟨N, Y, hN, hS, hT, hH, hL⟩ := id hI
  obtain ⟨n1, n5, y2, y8, h4, h5⟩ := id hN
  obtain ⟨c65, c66, wf, ag⟩ := id hS
  by_cases hx : 0 ≤ x ∧ x ≤ 1
  case neg =>
    refine res_no hI (c := 1) (w := 0) (by decide) ?_ ?_
    · unfold F_L_save F_X8_save
      rw [rqS, b2_s, if_neg hx, el_r, b2_s, el_r, if_pos rfl]
    · unfold F_X9_save
      rw [f_inL (b := 0) (c := 1) (by decide) (by decide), b2_s, if_neg hx, if_pos rfl]
      unfold J_X9_save_16
      rw [ref1, b2_s, if_neg (by decide)]
  obtain ⟨k, -, hk, rfl⟩ := in_n (m := 0) (n := 1) rfl rfl hx
  obtain ⟨y, ey, y65, y66, yw, ya⟩ := t_c (C := C) (K := K) (q := 16 + k) (q0 := 0) (by omega) c65 c66 n5 y8 wf
  have cls : F_L_save (nI k) C = some (0, mu (mu (sr C (16 + k) y) 24 k 1) 40 0 (C 0 6)) := by
    unfold F_L_save F_X8_save
    rw [rqS, b2_s, if_pos hx, el_l]
    rcases (show k = 0 ∨ k = 1 by omega) with q | q
    · subst q
      rw [if_pos (by decide), ey, b2_s, nm_s, mu_r _ _ _ (show 0 ≠ 24 by decide), sr_ne _ _ (show 0 ≠ 16 + 0 by decide), b2_s, el_l, nm_s]
    · subst q
      rw [if_neg (by decide), ey, b2_s, nm_s, mu_r _ _ _ (show 0 ≠ 24 by decide), sr_ne _ _ (show 0 ≠ 16 + 1 by decide), b2_s, el_l, nm_s]
  have dr : ∀ r, r ≠ 16 + k → r ≠ 24 → r ≠ 40 → (mu (mu (sr C (16 + k) y) 24 k 1) 40 0 (C 0 6)) r = C r := fun r a b c => by rw [mu_r _ _ _ c, mu_r _ _ _ b, sr_ne _ _ a]
  have d16 : (mu (mu (sr C (16 + k) y) 24 k 1) 40 0 (C 0 6)) (16 + k) = y := by rw [mu_r _ _ _ (show 16 + k ≠ 40 by omega), mu_r _ _ _ (show 16 + k ≠ 24 by omega), sr_same]
  have d24 : ∀ a, (mu (mu (sr C (16 + k) y) 24 k 1) 40 0 (C 0 6)) 24 a = if a = k then 1 else C 24 a := fun a => by
    rw [mu_r _ _ _ (show 24 ≠ 40 by decide)]
    by_cases q : a = k
    · subst q; rw [mu_at, if_pos rfl]
    · rw [mu_o _ _ q, if_neg q, sr_ne _ _ (by omega)]
  have d40 : (mu (mu (sr C (16 + k) y) 24 k 1) 40 0 (C 0 6)) 40 0 = C 0 6 := mu_at _ _ _ _
  generalize mu (mu (sr C (16 + k) y) 24 k 1) 40 0 (C 0 6) = D at cls dr d16 d24 d40
  have g := g_copyPage (mu (mu D 30 0 0) 37 k 1) (r0 := 33) (r2 := 36) (a := 0) (b := 65 * k) (by decide) (by decide) (by show 65 * k + 65 ≤ 130; omega) (by decide) (by decide)
  have e33 : (mu (mu D 30 0 0) 37 k 1) 33 = C 33 := by rw [mu_r _ _ _ (show 33 ≠ 37 by decide), mu_r _ _ _ (show 33 ≠ 30 by decide), dr 33 (by omega) (by decide) (by decide)]
  have e36 : (mu (mu D 30 0 0) 37 k 1) 36 = C 36 := by rw [mu_r _ _ _ (show 36 ≠ 37 by decide), mu_r _ _ _ (show 36 ≠ 30 by decide), dr 36 (by omega) (by decide) (by decide)]
  rw [e33, e36] at g
  have zk : ∀ a, pst (C 33) 0 (65 * k) 65 (C 36) a = if 65 * k ≤ a ∧ a < 65 * k + 65 then C 33 (0 + (a - 65 * k)) else C 36 a := fun a => pst_at _ _ _ _ _ _
  generalize pst (C 33) 0 (65 * k) 65 (C 36) = z at g zk
  have Er : ∀ r, r ≠ 16 + k → r ≠ 24 → r ≠ 30 → r ≠ 36 → r ≠ 37 → r ≠ 40 → (sr (mu (mu D 30 0 0) 37 k 1) 36 z) r = C r := fun r a b c d e f => by rw [sr_ne _ _ d, mu_r _ _ _ e, mu_r _ _ _ c, dr r a b f]
  have E30 : ∀ a, a ≠ 0 → (sr (mu (mu D 30 0 0) 37 k 1) 36 z) 30 a = C 30 a := fun a h => by rw [sr_ne _ _ (show 30 ≠ 36 by decide), mu_r _ _ _ (show 30 ≠ 37 by decide), mu_o _ _ h, dr 30 (by omega) (by decide) (by decide)]
  refine ⟨0, D, C 0 6, sr (mu (mu D 30 0 0) 37 k 1) 36 z, cls, ?_, ?_, fun _ => ?_, N, Y, hN.cg (E30 4 (by decide)) (E30 5 (by decide)), ?_, hT.cg (by rw [Er 18 (by omega) (by decide) (by decide) (by decide) (by decide) (by decide)]) (Er 19 (by omega) (by decide) (by decide) (by decide) (by decide) (by decide)) (E30 2 (by decide)) (Er 31 (by omega) (by decide) (by decide) (by decide) (by decide) (by decide)), (hH.cg (Er 23 (by omega) (by decide) (by decide) (by decide) (by decide) (by decide)) (E30 12 (by decide)) (fun r a b => Er r (by omega) (by omega) (by omega) (by omega) (by omega) (by omega)) (Er 35 (by omega) (by decide) (by decide) (by decide) (by decide) (by decide))).mo (by omega), ?_⟩
  · unfold F_X9_save
    rw [f_inL (b := 0) (c := 1) (by decide) (by decide), b2_s, if_pos hx, if_neg (by decide)]
    unfold J_X9_save_16
    rw [ref0, b2_s, if_pos rfl, gi_n (by omega) (by decide), nI_clamp (by omega), nm_s, show (65 : Int32) * nI k = nI (65 * k) from nI_mul 65 k]
    have g' : F_X9_copyPage 33 (0 : Int32) 36 (nI (65 * k)) (mu (mu D 30 0 0) 37 k 1) = some (0, sr (mu (mu D 30 0 0) 37 k 1) 36 z) := g
    rw [g', b2_s, show alen 33 = 65 from rfl, gl_6, cl_6, sr_ne _ _ (show 33 ≠ 36 by decide), e33, ag.1 6 (by decide)]
  · rw [sr_ne _ _ (show 30 ≠ 36 by decide), mu_r _ _ _ (show 30 ≠ 37 by decide), mu_at]
  · rw [sr_ne _ _ (show 40 ≠ 36 by decide), mu_r _ _ _ (show 40 ≠ 37 by decide), mu_r _ _ _ (show 40 ≠ 30 by decide), d40]
  · rw [Er 0 (by omega) (by decide) (by decide) (by decide) (by decide) (by decide), Er 33 (by omega) (by decide) (by decide) (by decide) (by decide) (by decide)]
    exact hS.mo (by omega)
  · intro a ha
    have E24 : (sr (mu (mu D 30 0 0) 37 k 1) 36 z) 24 a = if a = k then 1 else C 24 a := by rw [sr_ne _ _ (show 24 ≠ 36 by decide), mu_r _ _ _ (show 24 ≠ 37 by decide), mu_r _ _ _ (show 24 ≠ 30 by decide), d24]
    have E37 : (sr (mu (mu D 30 0 0) 37 k 1) 36 z) 37 a = if a = k then 1 else C 37 a := by
      rw [sr_ne _ _ (show 37 ≠ 36 by decide)]
      by_cases q : a = k
      · subst q; rw [mu_at, if_pos rfl]
      · rw [mu_o _ _ q, if_neg q, mu_r _ _ _ (show 37 ≠ 30 by decide), dr 37 (by omega) (by decide) (by decide)]
    have E36 : (sr (mu (mu D 30 0 0) 37 k 1) 36 z) 36 = z := sr_same _ _ _
    rw [E24, E37, E36]
    by_cases q : a = k
    · subst q
      rw [if_pos rfl, if_pos rfl]
      refine ⟨rfl, Or.inr rfl, fun _ => ?_⟩
      have E16 : (sr (mu (mu D 30 0 0) 37 a 1) 36 z) (16 + a) = y := by rw [sr_ne _ _ (by omega), mu_r _ _ _ (by omega), mu_r _ _ _ (by omega), d16]
      rw [E16]
      refine ⟨y65, y66, yw.mo (by omega), (ya.tr ag).tr (Agree.of n5 y8 fun b hb => ?_)⟩
      show C 33 b = z (65 * a + b)
      rw [zk, if_pos (by omega), show 0 + (65 * a + b - 65 * a) = b by omega]
    · rw [if_neg q, if_neg q]
      obtain ⟨l1, l2, l3⟩ := hL a ha
      refine ⟨l1, l2, fun e => ?_⟩
      have l4 := (l3 e).mo (show K ≤ K + 96 by omega)
      rw [Er (16 + a) (by omega) (by omega) (by omega) (by omega) (by omega) (by omega)]
      refine ⟨l4.1, l4.2.1, l4.2.2.1, l4.2.2.2.tr (Agree.of n5 y8 fun b hb => ?_)⟩
      show C 36 (65 * a + b) = z (65 * a + b)
      rw [zk, if_neg (by omega)]
theorem p_restore (hI : Inv K C) (x : Int32) : Res K (F_L_restore x C) (F_X9_restore x) := by
  obtain ⟨N, Y, hN, hS, hT, hH, hL⟩ := id hI
  obtain ⟨n1, n5, y2, y8, h4, h5⟩ := id hN
  by_cases hx : 0 ≤ x ∧ x ≤ 1
  case neg =>
    refine res_no hI (c := 1) (w := 0) (by decide) ?_ ?_
    · unfold F_L_restore F_X8_restore
      rw [rqS, b2_s, if_neg hx, el_r, b2_s, el_r, if_pos rfl]
    · unfold F_X9_restore
      rw [f_inL (b := 0) (c := 1) (by decide) (by decide), b2_s, if_neg hx, if_pos rfl]
      unfold J_X9_restore_29
      rw [ref1, b2_s, if_neg (by decide)]
  obtain ⟨k, -, hk, rfl⟩ := in_n (m := 0) (n := 1) rfl rfl hx
  obtain ⟨l1, l2, l3⟩ := hL k (by omega)
  by_cases hz : C 24 k = 0
  case pos =>
    refine res_no hI (c := 2) (w := 0) (by decide) ?_ ?_
    · unfold F_L_restore F_X8_restore
      rw [rqS, b2_s, if_pos hx, el_l]
      rcases (show k = 0 ∨ k = 1 by omega) with q | q
      · subst q
        rw [if_pos (by decide), if_pos hz, b2_s, el_r, if_neg (by decide), if_pos rfl]
      · subst q
        rw [if_neg (by decide), if_pos hz, b2_s, el_r, if_neg (by decide), if_pos rfl]
    · unfold F_X9_restore
      rw [f_inL (b := 0) (c := 1) (by decide) (by decide), b2_s, if_pos hx, if_neg (by decide), gi_n (by omega) (by decide), nI_clamp (by omega), ← l1, if_pos hz]
      unfold J_X9_restore_29
      rw [ref2, b2_s, if_neg (by decide)]
  obtain ⟨s65, s66, sw, sa⟩ := l3 (l2.resolve_left hz)
  obtain ⟨y, ey, y65, y66, yw, ya⟩ := t_c (C := C) (K := K) (q := 0) (q0 := 16 + k) (by omega) s65 s66 n5 y8 sw
  have cls : F_L_restore (nI k) C = some (0, mu (mu (sr C 0 y) 23 2 0) 40 0 (y 6)) := by
    unfold F_L_restore F_X8_restore
    rw [rqS, b2_s, if_pos hx, el_l]
    rcases (show k = 0 ∨ k = 1 by omega) with q | q
    · subst q
      rw [if_pos (by decide), if_neg hz, ey, b2_s]
      unfold F_X2_forgetAll
      rw [nm_s, b2_s, mu_r _ _ _ (show 0 ≠ 23 by decide), sr_same, b2_s, el_l, nm_s]
    · subst q
      rw [if_neg (by decide), if_neg hz, ey, b2_s]
      unfold F_X2_forgetAll
      rw [nm_s, b2_s, mu_r _ _ _ (show 0 ≠ 23 by decide), sr_same, b2_s, el_l, nm_s]
  have dr : ∀ r, r ≠ 0 → r ≠ 23 → r ≠ 40 → (mu (mu (sr C 0 y) 23 2 0) 40 0 (y 6)) r = C r := fun r a b c => by rw [mu_r _ _ _ c, mu_r _ _ _ b, sr_ne _ _ a]
  have d0 : (mu (mu (sr C 0 y) 23 2 0) 40 0 (y 6)) 0 = y := by rw [mu_r _ _ _ (show 0 ≠ 40 by decide), mu_r _ _ _ (show 0 ≠ 23 by decide), sr_same]
  have d23 : (mu (mu (sr C 0 y) 23 2 0) 40 0 (y 6)) 23 1 = C 23 1 ∧ (mu (mu (sr C 0 y) 23 2 0) 40 0 (y 6)) 23 2 = 0 := by
    rw [mu_r _ _ _ (show 23 ≠ 40 by decide), mu_o _ _ (show 1 ≠ 2 by decide), mu_at, sr_ne _ _ (show 23 ≠ 0 by decide)]
    exact ⟨rfl, rfl⟩
  have d40 : (mu (mu (sr C 0 y) 23 2 0) 40 0 (y 6)) 40 0 = y 6 := mu_at _ _ _ _
  generalize mu (mu (sr C 0 y) 23 2 0) 40 0 (y 6) = D at cls dr d0 d23 d40
  have g := g_copyPage (mu D 30 0 0) (r0 := 36) (r2 := 33) (a := 65 * k) (b := 0) (by decide) (by show 65 * k + 65 ≤ 130; omega) (by decide) (by decide) (by decide)
  have e36 : (mu D 30 0 0) 36 = C 36 := by rw [mu_r _ _ _ (show 36 ≠ 30 by decide), dr 36 (by decide) (by decide) (by decide)]
  rw [e36] at g
  have zk : ∀ a, a < 65 → pst (C 36) (65 * k) 0 65 ((mu D 30 0 0) 33) a = C 36 (65 * k + a) := fun a ha => by
    rw [pst_at, if_pos (by omega), show a - 0 = a by omega]
  generalize pst (C 36) (65 * k) 0 65 ((mu D 30 0 0) 33) = z at g zk
  have az : Agree N Y y z := (ya.tr sa).tr (Agree.of n5 y8 fun a ha => (zk a ha).symm)
  have Er : ∀ r, r ≠ 0 → r ≠ 23 → r ≠ 30 → r ≠ 33 → r ≠ 40 → (mu (sr (mu D 30 0 0) 33 z) 30 12 0) r = C r := fun r a b c d e => by rw [mu_r _ _ _ c, sr_ne _ _ d, mu_r _ _ _ c, dr r a b e]
  have E30 : ∀ a, a ≠ 0 → a ≠ 12 → (mu (sr (mu D 30 0 0) 33 z) 30 12 0) 30 a = C 30 a := fun a h h12 => by rw [mu_o _ _ h12, sr_ne _ _ (show 30 ≠ 33 by decide), mu_o _ _ h, dr 30 (by decide) (by decide) (by decide)]
  obtain ⟨P, H, hP, hH14, e1, e2, e12, hst⟩ := hH
  have E23 : (mu (sr (mu D 30 0 0) 33 z) 30 12 0) 23 = D 23 := by rw [mu_r _ _ _ (show 23 ≠ 30 by decide), sr_ne _ _ (show 23 ≠ 33 by decide), mu_r _ _ _ (show 23 ≠ 30 by decide)]
  refine ⟨0, D, y 6, mu (sr (mu D 30 0 0) 33 z) 30 12 0, cls, ?_, ?_, fun _ => ?_, N, Y, hN.cg (E30 4 (by decide) (by decide)) (E30 5 (by decide) (by decide)), ?_, hT.cg (by rw [Er 18 (by decide) (by decide) (by decide) (by decide) (by decide)]) (Er 19 (by decide) (by decide) (by decide) (by decide) (by decide)) (E30 2 (by decide) (by decide)) (Er 31 (by decide) (by decide) (by decide) (by decide) (by decide)), ⟨P, 0, hP, by decide, by rw [E23]; exact d23.1.trans e1, by rw [E23]; exact d23.2, mu_at _ _ _ _, fun j hj => absurd hj (Nat.not_lt_zero j)⟩, (hL.cg (Er 24 (by decide) (by decide) (by decide) (by decide) (by decide)) (Er 37 (by decide) (by decide) (by decide) (by decide) (by decide)) ⟨Er 16 (by decide) (by decide) (by decide) (by decide) (by decide), Er 17 (by decide) (by decide) (by decide) (by decide) (by decide)⟩ (Er 36 (by decide) (by decide) (by decide) (by decide) (by decide))).mo (by omega)⟩
  · unfold F_X9_restore
    rw [f_inL (b := 0) (c := 1) (by decide) (by decide), b2_s, if_pos hx, if_neg (by decide), gi_n (by omega) (by decide), nI_clamp (by omega), dr 37 (by decide) (by decide) (by decide), ← l1, if_neg hz]
    unfold J_X9_restore_29
    rw [ref0, b2_s, if_pos rfl, show (65 : Int32) * nI k = nI (65 * k) from nI_mul 65 k]
    have g' : F_X9_copyPage 36 (nI (65 * k)) 33 (0 : Int32) (mu D 30 0 0) = some (0, sr (mu D 30 0 0) 33 z) := g
    rw [g', b2_s, nm_s, show alen 33 = 65 from rfl, gl_6, cl_6, mu_r _ _ _ (show 33 ≠ 30 by decide), sr_same, az.1 6 (by decide)]
  · rw [mu_o _ _ (by decide), sr_ne _ _ (show 30 ≠ 33 by decide), mu_at]
  · rw [mu_r _ _ _ (show 40 ≠ 30 by decide), sr_ne _ _ (show 40 ≠ 33 by decide), mu_r _ _ _ (show 40 ≠ 30 by decide), d40]
  · rw [mu_r _ _ _ (show 0 ≠ 30 by decide), sr_ne _ _ (show 0 ≠ 33 by decide), mu_r _ _ _ (show 0 ≠ 30 by decide), d0, mu_r _ _ _ (show 33 ≠ 30 by decide), sr_same]
    exact ⟨y65, y66, yw.mo (by omega), az⟩
end KEEP
