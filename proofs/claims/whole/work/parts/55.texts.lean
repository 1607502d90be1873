/-! the text's calls -/
section TEXTS
variable {C : Mem} {K : Nat}
theorem p_append (hI : Inv K C) (x : Int32) : Res K (F_L_append x C) (F_X9_append x) := by
  obtain ⟨N, Y, hN, hS, ⟨T, h60, t1, t2, tx⟩, hH, hL⟩ := id hI
  by_cases hx : 0 ≤ x ∧ x ≤ 255
  case neg =>
    refine res_no hI (c := 1) (w := 0) (by decide) ?_ ?_
    · unfold F_L_append F_X8_append
      rw [rq, b2_s, if_neg hx, el_r, b2_s, el_r, if_pos rfl]
    · unfold F_X9_append
      rw [f_inL (b := 0) (c := 255) (by decide) (by decide), b2_s, if_neg hx, if_pos rfl]
      unfold J_X9_append_31
      rw [ref1, b2_s, if_neg (by decide)]
  by_cases hT : T = 60
  case pos =>
    subst hT
    refine res_no hI (c := 2) (w := 0) (by decide) ?_ ?_
    · unfold F_L_append F_X8_append F_X4_add
      rw [rq, b2_s, if_pos hx, el_l, t1, if_neg (by decide), if_neg (by decide), b2_s, if_pos rfl, b2_s, el_r, if_neg (by decide), if_pos rfl]
    · unfold F_X9_append
      rw [f_inL (b := 0) (c := 255) (by decide) (by decide), b2_s, if_pos hx, if_neg (by decide), t2, if_pos (by decide)]
      unfold J_X9_append_31
      rw [ref2, b2_s, if_neg (by decide)]
  have cls : F_L_append x C = some (0, mu (mu (mu C 19 T x) 18 1 (nI (T + 1))) 40 0 (nI (T + 1))) := by
    unfold F_L_append F_X8_append F_X4_add
    rw [rq, b2_s, if_pos hx, el_l, t1, if_neg (nI_pos (by omega)), if_pos (show nI T < (60 : Int32) from nI_lt (show T < 60 by omega) (by decide)), gi_n (by omega) (by decide), nI_clamp (by omega), nm_s, nm_s, mu_r _ _ _ (show 18 ≠ 19 by decide), t1, nI_1, b2_s, if_neg (by decide), mu_at, b2_s, el_l, nm_s]
  have dr : ∀ r, r ≠ 19 → r ≠ 18 → r ≠ 40 → (mu (mu (mu C 19 T x) 18 1 (nI (T + 1))) 40 0 (nI (T + 1))) r = C r := fun r a b c => by rw [mu_r _ _ _ c, mu_r _ _ _ b, mu_r _ _ _ a]
  have d18 : (mu (mu (mu C 19 T x) 18 1 (nI (T + 1))) 40 0 (nI (T + 1))) 18 1 = nI (T + 1) := by rw [mu_r _ _ _ (show 18 ≠ 40 by decide), mu_at]
  have d19 : ∀ k, (mu (mu (mu C 19 T x) 18 1 (nI (T + 1))) 40 0 (nI (T + 1))) 19 k = if k = T then x else C 19 k := fun k => by
    rw [mu_r _ _ _ (show 19 ≠ 40 by decide), mu_r _ _ _ (show 19 ≠ 18 by decide)]
    by_cases q : k = T
    · subst q; rw [mu_at, if_pos rfl]
    · rw [mu_o _ _ q, if_neg q]
  have d40 : (mu (mu (mu C 19 T x) 18 1 (nI (T + 1))) 40 0 (nI (T + 1))) 40 0 = nI (T + 1) := mu_at _ _ _ _
  generalize mu (mu (mu C 19 T x) 18 1 (nI (T + 1))) 40 0 (nI (T + 1)) = D at cls dr d18 d19 d40
  have d30' : D 30 = C 30 := dr 30 (by decide) (by decide) (by decide)
  have Er : ∀ r, r ≠ 18 → r ≠ 19 → r ≠ 30 → r ≠ 31 → r ≠ 40 → (mu (mu (mu D 30 0 0) 31 T x) 30 2 (nI (T + 1))) r = C r := fun r a b c d e => by rw [mu_r _ _ _ c, mu_r _ _ _ d, mu_r _ _ _ c, dr r b a e]
  have E30 : ∀ a, a ≠ 0 → a ≠ 2 → (mu (mu (mu D 30 0 0) 31 T x) 30 2 (nI (T + 1))) 30 a = C 30 a := fun a h h2 => by rw [mu_o _ _ h2, mu_r _ _ _ (show 30 ≠ 31 by decide), mu_o _ _ h, d30']
  refine ⟨0, D, nI (T + 1), mu (mu (mu D 30 0 0) 31 T x) 30 2 (nI (T + 1)), cls, ?_, ?_, fun _ => ?_, N, Y, hN.cg (E30 4 (by decide) (by decide)) (E30 5 (by decide) (by decide)), ?_, ⟨T + 1, by omega, ?_, mu_at _ _ _ _, fun k hk => ?_⟩, (hH.cg (Er 23 (by decide) (by decide) (by decide) (by decide) (by decide)) (E30 12 (by decide) (by decide)) (fun r a b => Er r (by omega) (by omega) (by omega) (by omega) (by omega)) (Er 35 (by decide) (by decide) (by decide) (by decide) (by decide))).mo (by omega), (hL.cg (Er 24 (by decide) (by decide) (by decide) (by decide) (by decide)) (Er 37 (by decide) (by decide) (by decide) (by decide) (by decide)) ⟨Er 16 (by decide) (by decide) (by decide) (by decide) (by decide), Er 17 (by decide) (by decide) (by decide) (by decide) (by decide)⟩ (Er 36 (by decide) (by decide) (by decide) (by decide) (by decide))).mo (by omega)⟩
  · unfold F_X9_append
    rw [f_inL (b := 0) (c := 255) (by decide) (by decide), b2_s, if_pos hx, if_neg (by decide), d30', t2, if_neg (show ¬ nI T = (60 : Int32) from fun e => hT ((nI_eq (b := 60) (by omega) (by decide)).mp e))]
    unfold J_X9_append_31
    rw [ref0, b2_s, if_pos rfl, mu_o _ _ (show 2 ≠ 0 by decide), d30', t2, show alen 31 = 60 from rfl, gi_n (by omega) (by decide), nI_clamp (by omega), nm_s, nm_s, mu_r _ _ _ (show 30 ≠ 31 by decide), mu_o _ _ (show 2 ≠ 0 by decide), d30', t2, nI_1, mu_at]
  · rw [mu_o _ _ (by decide), mu_r _ _ _ (show 30 ≠ 31 by decide), mu_at]
  · rw [mu_r _ _ _ (show 40 ≠ 30 by decide), mu_r _ _ _ (show 40 ≠ 31 by decide), mu_r _ _ _ (show 40 ≠ 30 by decide), d40]
  · rw [Er 0 (by decide) (by decide) (by decide) (by decide) (by decide), Er 33 (by decide) (by decide) (by decide) (by decide) (by decide)]
    exact hS.mo (by omega)
  · rw [mu_r _ _ _ (show 18 ≠ 30 by decide), mu_r _ _ _ (show 18 ≠ 31 by decide), mu_r _ _ _ (show 18 ≠ 30 by decide), d18]
  · have l : (mu (mu (mu D 30 0 0) 31 T x) 30 2 (nI (T + 1))) 19 k = if k = T then x else C 19 k := by rw [mu_r _ _ _ (show 19 ≠ 30 by decide), mu_r _ _ _ (show 19 ≠ 31 by decide), mu_r _ _ _ (show 19 ≠ 30 by decide), d19]
    have m : (mu (mu (mu D 30 0 0) 31 T x) 30 2 (nI (T + 1))) 31 k = if k = T then x else C 31 k := by
      rw [mu_r _ _ _ (show 31 ≠ 30 by decide)]
      by_cases q : k = T
      · subst q; rw [mu_at, if_pos rfl]
      · rw [mu_o _ _ q, if_neg q, mu_r _ _ _ (show 31 ≠ 30 by decide), dr 31 (by decide) (by decide) (by decide)]
    rw [l, m]
    by_cases q : k = T
    · rw [if_pos q, if_pos q]
    · rw [if_neg q, if_neg q]
      exact tx k (by omega)
theorem p_clear (hI : Inv K C) : ∃ v D E, F_X8_clearText C = some (v, D) ∧ F_X9_clearText D = some (v, E) ∧ Inv (K + 96) E := by
  obtain ⟨N, Y, hN, hS, ⟨T, h60, t1, t2, tx⟩, hH, hL⟩ := id hI
  have Er : ∀ r, r ≠ 18 → r ≠ 30 → (mu (mu (mu C 18 1 0) 30 0 0) 30 2 0) r = C r := fun r a b => by rw [mu_r _ _ _ b, mu_r _ _ _ b, mu_r _ _ _ a]
  have E30 : ∀ a, a ≠ 0 → a ≠ 2 → (mu (mu (mu C 18 1 0) 30 0 0) 30 2 0) 30 a = C 30 a := fun a h h2 => by rw [mu_o _ _ h2, mu_o _ _ h, mu_r _ _ _ (show 30 ≠ 18 by decide)]
  refine ⟨nI T, mu C 18 1 0, mu (mu (mu C 18 1 0) 30 0 0) 30 2 0, ?_, ?_, N, Y, hN.cg (E30 4 (by decide) (by decide)) (E30 5 (by decide) (by decide)), ?_, ⟨0, by decide, ?_, mu_at _ _ _ _, fun k hk => absurd hk (Nat.not_lt_zero k)⟩, (hH.cg (Er 23 (by decide) (by decide)) (E30 12 (by decide) (by decide)) (fun r a b => Er r (by omega) (by omega)) (Er 35 (by decide) (by decide))).mo (by omega), (hL.cg (Er 24 (by decide) (by decide)) (Er 37 (by decide) (by decide)) ⟨Er 16 (by decide) (by decide), Er 17 (by decide) (by decide)⟩ (Er 36 (by decide) (by decide))).mo (by omega)⟩
  · unfold F_X8_clearText
    rw [nm_s, nm_s, t1]
  · unfold F_X9_clearText
    rw [nm_s, nm_s, nm_s, mu_o _ _ (show 2 ≠ 0 by decide), mu_r _ _ _ (show 30 ≠ 18 by decide), t2]
  · rw [Er 0 (by decide) (by decide), Er 33 (by decide) (by decide)]
    exact hS.mo (by omega)
  · rw [mu_r _ _ _ (show 18 ≠ 30 by decide), mu_r _ _ _ (show 18 ≠ 30 by decide), mu_at]
    rfl
theorem p_error (hI : Inv K C) : ∃ v D E, F_X8_errorPosition C = some (v, D) ∧ F_X9_errorPosition D = some (v, E) ∧ Inv (K + 96) E := by
  obtain ⟨N, Y, hN, hS, ⟨T, h60, t1, t2, tx⟩, hH, hL⟩ := id hI
  obtain ⟨D, fr, d1, hr⟩ := c_read (C := C) (x := C 31) t1 h60 tx
  have d30' : D 30 = C 30 := fr 30 (by decide) (by decide) (by decide) (by decide)
  have d31 : D 31 = C 31 := fr 31 (by decide) (by decide) (by decide) (by decide)
  obtain ⟨E, fm, mr⟩ := m_read (C := mu D 30 0 0) (x := C 31) (T := T) (by rw [mu_o _ _ (by decide), d30']; exact t2) h60 (fun k _ => by rw [mu_r _ _ _ (show 31 ≠ 30 by decide), d31])
  have hInv : Inv (K + 96) E := by
    refine (hI.rt ⟨fun r h1 h18 h20 h21 h22 h30 h32 h34 h40 => ?_, ?_, ?_, ?_, ?_, ?_⟩).mo (by omega)
    · rw [fm.1 r h30 h32, mu_r _ _ _ h30, fr r h18 h20 h21 h22]
    · rw [fm.1 18 (by decide) (by decide), mu_r _ _ _ (show 18 ≠ 30 by decide), d1, t1]
    · rw [fm.2 2 (by decide) (by decide) (by decide), mu_o _ _ (by decide), d30']
    · rw [fm.2 4 (by decide) (by decide) (by decide), mu_o _ _ (by decide), d30']
    · rw [fm.2 5 (by decide) (by decide) (by decide), mu_o _ _ (by decide), d30']
    · rw [fm.2 12 (by decide) (by decide) (by decide), mu_o _ _ (by decide), d30']
  unfold F_X8_errorPosition F_X9_errorPosition
  cases h : rd (C 31) T with
  | inl e =>
    rw [h] at hr mr
    refine ⟨nI e, D, E, by rw [hr.1, b2_s], ?_, hInv⟩
    rw [nm_s, mr.1, b2_s, if_pos rfl, mr.2]
  | inr c =>
    rw [h] at hr mr
    refine ⟨-9, D, E, by rw [hr.1, b2_s], ?_, hInv⟩
    rw [nm_s, mr.1, b2_s, if_neg (by decide)]
theorem p_load (hI : Inv K C) : Res K (F_L_load C) F_X9_load := by
  obtain ⟨N, Y, hN, hS, ⟨T, h60, t1, t2, tx⟩, hH, hL⟩ := id hI
  obtain ⟨D, fr, d1, hr⟩ := c_read (C := C) (x := C 31) t1 h60 tx
  have d30' : D 30 = C 30 := fr 30 (by decide) (by decide) (by decide) (by decide)
  have d31 : D 31 = C 31 := fr 31 (by decide) (by decide) (by decide) (by decide)
  cases h : rd (C 31) T with
  | inl e =>
    rw [h] at hr
    obtain ⟨E, fm, mr⟩ := m_read (C := D) (x := C 31) (T := T) (by rw [d30']; exact t2) h60 (fun k _ => by rw [d31])
    rw [h] at mr
    have e9 : ¬ nI e = -9 := nI_n9 (by have := hr.2; omega)
    refine ⟨1, D, 0, mu E 30 0 1, ?_, ?_, mu_at _ _ _ _, fun q => absurd q (by decide), (hI.rt ⟨fun r h1 h18 h20 h21 h22 h30 h32 h34 h40 => ?_, ?_, ?_, ?_, ?_, ?_⟩).mo (by omega)⟩
    · unfold F_L_load F_X8_load
      rw [hr.1, b2_s, if_neg e9, b2_s, el_r, if_pos rfl]
    · unfold F_X9_load
      rw [mr.1, b2_s, if_pos rfl]
      unfold J_X9_load_13
      rw [ref1, b2_s, if_neg (by decide)]
    · rw [mu_r _ _ _ h30, fm.1 r h30 h32, fr r h18 h20 h21 h22]
    · rw [mu_r _ _ _ (show 18 ≠ 30 by decide), fm.1 18 (by decide) (by decide), d1, t1]
    · rw [mu_o _ _ (by decide), fm.2 2 (by decide) (by decide) (by decide), d30']
    · rw [mu_o _ _ (by decide), fm.2 4 (by decide) (by decide) (by decide), d30']
    · rw [mu_o _ _ (by decide), fm.2 5 (by decide) (by decide) (by decide), d30']
    · rw [mu_o _ _ (by decide), fm.2 12 (by decide) (by decide) (by decide), d30']
  | inr c =>
    rw [h] at hr
    have ok := rd_ok h
    have gb := g_beginAs ok hr.2
    have y65 : cpg c.1.2.1 c.1.1.1.1 (bpg c) (D 0) 65 = nI c.1.2.1 := cpg_65 _ _ _ _
    have y66 : cpg c.1.2.1 c.1.1.1.1 (bpg c) (D 0) 66 = nI c.1.1.1.1 := cpg_66 _ _ _ _
    have ya : Agree c.1.2.1 c.1.1.1.1 (cpg c.1.2.1 c.1.1.1.1 (bpg c) (D 0)) (bpg c) := cpg_a _ _ _ _
    generalize cpg c.1.2.1 c.1.1.1.1 (bpg c) (D 0) = y at gb y65 y66 ya
    have cls : F_L_load C = some (0, mu (mu (mu (mu (sr D 0 y) 23 2 0) 24 0 0) 24 1 0) 40 0 (nI c.1.2.1)) := by
      unfold F_L_load F_X8_load F_X2_forgetAll
      rw [hr.1, b2_s, if_pos rfl, gb, b2_s, nm_s, b2_s, nm_s, nm_s, mu_r _ _ _ (show 0 ≠ 24 by decide), mu_r _ _ _ (show 0 ≠ 24 by decide), mu_r _ _ _ (show 0 ≠ 23 by decide), sr_same, y65, b2_s, el_l, nm_s]
    have dr : ∀ r, r ≠ 0 → r ≠ 23 → r ≠ 24 → r ≠ 40 → (mu (mu (mu (mu (sr D 0 y) 23 2 0) 24 0 0) 24 1 0) 40 0 (nI c.1.2.1)) r = D r := fun r a b c d => by rw [mu_r _ _ _ d, mu_r _ _ _ c, mu_r _ _ _ c, mu_r _ _ _ b, sr_ne _ _ a]
    have d0 : (mu (mu (mu (mu (sr D 0 y) 23 2 0) 24 0 0) 24 1 0) 40 0 (nI c.1.2.1)) 0 = y := by rw [mu_r _ _ _ (show 0 ≠ 40 by decide), mu_r _ _ _ (show 0 ≠ 24 by decide), mu_r _ _ _ (show 0 ≠ 24 by decide), mu_r _ _ _ (show 0 ≠ 23 by decide), sr_same]
    have d23 : (mu (mu (mu (mu (sr D 0 y) 23 2 0) 24 0 0) 24 1 0) 40 0 (nI c.1.2.1)) 23 1 = C 23 1 ∧ (mu (mu (mu (mu (sr D 0 y) 23 2 0) 24 0 0) 24 1 0) 40 0 (nI c.1.2.1)) 23 2 = 0 := by
      rw [mu_r _ _ _ (show 23 ≠ 40 by decide), mu_r _ _ _ (show 23 ≠ 24 by decide), mu_r _ _ _ (show 23 ≠ 24 by decide), mu_at, mu_o _ _ (show 1 ≠ 2 by decide), sr_ne _ _ (show 23 ≠ 0 by decide), fr 23 (by decide) (by decide) (by decide) (by decide)]
      exact ⟨rfl, rfl⟩
    have d24 : ∀ k, k < 2 → (mu (mu (mu (mu (sr D 0 y) 23 2 0) 24 0 0) 24 1 0) 40 0 (nI c.1.2.1)) 24 k = 0 := fun k hk => by
      rw [mu_r _ _ _ (show 24 ≠ 40 by decide)]
      rcases (show k = 0 ∨ k = 1 by omega) with q | q
      · subst q; rw [mu_o _ _ (by decide), mu_at]
      · subst q; rw [mu_at]
    have d40 : (mu (mu (mu (mu (sr D 0 y) 23 2 0) 24 0 0) 24 1 0) 40 0 (nI c.1.2.1)) 40 0 = nI c.1.2.1 := mu_at _ _ _ _
    generalize mu (mu (mu (mu (sr D 0 y) 23 2 0) 24 0 0) 24 1 0) 40 0 (nI c.1.2.1) = F at cls dr d0 d23 d24 d40
    have f30 : F 30 = C 30 := (dr 30 (by decide) (by decide) (by decide) (by decide)).trans d30'
    obtain ⟨E, fm, mr⟩ := m_read (C := F) (x := C 31) (T := T) (by rw [f30]; exact t2) h60 (fun k _ => by rw [dr 31 (by decide) (by decide) (by decide) (by decide), d31])
    rw [h] at mr
    obtain ⟨m1, m6, m7, mp⟩ := mr
    -- the model's numbers, its page, its slots
    have g := g_copyPage (mu (mu (mu E 30 0 0) 30 4 (nI c.1.2.1)) 30 5 (nI c.1.1.1.1)) (r0 := 32) (r2 := 33) (a := 0) (b := 0) (by decide) (by decide) (by decide) (by decide) (by decide)
    have e32 : (mu (mu (mu E 30 0 0) 30 4 (nI c.1.2.1)) 30 5 (nI c.1.1.1.1)) 32 = E 32 := by rw [mu_r _ _ _ (show 32 ≠ 30 by decide), mu_r _ _ _ (show 32 ≠ 30 by decide), mu_r _ _ _ (show 32 ≠ 30 by decide)]
    rw [e32] at g
    have zk : ∀ k, k < 65 → pst (E 32) 0 0 65 ((mu (mu (mu E 30 0 0) 30 4 (nI c.1.2.1)) 30 5 (nI c.1.1.1.1)) 33) k = E 32 k := fun k hk => by rw [pst_at, if_pos (by omega), show 0 + (k - 0) = k by omega]
    generalize pst (E 32) 0 0 65 ((mu (mu (mu E 30 0 0) 30 4 (nI c.1.2.1)) 30 5 (nI c.1.1.1.1)) 33) = z at g zk
    obtain ⟨⟨⟨⟨hL28, -⟩, -⟩, hn1, hn5, -⟩, -⟩ := id ok
    have az : Agree c.1.2.1 c.1.1.1.1 z (bpg c) := ⟨fun k hk => by rw [zk k (by omega)]; exact mp k (Or.inl hk), fun j hj => by rw [zk _ (by omega)]; exact mp _ (Or.inr (Or.inl ⟨by omega, by omega⟩)), fun i f hi hf => by rw [zk _ (by omega)]; exact mp _ (Or.inr (Or.inr ⟨i, f, hi, hf, rfl⟩))⟩
    let W : Mem := mu (mu (mu (sr (mu (mu (mu E 30 0 0) 30 4 (nI c.1.2.1)) 30 5 (nI c.1.1.1.1)) 33 z) 30 12 0) 37 0 0) 37 1 0
    have hW : W = mu (mu (mu (sr (mu (mu (mu E 30 0 0) 30 4 (nI c.1.2.1)) 30 5 (nI c.1.1.1.1)) 33 z) 30 12 0) 37 0 0) 37 1 0 := rfl
    have Wr : ∀ r, r ≠ 30 → r ≠ 33 → r ≠ 37 → W r = E r := fun r a b d => by rw [hW, mu_r _ _ _ d, mu_r _ _ _ d, mu_r _ _ _ a, sr_ne _ _ b, mu_r _ _ _ a, mu_r _ _ _ a, mu_r _ _ _ a]
    have W33 : W 33 = z := by rw [hW, mu_r _ _ _ (show 33 ≠ 37 by decide), mu_r _ _ _ (show 33 ≠ 37 by decide), mu_r _ _ _ (show 33 ≠ 30 by decide), sr_same]
    have W30 : ∀ k, k ≠ 0 → k ≠ 4 → k ≠ 5 → k ≠ 12 → W 30 k = E 30 k := fun k a b d e => by rw [hW, mu_r _ _ _ (show 30 ≠ 37 by decide), mu_r _ _ _ (show 30 ≠ 37 by decide), mu_o _ _ e, sr_ne _ _ (show 30 ≠ 33 by decide), mu_o _ _ d, mu_o _ _ b, mu_o _ _ a]
    have W0 : W 30 0 = 0 := by rw [hW, mu_r _ _ _ (show 30 ≠ 37 by decide), mu_r _ _ _ (show 30 ≠ 37 by decide), mu_o _ _ (by decide), sr_ne _ _ (show 30 ≠ 33 by decide), mu_o _ _ (by decide), mu_o _ _ (by decide), mu_at]
    have W4 : W 30 4 = nI c.1.2.1 := by rw [hW, mu_r _ _ _ (show 30 ≠ 37 by decide), mu_r _ _ _ (show 30 ≠ 37 by decide), mu_o _ _ (by decide), sr_ne _ _ (show 30 ≠ 33 by decide), mu_o _ _ (by decide), mu_at]
    have W5 : W 30 5 = nI c.1.1.1.1 := by rw [hW, mu_r _ _ _ (show 30 ≠ 37 by decide), mu_r _ _ _ (show 30 ≠ 37 by decide), mu_o _ _ (by decide), sr_ne _ _ (show 30 ≠ 33 by decide), mu_at]
    have W12 : W 30 12 = 0 := by rw [hW, mu_r _ _ _ (show 30 ≠ 37 by decide), mu_r _ _ _ (show 30 ≠ 37 by decide), mu_at]
    have W37 : ∀ k, k < 2 → W 37 k = 0 := fun k hk => by
      rw [hW]
      rcases (show k = 0 ∨ k = 1 by omega) with q | q
      · subst q; rw [mu_o _ _ (by decide), mu_at]
      · subst q; rw [mu_at]
    obtain ⟨P, H, hP, hH14, e1, e2, e12, hst⟩ := hH
    refine ⟨0, F, nI c.1.2.1, W, cls, ?_, W0, fun _ => ?_, c.1.2.1, c.1.1.1.1, ⟨hn1, hn5, hL28.1, hL28.2, W4, W5⟩, ?_, ⟨T, h60, ?_, ?_, fun k hk => ?_⟩, ⟨P, 0, hP, by decide, ?_, ?_, W12, fun j hj => absurd hj (Nat.not_lt_zero j)⟩, fun k hk => ⟨?_, Or.inl ?_, fun q => absurd q ?_⟩⟩
    · unfold F_X9_load
      rw [m1, b2_s, if_neg (by decide)]
      unfold J_X9_load_13
      rw [ref0, b2_s, if_pos rfl, nm_s, nm_s, mu_o _ _ (show 6 ≠ 0 by decide), m6, mu_o _ _ (show 7 ≠ 4 by decide), mu_o _ _ (show 7 ≠ 0 by decide), m7]
      have g' : F_X9_copyPage 32 (0 : Int32) 33 (0 : Int32) (mu (mu (mu E 30 0 0) 30 4 (nI c.1.2.1)) 30 5 (nI c.1.1.1.1)) = some (0, sr (mu (mu (mu E 30 0 0) 30 4 (nI c.1.2.1)) 30 5 (nI c.1.1.1.1)) 33 z) := g
      rw [g', b2_s, nm_s, nm_s, nm_s, cl_0, cl_1, ← hW, W4]
    · rw [Wr 40 (by decide) (by decide) (by decide), fm.1 40 (by decide) (by decide), d40]
    · rw [Wr 0 (by decide) (by decide) (by decide), fm.1 0 (by decide) (by decide), d0, W33]
      exact ⟨y65, y66, (bpg_wf ok _).ag ya, ya.tr az.sy⟩
    · rw [Wr 18 (by decide) (by decide) (by decide), fm.1 18 (by decide) (by decide), dr 18 (by decide) (by decide) (by decide) (by decide), d1]
    · rw [W30 2 (by decide) (by decide) (by decide) (by decide), fm.2 2 (by decide) (by decide) (by decide), f30]
      exact t2
    · rw [Wr 19 (by decide) (by decide) (by decide), fm.1 19 (by decide) (by decide), dr 19 (by decide) (by decide) (by decide) (by decide), fr 19 (by decide) (by decide) (by decide) (by decide), Wr 31 (by decide) (by decide) (by decide), fm.1 31 (by decide) (by decide), dr 31 (by decide) (by decide) (by decide) (by decide), d31]
      exact tx k hk
    · rw [Wr 23 (by decide) (by decide) (by decide), fm.1 23 (by decide) (by decide), d23.1]
      exact e1
    · rw [Wr 23 (by decide) (by decide) (by decide), fm.1 23 (by decide) (by decide), d23.2]
      rfl
    · rw [Wr 24 (by decide) (by decide) (by decide), fm.1 24 (by decide) (by decide), d24 k hk, W37 k hk]
    · rw [Wr 24 (by decide) (by decide) (by decide), fm.1 24 (by decide) (by decide), d24 k hk]
    · rw [Wr 24 (by decide) (by decide) (by decide), fm.1 24 (by decide) (by decide), d24 k hk]
      decide
end TEXTS
