/-! the law, the whole of it -/
section LAWOK
variable {C D : Mem} {N Y K : Nat} {z : Pg} {H : Nat} {hf : Nat → Pg} {s : Nat → Option Pg} {T : Nat} {xs : Nat → Int32} {L : Nat}
def c0 : TC := ((((4, 50), 50), (1, fun _ => (10, 0))), fun _ => 40)
theorem ok_c0 : Ok c0 := ⟨⟨⟨⟨⟨by decide, by decide⟩, by decide⟩, by decide⟩, by decide, by decide, fun _ _ => ⟨(by decide : (10 : Nat) ≤ 30), (by decide : (0 : Nat) ≤ 1)⟩⟩, fun _ _ => (by decide : (40 : Nat) ≤ 99)⟩
theorem a7_c0 : A7 c0 C0 := ⟨⟨⟨⟨rfl, rfl⟩, rfl⟩, rfl, fun j hj => by
  have : j = 0 := by
    have : j < 1 := hj
    omega
  subst this
  exact ⟨rfl, rfl⟩⟩, fun a ha => by
  have ha' : a < 4 := ha
  show (if a < 8 then (40 : Int32) else 0) = _
  rw [if_pos (by omega)]
  rfl⟩
theorem zu_start : Zu 1 4 0 (bpg c0) 0 (fun _ => bpg c0) (s0 0) (sr C0 0 (cpg 1 4 (bpg c0) (C0 0))) := by
  have r : ∀ q, q ≠ 0 → (sr C0 0 (cpg 1 4 (bpg c0) (C0 0))) q = C0 q := fun q a => sr_ne _ _ a
  have ya : Agree 1 4 (cpg 1 4 (bpg c0) (C0 0)) (bpg c0) := cpg_a _ _ _ _
  refine ⟨⟨⟨⟨by decide, by decide⟩, by decide, by decide⟩, by rw [sr_same]; exact ⟨⟨cpg_65 _ _ _ _, cpg_66 _ _ _ _, (bpg_wf ok_c0 0).ag ya, ya⟩, bpg_sd ok_c0 0⟩⟩, ⟨by decide, 0, by decide, by rw [r 23 (by decide)]; rfl, by rw [r 23 (by decide)]; rfl, fun j hj => absurd hj (Nat.not_lt_zero _)⟩, fun k hk => ⟨fun _ => by rw [r 24 (by decide)]; rfl, fun w e => ?_⟩, fun w e => ?_⟩
  · unfold s0 at e
    rw [if_neg (by omega)] at e
    cases e
  · unfold s0 at e
    rw [if_pos rfl] at e
    cases e
    rw [r 18 (by decide)]
    rfl
/-- both stand for the same -/
def Bth (K : Nat) (C D : Mem) : Prop := ∃ N Y z H hf s T, Zu N Y K z H hf s C ∧ Zu N Y K z H hf s D ∧ s 2 = some (fun _ => nI T)
theorem Bth.mo {L : Nat} (h : Bth K C D) (hK : K ≤ L) : Bth L C D := by
  obtain ⟨N, Y, z, H, hf, s, T, a, b, c⟩ := h
  exact ⟨N, Y, z, H, hf, s, T, a.mo hK, b.mo hK, c⟩
theorem k_235 (hC : Zu N Y K z H hf s C) (hD : Zu N Y K z H hf s D) (hs : s 2 = some (fun _ => nI T)) (hK : K < 500000) {X1 X2 : Nat} (h1 : X1 < 2147483648) (h2 : X2 < 2147483648) {j : Nat} (hj : j < 12) : ∃ C' D', J_L_law_235 (nI j) (nI X1) (nI X2) 1 C D = some (.inl (1, nI (j + 1), C', D')) ∧ Bth (K + 20) C' D' := by
  by_cases c : nI j - nI j / (4 : Int32) * (4 : Int32) = (3 : Int32)
  · obtain ⟨C1, e1, k1⟩ := scripts_ok hC.1 (by omega) h1
    have z1 := hC.kt k1
    obtain ⟨D1, e2, y1⟩ := at_save hD (k := 0) (by decide)
    obtain ⟨C2, e3, z2⟩ := at_save z1 (k := 0) (by decide)
    obtain ⟨C3, e4, z3⟩ := at_restore z2 (k := 0) (by decide) rfl
    obtain ⟨C4, hf4, e5, z4⟩ := hands_ok z3 (by omega) h2
    obtain ⟨C5, z', H', hf5, e6, z5⟩ := ticks_ok z4 (by omega) h2
    obtain ⟨C6, e7, z6⟩ := at_restore z5 (k := 0) (by decide) rfl
    obtain ⟨D2, e8, y2⟩ := at_restore y1 (k := 0) (by decide) rfl
    have u := at_undo0 z6
    have al := alike_ok z6.1 y2.1
    have e2' : F_L_trySave (0 : Int32) D = some (z 6, D1) := e2
    have e3' : F_L_trySave (0 : Int32) C1 = some (z 6, C2) := e3
    have e4' : F_L_tryRestore (0 : Int32) C2 = some (z 6, C3) := e4
    have e7' : F_L_tryRestore (0 : Int32) C5 = some (z 6, C6) := e7
    have e8' : F_L_tryRestore (0 : Int32) D1 = some (z 6, D2) := e8
    refine ⟨C6, D2, ?_, N, Y, z, 0, hf, (fun a => if a = 0 then some z else s a), T, (z6.hz hf).sl (fun k hk => ?_), (y2.hz hf).mo (by omega), ?_⟩
    · unfold J_L_law_235
      rw [if_pos c, if_neg (by decide), ta_8 hC.1, b2_s, e1, b2_s, if_neg (by decide), e2', b2_s, if_pos rfl, e3', b2_s, if_pos rfl, e4', b2_s, if_pos rfl, e5, b2_s, if_neg (by decide), e6, b2_s, if_neg (by decide), e7', b2_s, if_pos rfl, e8', b2_s, if_pos rfl, u, b2_s, if_pos rfl, al, b3_s, if_neg (by decide), nm_s, nI_1]
    · by_cases q : k = 0
      · rw [q]; rfl
      · show (if k = 0 then some z else s k) = (if k = 0 then some z else if k = 0 then some z else s k)
        rw [if_neg q, if_neg q]
    · show (if 2 = 0 then some z else s 2) = _
      rw [if_neg (by decide)]
      exact hs
  · refine ⟨C, D, ?_, N, Y, z, H, hf, s, T, hC.mo (by omega), hD.mo (by omega), hs⟩
    unfold J_L_law_235
    rw [if_neg c, nm_s, nI_1]
theorem k_140 {g : Nat → Nat} (hg : ∀ n, n < 1000 → g n < 2147483648 ∧ ∀ C D, F_L_number xs L (nI n) C D = some (nI (g n), C, D)) (h : Bth K C D) (hK : K < 400000) {i j : Nat} (hi : i < 2) (hj : j < 12) : ∃ C' D', S_L_law_140 xs L (nI i) 1 (nI j) C D = some (.inl (1, nI (j + 1), C', D')) ∧ Bth (K + 116) C' D' := by
  obtain ⟨N, Y, z, H, hf, s, T, hC, hD, hs⟩ := h
  obtain ⟨g1, e1⟩ := hg (40 * i + 8 + 2 * j) (by omega)
  obtain ⟨g2, e2⟩ := hg (40 * i + 9 + 2 * j) (by omega)
  obtain ⟨v, z', H', hf', s', es, ac⟩ := act_ok (z := z) (H := H) (hf := hf) (s := s) hC.1.1 (show K < 800000 by omega) (nI (g (40 * i + 8 + 2 * j))) g2
  obtain ⟨C1, a1, hC1⟩ := ac C hC
  obtain ⟨D1, a2, hD1⟩ := ac D hD
  obtain ⟨C', D', e5, hB⟩ := k_235 hC1 hD1 (es.trans hs) (by omega) g1 g2 hj
  have n1 : ((40 : Int32) * nI i + (8 : Int32)) + (2 : Int32) * nI j = nI (40 * i + 8 + 2 * j) := by
    rw [show (40 : Int32) * nI i = nI (40 * i) from nI_mul 40 i, show nI (40 * i) + (8 : Int32) = nI (40 * i + 8) from nI_ad _ 8, show (2 : Int32) * nI j = nI (2 * j) from nI_mul 2 j, nI_ad]
  have n2 : ((40 : Int32) * nI i + (9 : Int32)) + (2 : Int32) * nI j = nI (40 * i + 9 + 2 * j) := by
    rw [show (40 : Int32) * nI i = nI (40 * i) from nI_mul 40 i, show nI (40 * i) + (9 : Int32) = nI (40 * i + 9) from nI_ad _ 9, show (2 : Int32) * nI j = nI (2 * j) from nI_mul 2 j, nI_ad]
  refine ⟨C', D', ?_, hB.mo (by omega)⟩
  unfold S_L_law_140
  rw [if_neg (show ¬ (12 : Int32) ≤ nI j from nI_ge hj (by decide)), if_neg (by decide), n1, n2, e1, b3_s, e2, b3_s, a1, b2_s, a2, b2_s, if_pos rfl, refuses_ok hD1.1, b2_s, if_neg (by decide), alike_ok hC1.1 hD1.1, b3_s, if_neg (by decide), sound_ok hC1.1 (by omega), b2_s, if_neg (by decide), e5]
theorem k_140L {g : Nat → Nat} (hg : ∀ n, n < 1000 → g n < 2147483648 ∧ ∀ C D, F_L_number xs L (nI n) C D = some (nI (g n), C, D)) {i : Nat} (hi : i < 2) : ∀ (k j : Nat) (C D : Mem) (m : Nat), j + k = 12 → Bth (116 * j) C D → ∃ C' D', iter (fun x => S_L_law_140 xs L (nI i) x.1 x.2.1 x.2.2.1 x.2.2.2) (k + 1 + m) ((1 : Int32), nI j, C, D) = some (1, nI 12, C', D') ∧ Bth (116 * 12) C' D' := by
  intro k
  induction k with
  | zero =>
    intro j C D m e h
    have : j = 12 := by omega
    subst this
    refine ⟨C, D, ?_, h⟩
    rw [show 0 + 1 + m = m + 1 by omega]
    refine iter_e _ ?_ m
    show S_L_law_140 xs L (nI i) 1 (nI 12) C D = _
    unfold S_L_law_140
    rw [if_pos (by decide)]
  | succ k ih =>
    intro j C D m e h
    obtain ⟨C1, D1, e1, h1⟩ := k_140 hg h (by omega) hi (show j < 12 by omega)
    obtain ⟨C', D', e2, h2⟩ := ih (j + 1) C1 D1 m (by omega) (h1.mo (by omega))
    refine ⟨C', D', ?_, h2⟩
    rw [show k + 1 + 1 + m = (k + 1 + m) + 1 by omega]
    exact (iter_s _ e1 _).trans e2
theorem k_85 (hL : L ≤ 260) (h : Bth K C D) {i : Nat} (hi : i < 2) : ∃ C' D', S_L_law_85 xs L 1 (nI i) C D = some (.inl (1, nI (i + 1), C', D')) ∧ Bth (116 * 12) C' D' := by
  obtain ⟨g, hg⟩ := nums_ok xs L hL
  obtain ⟨N, Y, z, H, hf, s, T, hC, hD, hs⟩ := h
  obtain ⟨C1, D1, n, v, z', T', e1, hC1, hD1⟩ := told_ok (xs := xs) hL hC hD hs (q := 40 * i) (by omega) 0 (fun _ => z)
  obtain ⟨C', D', e2, hB⟩ := k_140L hg hi 12 0 C1 D1 0 rfl (show Bth (116 * 0) C1 D1 from ⟨n, v, z', 0, _, _, T', hC1, hD1, rfl⟩)
  have e2' : iter (fun x => S_L_law_140 xs L (nI i) x.1 x.2.1 x.2.2.1 x.2.2.2) 13 ((1 : Int32), (0 : Int32), C1, D1) = some (1, nI 12, C', D') := e2
  refine ⟨C', D', ?_, hB⟩
  unfold S_L_law_85
  rw [if_neg (show ¬ (2 : Int32) ≤ nI i from nI_ge hi (by decide)), if_neg (by decide), show (40 : Int32) * nI i = nI (40 * i) from nI_mul 40 i, e1, b3_s, if_neg (by decide), refuses_ok hD1.1, b2_s, if_neg (by decide), alike_ok hC1.1 hD1.1, b3_s, if_neg (by decide), sound_ok hC1.1 (by decide), b2_s, if_neg (by decide)]
  unfold J_L_law_136
  rw [e2', b1_s, u4_s, nm_s, nI_1]
theorem law_ok (hL : L ≤ 260) : ∃ CL DL, F_L_law xs L (sr C0 0 (cpg 1 4 (bpg c0) (C0 0))) (sr C0 0 (cpg 1 4 (bpg c0) (C0 0))) = some (1, CL, DL) := by
  have hz := zu_start
  generalize sr C0 0 (cpg 1 4 (bpg c0) (C0 0)) = C at hz
  have c1 : C 18 1 = nI 0 := hz.2.2.2 (fun _ => nI 0) rfl
  have tx : Tx 0 (fun _ => 0) C := ⟨by decide, c1, fun k hk => absurd hk (Nat.not_lt_zero _)⟩
  have r0 : rd (fun _ => 0) 0 = .inl 0 := rd_4 rfl
  obtain ⟨C1, e1, t1, k1⟩ := er_l tx r0
  have e1' : F_X8_errorPosition C = some (0, C1) := e1
  have z1 : Zu 1 4 0 (bpg c0) 0 (fun _ => bpg c0) (s0 0) C1 := hz.ke k1 (fun w e => by
    unfold s0 at e
    rw [if_pos rfl] at e
    cases e
    exact t1.2.1)
  have av : avg 4 (bpg c0) = 40 := by decide +kernel
  have a6 := ta_6 z1.1
  have a9 := ta_9 z1.1
  rw [av] at a9
  have a6' : F_L_tryAbout (6 : Int32) C1 = some (1, C1) := a6
  have hb : Bth 0 C1 C := ⟨1, 4, bpg c0, 0, _, s0 0, 0, z1, hz, rfl⟩
  obtain ⟨C2, D2, e2, h2⟩ := k_85 (xs := xs) hL hb (i := 0) (by decide)
  obtain ⟨C3, D3, e3, h3⟩ := k_85 (xs := xs) hL h2 (i := 1) (by decide)
  have s0' : (fun (x : Int32 × Int32 × Mem × Mem) => S_L_law_85 xs L x.1 x.2.1 x.2.2.1 x.2.2.2) ((1 : Int32), (0 : Int32), C1, C) = some (.inl (1, nI 1, C2, D2)) := e2
  have s1' : (fun (x : Int32 × Int32 × Mem × Mem) => S_L_law_85 xs L x.1 x.2.1 x.2.2.1 x.2.2.2) ((1 : Int32), nI 1, C2, D2) = some (.inl (1, nI 2, C3, D3)) := e3
  have s2' : (fun (x : Int32 × Int32 × Mem × Mem) => S_L_law_85 xs L x.1 x.2.1 x.2.2.1 x.2.2.2) ((1 : Int32), nI 2, C3, D3) = some (.inr (1, nI 2, C3, D3)) := by
    show S_L_law_85 xs L 1 (nI 2) C3 D3 = _
    unfold S_L_law_85
    rw [if_pos (by decide)]
  have it : iter (fun x => S_L_law_85 xs L x.1 x.2.1 x.2.2.1 x.2.2.2) 3 ((1 : Int32), (0 : Int32), C1, C) = some (1, nI 2, C3, D3) := (iter_s _ s0' 2).trans ((iter_s _ s1' 1).trans (iter_e _ s2' 0))
  refine ⟨C3, D3, ?_⟩
  unfold F_L_law
  rw [e1', b2_s, if_pos rfl, a6', b2_s, if_pos rfl, a9, b2_s, if_pos rfl, at_undo0 z1, b2_s, if_pos rfl, refuses_ok hz.1, b2_s, if_neg (by decide), alike_ok z1.1 hz.1, b3_s, if_neg (by decide), sound_ok z1.1 (by decide), b2_s, if_neg (by decide)]
  unfold J_L_law_81
  rw [it, b1_s, u4_s, go_1]
end LAWOK
