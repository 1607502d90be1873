/-! hands, the smallest set and the rest -/
section HANDS2
variable {C : Mem} {N Y K : Nat} {z : Pg} {H : Nat} {hf : Nat → Pg} {s : Nat → Option Pg}
theorem sm_add (g k : Nat → Int32) : ∀ n : Nat, sm (fun i => g i + k i) n = sm g n + sm k n
  | 0 => by show (0 : Int32) = 0 + 0; rfl
  | n + 1 => by
    show sm (fun i => g i + k i) n + (g n + k n) = (sm g n + g n) + (sm k n + k n)
    rw [sm_add g k n]
    grind
def bt (b : Int32) (i : Nat) : Prop := ((b >>> (nI i &&& 31)) &&& 1) = 1
def bpw (b : Int32) (z : Pg) (i : Nat) : Int32 := if ((b >>> (nI i &&& 31)) &&& 1) = 1 then z (30 + 7 * i) else 0
def bct (b : Int32) (i : Nat) : Int32 := if ((b >>> (nI i &&& 31)) &&& 1) = 1 then 1 else 0
def bfl (b : Int32) (z : Pg) (c : Int32) (i : Nat) : Int32 := if ((b >>> (nI i &&& 31)) &&& 1) = 1 ∧ z (30 + 7 * i + 1) = c then z (30 + 7 * i) else 0
def bF (b : Int32) (z : Pg) (i : Nat) (F : Nat → Int32) : Nat → Int32 := if ((b >>> (nI i &&& 31)) &&& 1) = 1 then up F (fiS z i) (F (fiS z i) + z (30 + 7 * i)) else F
theorem bF_ok {b : Int32} (w : WF N Y K z) : ∀ n, n ≤ N → fe (bF b z) n (fun _ => 0) 0 = sm (bfl b z 0) n ∧ fe (bF b z) n (fun _ => 0) 1 = sm (bfl b z 1) n := fun n hn =>
  fe_inv (f := bF b z) (I := fun i (F : Nat → Int32) => F 0 = sm (bfl b z 0) i ∧ F 1 = sm (bfl b z 1) i) (t := fun _ => 0) (n := n) ⟨rfl, rfl⟩ fun i F hi h => by
    have ef := b1_fi w (show i < N by omega)
    have h1 : F 0 = sm (bfl b z 0) i := h.1
    have h2 : F 1 = sm (bfl b z 1) i := h.2
    show bF b z i F 0 = sm (bfl b z 0) i + bfl b z 0 i ∧ bF b z i F 1 = sm (bfl b z 1) i + bfl b z 1 i
    unfold bF bfl
    rw [ef]
    by_cases c : ((b >>> (nI i &&& 31)) &&& 1) = 1
    · rw [if_pos c]
      rcases (show fiS z i = 0 ∨ fiS z i = 1 by have := fiS_lt z i; omega) with q | q
      · rw [q, up_same, up_ne _ _ (by decide), if_pos ⟨c, rfl⟩, if_neg (fun r => absurd r.2 (by decide)), Int32.add_zero, h1]
        exact ⟨rfl, h2⟩
      · rw [q, up_same, up_ne _ _ (by decide), if_neg (fun r => absurd r.2 (by decide)), if_pos ⟨c, rfl⟩, Int32.add_zero, h2]
        exact ⟨h1, rfl⟩
    · rw [if_neg c, if_neg (fun r => c r.1), if_neg (fun r => c r.1), Int32.add_zero, Int32.add_zero]
      exact ⟨h1, h2⟩
theorem h407 (h : Ob N Y K z C) {b : Nat} (hb : b < 1000) : ∃ F, iter (fun x => S_L_hands_407 (nI N) (nI b) x.1 x.2.1 x.2.2.1 x.2.2.2.1 x.2.2.2.2) 6 ((0 : Int32), (0 : Int32), (0 : Int32), C, (fun _ => 0)) = some (pwA N (nI b) z, mnS N (nI b), nI N, C, F) ∧ F 0 = pwS N 0 (nI b) z ∧ F 1 = pwS N 1 (nI b) z := by
  have n5 := h.1.1.2
  have w := h.wz
  have hF := bF_ok (b := nI b) w N (Nat.le_refl N)
  refine ⟨fe (bF (nI b) z) N (fun _ => 0), ?_, hF.1, hF.2⟩
  have ep : pwA N (nI b) z = sm (bpw (nI b) z) N := by
    unfold pwA pwS
    rw [← sm_add]
    refine sm_cong fun i hi => ?_
    have ef := b1_fi w hi
    unfold bpw
    rw [ef]
    by_cases c : ((nI b >>> (nI i &&& 31)) &&& 1) = 1
    · rw [if_pos c]
      rcases (show fiS z i = 0 ∨ fiS z i = 1 by have := fiS_lt z i; omega) with q | q
      · rw [q, if_pos ⟨c, rfl⟩, if_neg (fun r => absurd r.2 (by decide)), Int32.add_zero]
      · rw [q, if_neg (fun r => absurd r.2 (by decide)), if_pos ⟨c, rfl⟩, Int32.zero_add]
    · rw [if_neg c, if_neg (fun r => c r.1), if_neg (fun r => c r.1)]
      rfl
  rw [ep]
  refine iter_embF (fun i F => (sm (bpw (nI b) z) i, sm (bct (nI b)) i, nI i, C, F)) (bF (nI b) z) (fun _ _ => True) (fun F => (sm (bpw (nI b) z) N, mnS N (nI b), nI N, C, F)) (by omega) trivial (fun i F hi _ => ⟨?_, trivial⟩) (fun F _ => ?_)
  · show S_L_hands_407 (nI N) (nI b) (sm (bpw (nI b) z) i) (sm (bct (nI b)) i) (nI i) C F = some (.inl (sm (bpw (nI b) z) i + bpw (nI b) z i, sm (bct (nI b)) i + bct (nI b) i, nI (i + 1), C, bF (nI b) z i F))
    unfold S_L_hands_407 bpw bct bF
    rw [if_neg (nI_ge hi (by omega)), if_neg (nI_ne9 hb)]
    by_cases c : ((nI b >>> (nI i &&& 31)) &&& 1) = 1
    · rw [if_pos c, if_pos c, if_pos c, if_pos c, tb_0 h hi, b2_s, nm_s, nm_s, tb_1 h hi, b2_s, b1_fi w hi, gi_n (fiS_lt z i) (by decide), tb_0 h hi, b2_s, gi_n (fiS_lt z i) (by decide), nI_clamp (by have := fiS_lt z i; omega), nm_s, nm_s, nI_1]
    · rw [if_neg c, if_neg c, if_neg c, if_neg c, nm_s, nI_1, Int32.add_zero, Int32.add_zero]
  · show S_L_hands_407 (nI N) (nI b) (sm (bpw (nI b) z) N) (sm (bct (nI b)) N) (nI N) C F = _
    unfold S_L_hands_407
    rw [if_pos (nI_le (Nat.le_refl _) (by omega))]
    rfl
theorem h407_9 (h : Ob N Y K z C) : iter (fun x => S_L_hands_407 (nI N) (-9 : Int32) x.1 x.2.1 x.2.2.1 x.2.2.2.1 x.2.2.2.2) 6 ((0 : Int32), (0 : Int32), (0 : Int32), C, (fun _ => 0)) = some (0, 0, 0, C, (fun _ => 0)) := by
  have n1 := h.1.1.1
  have n5 := h.1.1.2
  refine iter_e _ ?_ 5
  show S_L_hands_407 (nI N) (-9 : Int32) 0 0 0 C (fun _ => 0) = _
  unfold S_L_hands_407
  rw [if_neg (show ¬ nI N ≤ 0 by rw [fa_le, ti N (by omega)]; have e0 : (0 : Int32).toInt = 0 := rfl; omega), if_pos rfl]
theorem h371 (h : Zu N Y K z 0 hf s C) (hs : s 0 = some z) (hK : K < 700000) {X : Nat} (hX : X < 2147483648) : ∃ D hf', J_L_hands_371 (nI X) (nI N) (z 6) 1 C = some (1, D) ∧ Zu N Y K z 0 hf' s D := by
  have n5 := h.1.1.1.2
  obtain ⟨D, hf', e5, h5⟩ := h576 h hs hK hX
  refine ⟨D, hf', ?_, h5⟩
  have e16 : (1 : Int32) + (nI X / (16 : Int32) - nI X / (16 : Int32) / (80 : Int32) * (80 : Int32)) = nI (1 + X / 16 % 80) := by
    rw [show nI X / (16 : Int32) = nI (X / 16) from dv hX (d := 16) (by decide) (by decide), show nI (X / 16) - nI (X / 16) / (80 : Int32) * (80 : Int32) = nI (X / 16 % 80) from md (by omega) (d := 80) (by decide) (by decide)]
    exact nI_ad 1 (X / 16 % 80)
  have hx1 : 1 ≤ 1 + X / 16 % 80 := by omega
  have hx : 1 + X / 16 % 80 ≤ 80 := by omega
  generalize 1 + X / 16 % 80 = x at *
  unfold J_L_hands_371
  rw [e16, nm_s, to_m h.1 hx1 (show x ≤ 150 by omega) 1, b2_s]
  by_cases c : bss N (nI x) z = 0
  · rw [if_pos c, h407_9 h.1, b1_s, u5_s, if_neg (by decide), if_pos rfl, to_m h.1 hx1 (show x ≤ 150 by omega) 0, b2_s, if_pos c, if_pos rfl, if_neg (show ¬ nI x = (150 : Int32) from fun q => by
      have := congrArg Int32.toInt q
      rw [ti x (by omega)] at this
      have e0 : (150 : Int32).toInt = 150 := rfl
      omega), nI_1, to_m h.1 (x := x + 1) (by omega) (by omega) 1, b2_s, if_pos (bss_up (by omega) c), if_pos rfl, e5]
  · obtain ⟨ok, hle⟩ := (bss_ok (N := N) (nI x) z).2 c
    obtain ⟨o1, o2, o3⟩ := okB_t.mp ok
    have t2 := (two_n N (by omega)).2
    have hlt : bss N (nI x) z < 2 ^ N := by omega
    have mp := mnS_pos N (by omega) _ hlt c
    obtain ⟨F, eF, F0, F1⟩ := h407 h.1 (b := bss N (nI x) z) (by omega)
    rw [if_neg c, if_neg (by decide), eF, b1_s, u5_s, if_neg (by decide), if_neg (nI_ne9 (show bss N (nI x) z < 1000 by omega)), to_m h.1 hx1 (show x ≤ 150 by omega) 0, b2_s, if_neg c, if_pos rfl, if_pos rfl, if_neg o1, if_neg mp]
    have f0 : F_L_tryFlue (0 : Int32) (0 : Int32) C = some (z 18, C) := tf_0 h.1 (f := 0) (by decide)
    have f1 : F_L_tryFlue (1 : Int32) (0 : Int32) C = some (z 19, C) := tf_0 h.1 (f := 1) (by decide)
    rw [f0, b2_s, if_neg (show ¬ z 18 < F ((0 : Int32)).toNatClampNeg by rw [show ((0 : Int32)).toNatClampNeg = 0 from rfl, F0]; exact o2), f1, b2_s, if_neg (show ¬ z 19 < F ((1 : Int32)).toNatClampNeg by rw [show ((1 : Int32)).toNatClampNeg = 1 from rfl, F1]; exact o3), e5]
/-- the slot holds the page: sound, then back to it -/
theorem h349 {y : Pg} (h : Zu N Y K y H hf s C) (hs : s 0 = some z) (hK : K < 700000) {X : Nat} (hX : X < 2147483648) : ∃ D hf', J_L_hands_349 (nI X) (nI N) (z 6) C = some (1, D) ∧ Zu N Y K z 0 hf' s D := by
  obtain ⟨C1, e1, h1⟩ := at_restore h (k := 0) (by decide) hs
  obtain ⟨D, hf', e2, h2⟩ := h371 h1 hs hK hX
  refine ⟨D, hf', ?_, h2⟩
  have e1' : F_L_tryRestore (0 : Int32) C = some (z 6, C1) := e1
  unfold J_L_hands_349
  rw [sound_ok h.1 (by omega), b2_s, if_neg (by decide), e1', b2_s, if_pos rfl, e2]
theorem h249 (h : Zu N Y K z H hf s C) (hs : s 0 = some z) (hK : K < 700000) {X : Nat} (hX : X < 2147483648) : ∃ D hf', J_L_hands_249 (nI X) (nI N) (z 6) 1 C = some (1, D) ∧ Zu N Y K z 0 hf' s D := by
  have hN := h.1.1.1
  have hi : X / 2 % N < N := Nat.mod_lt _ (by omega)
  have e2 : nI X / (2 : Int32) - nI X / (2 : Int32) / nI N * nI N = nI (X / 2 % N) := by
    rw [show nI X / (2 : Int32) = nI (X / 2) from dv hX (d := 2) (by decide) (by decide)]
    exact md (by omega) (by omega) (by omega)
  generalize X / 2 % N = i at *
  unfold J_L_hands_249
  rw [gz_p (nI_ne0 (by omega) (by omega)), e2, nm_s, tb_2 h.1 hi, b2_s, if_neg (by decide)]
  by_cases c : z (30 + 7 * i + 2) = 4
  · obtain ⟨C1, e1, h1⟩ := at_unlock h hi c
    have l0 : lv z i 0 (30 + 7 * i + 2) = 0 := lv_2 0
    obtain ⟨C2, e3, h2⟩ := at_lock h1 hi (by rw [l0]; decide)
    obtain ⟨D, hf', e4, h3⟩ := h349 h2 hs hK hX
    refine ⟨D, hf', ?_, h3⟩
    rw [if_pos c, e1, b2_s, if_neg (cnS_nn hN.2 4), tb_2 h1.1 hi, b2_s, if_pos l0, e3, b2_s, if_pos l0, e4]
  · obtain ⟨C1, e1, h1⟩ := at_lock h hi c
    have l4 : lv z i 4 (30 + 7 * i + 2) = 4 := lv_2 4
    obtain ⟨C2, e3, h2⟩ := at_unlock h1 hi l4
    have l0 : lv (lv z i 4) i 0 (30 + 7 * i + 2) = 0 := lv_2 0
    obtain ⟨D, hf', e4, h3⟩ := h349 h2 hs hK hX
    refine ⟨D, hf', ?_, h3⟩
    have ew : whV N (lv z i 4) i = 2 := by
      unfold whV
      rw [if_pos l4]
    rw [if_neg c, e1, b2_s, if_pos rfl, tw h1.1 hi, b2_s, if_pos ew, e3, b2_s, if_neg (cnS_nn hN.2 4), tb_2 h2.1 hi, b2_s, if_pos l0, e4]
theorem h125 (h : Ob N Y K z C) {f : Nat} (hf2 : f < 2) : iter (fun x => S_L_hands_125 (nI N) (nI f) x.1 x.2.1 x.2.2) 6 ((0 : Int32), (0 : Int32), C) = some (sm (outs z f) N, nI N, C) := by
  have n5 := h.1.1.2
  refine iter_n (fun i => (sm (outs z f) i, nI i, C)) (sm (outs z f) N, nI N, C) (n := N) (by omega) (fun i hi => ?_) ?_
  · have hB := (h.wz.2.2.2.2.2.2 i hi).2.2.1
    show S_L_hands_125 (nI N) (nI f) (sm (outs z f) i) (nI i) C = some (.inl (sm (outs z f) i + outs z f i, nI (i + 1), C))
    unfold S_L_hands_125 J_L_hands_170 outs
    rw [if_neg (nI_ge hi (by omega)), tb_2 h hi, b2_s, tb_1 h hi, b2_s]
    by_cases c : z (30 + 7 * i + 1) = nI f
    · rw [if_pos c]
      rcases hB with q | q | q | q | q
      · rw [q, if_pos (by decide), if_neg (fun r => r.2.1 rfl), nm_s, nm_s, nI_1]
      · rw [q, if_neg (by decide), if_neg (by decide), if_pos ⟨c, by decide, by decide⟩, nm_s, nm_s, nI_1]
      · rw [q, if_neg (by decide), if_neg (by decide), if_pos ⟨c, by decide, by decide⟩, nm_s, nm_s, nI_1]
      · rw [q, if_neg (by decide), if_neg (by decide), if_pos ⟨c, by decide, by decide⟩, nm_s, nm_s, nI_1]
      · rw [q, if_neg (by decide), if_pos (by decide), if_neg (fun r => r.2.2 rfl), nm_s, nm_s, nI_1]
    · rw [if_neg c, if_neg (fun r => c r.1), nm_s, nm_s, nI_1]
  · show S_L_hands_125 (nI N) (nI f) _ (nI N) C = _
    unfold S_L_hands_125
    rw [if_pos (nI_le (Nat.le_refl _) (by omega))]
theorem h112 (h : Zu N Y K z H hf s C) (hs : s 0 = some z) (hK : K < 700000) {X : Nat} (hX : X < 2147483648) : ∃ D hf', J_L_hands_112 (nI X) (nI N) (z 6) 1 C = some (1, D) ∧ Zu N Y K z 0 hf' s D := by
  have r2 : nI X - nI X / (2 : Int32) * (2 : Int32) = nI (X % 2) := md hX (d := 2) (by decide) (by decide)
  have hf2 : X % 2 < 2 := by omega
  generalize X % 2 = f at *
  obtain ⟨C1, e1, h1⟩ := at_setFlue h hf2 false
  obtain ⟨C2, e2, h2⟩ := at_setFlue h1 hf2 true
  obtain ⟨C3, e3, h3⟩ := at_restore h2 (k := 0) (by decide) hs
  obtain ⟨D, hf', e4, h4⟩ := h249 h3 hs hK hX
  refine ⟨D, hf', ?_, h4⟩
  have e1' : F_L_trySetFlue (nI f) (0 : Int32) C = some ((mv N f false z).1, C1) := e1
  have e2' : F_L_trySetFlue (nI f) (1 : Int32) C1 = some (0, C2) := e2
  have e3' : F_L_tryRestore (0 : Int32) C2 = some (z 6, C3) := e3
  have ef1 : F_L_tryFlue (nI f) (1 : Int32) C1 = some (usS N (nI f) (mv N f false z).2, C1) := tf_1 h1.1 hf2
  have ef2 : F_L_tryFlue (nI f) (2 : Int32) C2 = some ((mv N f true (mv N f false z).2).2 (20 + f), C2) := tf_2 h2.1 hf2
  have eo : (mv N f true (mv N f false z).2).2 (20 + f) = 1 := up_same _ _ _
  rw [mv_us hf2] at ef1
  rw [eo] at ef2
  unfold J_L_hands_112
  rw [r2, nm_s, h125 h.1 hf2, b1_s, u3_s, if_neg (by decide), e1', b2_s, if_pos (mv_all hf2).1, ef1, b2_s, if_pos rfl, e2', b2_s, if_pos rfl, ef2, b2_s, if_pos rfl, sound_ok h2.1 (by omega), b2_s, if_neg (by decide), e3', b2_s, if_pos rfl, e4]
theorem hands_ok (h : Zu N Y K z H hf s C) (hK : K < 700000) {X : Nat} (hX : X < 2147483648) : ∃ D hf', F_L_hands (nI X) C = some (1, D) ∧ Zu N Y K z 0 hf' (fun a => if a = 0 then some z else s a) D := by
  have hN := h.1.1
  have hY : 2 ≤ Y := hN.2.1
  have hY8 : Y ≤ 8 := hN.2.2
  obtain ⟨C1, e1, h1⟩ := at_save h (k := 0) (by decide)
  have e1' : F_L_trySave (0 : Int32) C = some (z 6, C1) := e1
  generalize hs' : (fun a => if a = 0 then some z else s a) = sv at *
  have hs : sv 0 = some z := by rw [← hs']; rfl
  obtain ⟨C2, e2, h2⟩ := at_draw h1 (d := 1) (by decide) (by decide)
  rw [dl1_v] at e2
  have e2' : F_L_tryDraw (1 : Int32) C1 = some (z (22 + (Y - 1)), C2) := e2
  obtain ⟨n, hn⟩ : ∃ n, Hn H = n + 1 := by
    unfold Hn
    split
    · exact ⟨13, rfl⟩
    · exact ⟨H, rfl⟩
  rw [hn] at h2
  obtain ⟨C3, e3, h3⟩ := at_undo h2
  have h3' : Zu N Y K z n (fun j => psh z hf (j + 1)) sv C3 := h3
  have hnle : n ≤ 14 := by have := h2.2.1.1; omega
  obtain ⟨D, hf', e4, h4⟩ := h112 h3' hs hK hX
  refine ⟨D, hf', ?_, h4⟩
  have l0 : ∀ {y : Pg} {D : Mem} {K : Nat}, Ob N Y K y D → F_L_tryLayer (0 : Int32) D = some (y (22 + 0), D) := fun ho => tl ho (j := 0) (by omega)
  have l1 : ∀ {y : Pg} {D : Mem} {K : Nat}, Ob N Y K y D → F_L_tryLayer (1 : Int32) D = some (y (22 + 1), D) := fun ho => tl ho (j := 1) (by omega)
  unfold F_L_hands J_L_hands_37
  rw [ta_6 h.1, b2_s, ta_7 h.1, b2_s, ta_8 h.1, b2_s, e1', b2_s, if_pos rfl, s1 (by omega), tl h1.1 (show Y - 1 < Y by omega), b2_s, l0 h1.1, b2_s, if_neg (by decide), e2', b2_s, if_pos rfl, l0 h2.1, b2_s, if_pos dl1_0, l1 h2.1, b2_s, if_pos (dl1_1 (by omega)), e3, b2_s, if_neg (show ¬ nI n < 0 by rw [fa_lt, ti n (by omega)]; have e0 : (0 : Int32).toInt = 0 := rfl; omega), l0 h3'.1, b2_s, if_pos rfl, e4]
end HANDS2
