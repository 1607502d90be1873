/-! hands -/
section HANDS
variable {C : Mem} {N Y K : Nat} {z : Pg} {H : Nat} {hf : Nat → Pg} {s : Nat → Option Pg}
theorem pf_ok (h : Zu N Y K z H hf s C) (hs : s 0 = some z) (hK : K < 700000) {j m d : Nat} (hj : j < 5) (hm1 : 1 ≤ m) (hm : m ≤ 96) (hd : d ≤ 5) : ∃ D hf', F_L_purgeFuel (nI (j + 1)) (nI m) (nI d) (z 6) C = some (cpf N Y d m z j - fuS N z, D) ∧ Zu N Y K z 0 hf' s D := by
  have w := h.1.wz
  obtain ⟨C1, e1, h1⟩ := at_sett h (k := 2) (by decide) (v := nI (j + 1)) (bnd (a := 1) (b := 5) rfl rfl (by omega) (by omega) (by decide))
  obtain ⟨t, e2⟩ := to_3 h1.1 (by omega) hm1 hm hd
  have h2 := h1.kt (kt_1 C1 t)
  obtain ⟨D, e3, h3⟩ := at_restore h2 (k := 0) (by decide) hs
  refine ⟨D, _, ?_, h3⟩
  have e1' : F_L_trySet (2 : Int32) (nI (j + 1)) C = some (z 2, C1) := e1
  have e3' : F_L_tryRestore (0 : Int32) (sr C1 1 t) = some (z 6, D) := e3
  have ef : fuS N (up z 2 (nI (j + 1))) = fuS N z := sm_cong fun i _ => up_ne _ _ (by omega)
  unfold F_L_purgeFuel
  rw [e1', b2_s, e2, b2_s, if_neg (fun q => by rw [fa_le] at q; have := w.2.2.2.1.1; have e0 : (0 : Int32).toInt = 0 := rfl; omega), e3', b2_s, if_pos rfl, ef]
  rfl
theorem cpf_b (h1 : 1 ≤ Y) (h8 : Y ≤ 8) (n5 : N ≤ 5) (w : WF N Y K z) (hK : K < 700000) {j m d : Nat} (hj : j < 5) (hm : m ≤ 96) : 0 ≤ (cpf N Y d m z j).toInt ∧ (cpf N Y d m z j).toInt ≤ 150 * (K + m : Nat) := fuS_b (by omega) n5 ((w.p2 hj).k_tkn h1 h8 d m (by omega))
theorem h708 (h : Zu N Y K z 0 hf s C) (hs : s 0 = some z) (hK : K < 700000) {X : Nat} (hX : X < 2147483648) {a b : Nat} (ha : a ≤ 99) (hb : b ≤ 5) : ∃ D hf', J_L_hands_708 (nI X) (z 6) (nI a) (nI b) 1 C = some (1, D) ∧ Zu N Y K z 0 hf' s D := by
  have hN := h.1.1
  have w := h.1.wz
  have e30 : (1 : Int32) + (nI X - nI X / (30 : Int32) * (30 : Int32)) = nI (1 + X % 30) := by
    rw [show nI X - nI X / (30 : Int32) * (30 : Int32) = nI (X % 30) from md hX (d := 30) (by decide) (by decide)]
    exact nI_ad 1 (X % 30)
  have e128 : (1 : Int32) + (nI X / (128 : Int32) - nI X / (128 : Int32) / (5 : Int32) * (5 : Int32)) = nI (X / 128 % 5 + 1) := by
    rw [show nI X / (128 : Int32) = nI (X / 128) from dv hX (d := 128) (by decide) (by decide), show nI (X / 128) - nI (X / 128) / (5 : Int32) * (5 : Int32) = nI (X / 128 % 5) from md (by omega) (d := 5) (by decide) (by decide), Int32.add_comm]
    exact nI_ad (X / 128 % 5) 1
  have e71 : (10 : Int32) + (nI a - nI a / (71 : Int32) * (71 : Int32)) = nI (10 + a % 71) := by
    rw [show nI a - nI a / (71 : Int32) * (71 : Int32) = nI (a % 71) from md (by omega) (d := 71) (by decide) (by decide)]
    exact nI_ad 10 (a % 71)
  have hm : 1 + X % 30 ≤ 96 := by omega
  have hm1 : 1 ≤ 1 + X % 30 := by omega
  have hk5 : X / 128 % 5 < 5 := by omega
  have hbx : 10 + a % 71 ≤ 80 := by omega
  have hb1 : 10 ≤ 10 + a % 71 := by omega
  generalize 1 + X % 30 = m at *
  generalize X / 128 % 5 = k at *
  generalize 10 + a % 71 = u at *
  obtain ⟨t1, e1⟩ := to_p h.1 (by omega) hm1 hm hb
  have h1 := h.kt (kt_1 C t1)
  obtain ⟨j, hj, ej, lj⟩ := cp_ok (N := N) (Y := Y) b m z
  rw [ej] at e1
  obtain ⟨C2, hf2, e2, h2⟩ := pf_ok h1 hs hK hj hm1 hm hb
  obtain ⟨C3, hf3, e3, h3⟩ := pf_ok h2 hs hK hk5 hm1 hm hb
  obtain ⟨t4, e4⟩ := to_b h3.1 (by omega) hm1 hm hb1 hbx
  have h4 := h3.kt (kt_1 C3 t4)
  have l := lj k hk5
  have b1 := cpf_b (d := b) (Nat.le_trans (by decide) hN.2.1) hN.2.2 hN.1.2 w hK hj hm
  have b2 := cpf_b (d := b) (Nat.le_trans (by decide) hN.2.1) hN.2.2 hN.1.2 w hK hk5 hm
  have b3 := fuS_b (y := z) (by omega) hN.1.2 w
  refine ⟨sr C3 1 t4, hf3, ?_, h4⟩
  unfold J_L_hands_708
  have c5 : ¬ (cpf N Y b m z k - fuS N z) < (cpf N Y b m z j - fuS N z) := by
    rw [fa_lt, fb_subI (by omega) (by omega), fb_subI (by omega) (by omega)]
    omega
  have e1i : (1 : Int32).toInt = 1 := rfl
  have e5i : (5 : Int32).toInt = 5 := rfl
  have e9i : (-9 : Int32).toInt = -9 := rfl
  have c6 : ¬ brf N Y m (nI u) z 6 < -9 ∧ ¬ 5 < brf N Y m (nI u) z 6 := by
    rcases brf_ok (N := N) (Y := Y) m (nI u) z 6 with e | ⟨q, hq, e⟩
    · rw [e]; exact ⟨by decide, by decide⟩
    · rw [e, fa_lt, fa_lt, ti q (by omega)]; omega
  rw [e30, nm_s, e128, e71, e1, b2_s, e2, b2_s, e3, b2_s, e4, b2_s, if_neg (by decide), if_neg (show ¬ nI (j + 1) < 1 by rw [fa_lt, ti _ (by omega)]; omega), if_neg (show ¬ 5 < nI (j + 1) by rw [fa_lt, ti _ (by omega)]; omega), if_neg c5, if_neg c6.1, if_neg c6.2, at_undo0 h4, b2_s, if_pos rfl]
theorem h646 (h : Zu N Y K z 0 hf s C) (hs : s 0 = some z) (hK : K < 700000) {X : Nat} (hX : X < 2147483648) {a b : Nat} (ha : a ≤ 99) (hb : b ≤ 5) : ∃ D hf', J_L_hands_646 (nI X) (z 6) (nI a) (nI b) (waf N Y b (nI a) 200 0 z) 1 C = some (1, D) ∧ Zu N Y K z 0 hf' s D := by
  unfold J_L_hands_646
  rcases waf_ok (N := N) (Y := Y) b (nI a) 200 0 z with ⟨j, -, hj, e, f, g⟩ | ⟨e, f⟩
  · rw [e]
    by_cases j0 : j = 0
    · obtain ⟨D, hf', e8, h8⟩ := h708 h hs hK hX ha hb
      refine ⟨D, hf', ?_, h8⟩
      rw [j0, if_pos (show nI 0 ≤ 0 by decide), e8]
    by_cases j97 : 97 ≤ j
    · obtain ⟨D, hf', e8, h8⟩ := h708 h hs hK hX ha hb
      refine ⟨D, hf', ?_, h8⟩
      rw [if_neg (show ¬ nI j ≤ 0 by rw [fa_le, ti j (by omega)]; have e0 : (0 : Int32).toInt = 0 := rfl; omega), if_pos (show (97 : Int32) ≤ nI j by rw [fa_le, ti j (by omega)]; have e0 : (97 : Int32).toInt = 97 := rfl; omega), e8]
    obtain ⟨t1, e1⟩ := to_0 h.1 (by omega) (m := j) (d := b) (by omega) (by omega) hb
    have h1 := h.kt (kt_1 C t1)
    rw [Nat.sub_zero] at f
    have c1 : ¬ nI j ≤ 0 := by rw [fa_le, ti j (by omega)]; have e0 : (0 : Int32).toInt = 0 := rfl; omega
    have c2 : ¬ (97 : Int32) ≤ nI j := by rw [fa_le, ti j (by omega)]; have e0 : (97 : Int32).toInt = 97 := rfl; omega
    by_cases j1 : j = 1
    · obtain ⟨D, hf', e8, h8⟩ := h708 h1 hs hK hX ha hb
      refine ⟨D, hf', ?_, h8⟩
      rw [if_neg c1, if_neg c2, if_neg (by decide), e1, b2_s, if_neg f, if_pos (show nI j = 1 by rw [j1]; rfl), e8]
    obtain ⟨t2, e2⟩ := to_0 h1.1 (by omega) (m := j - 1) (d := b) (by omega) (by omega) hb
    have h2 := h1.kt (kt_1 _ t2)
    obtain ⟨D, hf', e8, h8⟩ := h708 h2 hs hK hX ha hb
    refine ⟨D, hf', ?_, h8⟩
    have g' : avg Y (tkn N Y b (j - 1) z) < nI a := by
      rcases g with g | g
      · exact absurd g j0
      · exact g
    rw [if_neg c1, if_neg c2, if_neg (by decide), e1, b2_s, if_neg f, if_neg (show ¬ nI j = 1 from fun q => j1 (by
      have := congrArg Int32.toInt q
      rw [ti j (by omega)] at this
      have e0 : (1 : Int32).toInt = 1 := rfl
      omega)), s1 (by omega), e2, b2_s, if_neg (fa_of_lt g').2.1, e8]
  · obtain ⟨D, hf', e8, h8⟩ := h708 h hs hK hX ha hb
    refine ⟨D, hf', ?_, h8⟩
    rw [e, if_pos (show (-9 : Int32) ≤ 0 by decide), e8]
theorem h576 (h : Zu N Y K z 0 hf s C) (hs : s 0 = some z) (hK : K < 700000) {X : Nat} (hX : X < 2147483648) : ∃ D hf', J_L_hands_576 (nI X) (z 6) 1 C = some (1, D) ∧ Zu N Y K z 0 hf' s D := by
  have e64 : nI X / (64 : Int32) - nI X / (64 : Int32) / (100 : Int32) * (100 : Int32) = nI (X / 64 % 100) := by
    rw [show nI X / (64 : Int32) = nI (X / 64) from dv hX (d := 64) (by decide) (by decide)]
    exact md (by omega) (d := 100) (by decide) (by decide)
  have e8192 : nI X / (8192 : Int32) - nI X / (8192 : Int32) / (6 : Int32) * (6 : Int32) = nI (X / 8192 % 6) := by
    rw [show nI X / (8192 : Int32) = nI (X / 8192) from dv hX (d := 8192) (by decide) (by decide)]
    exact md (by omega) (d := 6) (by decide) (by decide)
  have ha : X / 64 % 100 ≤ 99 := by omega
  have hb : X / 8192 % 6 ≤ 5 := by omega
  generalize X / 64 % 100 = a at *
  generalize X / 8192 % 6 = b at *
  obtain ⟨t, e⟩ := to_w h.1 (by omega) ha hb
  have h1 := h.kt (kt_1 C t)
  obtain ⟨D, hf', e6, h6⟩ := h646 h1 hs hK hX ha hb
  refine ⟨D, hf', ?_, h6⟩
  unfold J_L_hands_576
  rw [e64, e8192, nm_s, nm_s, e, b2_s, if_neg (by decide)]
  have fin : ∀ v : Int32, (v = if avg Y z < nI a then 0 else 1) → J_L_hands_622 (nI X) (z 6) (nI a) (nI b) (waf N Y b (nI a) 200 0 z) (sr C 1 t) v = some (1, D) := fun v ev => by
    unfold J_L_hands_622 J_L_hands_638
    rw [ta_9 h1.1, b2_s]
    by_cases c : avg Y z < nI a
    · rw [if_pos c] at ev ⊢
      rw [if_pos ev, e6]
    · rw [if_neg c] at ev ⊢
      rw [if_pos ev, e6]
  rcases waf_ok (N := N) (Y := Y) b (nI a) 200 0 z with ⟨j, -, hj, ew, f, g⟩ | ⟨ew, f⟩
  · by_cases j0 : j = 0
    · rw [if_pos (show waf N Y b (nI a) 200 0 z = 0 by rw [ew, j0]; rfl)]
      refine fin 1 ?_
      rw [j0] at f
      exact (if_neg f).symm
    · rw [if_neg (show ¬ waf N Y b (nI a) 200 0 z = 0 by rw [ew]; exact nI_ne0 (by omega) (by omega))]
      refine fin 0 ?_
      have c : avg Y z < nI a := by
        refine Classical.byContradiction fun q => ?_
        have : waf N Y b (nI a) 200 0 z = nI 0 := by
          unfold waf
          exact if_neg q
        rw [this] at ew
        have := congrArg Int32.toInt ew
        rw [ti 0 (by omega), ti j (by omega)] at this
        omega
      exact (if_pos c).symm
  · rw [if_neg (show ¬ waf N Y b (nI a) 200 0 z = 0 by rw [ew]; decide)]
    exact fin 0 (if_pos f).symm
end HANDS
