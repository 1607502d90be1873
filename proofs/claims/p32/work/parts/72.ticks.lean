/-! ticks, the whole of it -/
section TICKS
variable {C D : Mem} {N Y K : Nat} {y z : Pg} {H : Nat} {hf : Nat → Pg} {s : Nat → Option Pg}
theorem j900 (h : Ob N Y K z C) (o : ∀ j, j + 1 < Y → (z (22 + j)).toInt ≤ (z (22 + (j + 1))).toInt) (v32 v110 v119 : Int32) : J_L_ticks_900 v32 v110 v119 1 C = some (.inl (v119, v110, 1, v32 + 1, C)) := by
  unfold J_L_ticks_900
  rw [or_ok h o, b1_s, u3_s, nm_s]
theorem j885 (h : Ob N Y K z C) (hK : K < 1000000) (o : ∀ j, j + 1 < Y → (z (22 + j)).toInt ≤ (z (22 + (j + 1))).toInt) (v32 v110 v119 : Int32) {v234 v290 : Int32} (q : ¬ v290 < v234) : J_L_ticks_885 v32 v110 v119 v234 C v290 = some (.inl (v119, v110, 1, v32 + 1, C)) := by
  unfold J_L_ticks_885
  rw [if_neg q, sound_ok h hK, b2_s, if_neg (by decide), j900 h o]
/-- the kill's part: night (v64), goes on (v69), ended (v234), goes on after (v227) -/
def kz (v64 v69 v227 v234 : Int32) : Prop := (v64 = 0 ∧ v69 = 0 ∧ v227 = 0 ∧ v234 = 0) ∨ ((v64 = 1 ∨ v69 = 1) ∧ (v64 = 0 ∨ v64 = 1) ∧ (v69 = 0 ∨ v69 = 1) ∧ (v227 = 1 ∧ v234 = 0 ∨ v227 = 0 ∧ v234 = 1))
theorem j860 (h : Ob N Y K z C) (hK : K < 1000000) (o : ∀ j, j + 1 < Y → (z (22 + j)).toInt ≤ (z (22 + (j + 1))).toInt) (v32 v110 v119 : Int32) {v64 v69 v227 v234 : Int32} (q : kz v64 v69 v227 v234) : (if v69 = 0 then (if v64 = 0 then J_L_ticks_860 v32 v64 v69 v110 v119 v227 v234 C (0 : Int32) else (if v234 = 0 then J_L_ticks_860 v32 v64 v69 v110 v119 v227 v234 C (1 : Int32) else J_L_ticks_860 v32 v64 v69 v110 v119 v227 v234 C (0 : Int32))) else (if v234 = 0 then J_L_ticks_860 v32 v64 v69 v110 v119 v227 v234 C (1 : Int32) else J_L_ticks_860 v32 v64 v69 v110 v119 v227 v234 C (0 : Int32))) = some (.inl (v119, v110, 1, v32 + 1, C)) := by
  unfold J_L_ticks_860
  rcases q with ⟨rfl, rfl, rfl, rfl⟩ | ⟨c, c4, c9, ⟨rfl, rfl⟩ | ⟨rfl, rfl⟩⟩
  · rw [j885 h hK o v32 v110 v119 (v290 := 0) (v234 := 0) (by decide)]
    rfl
  · rw [j885 h hK o v32 v110 v119 (v290 := 1) (v234 := 0) (by decide)]
    rcases c4 with rfl | rfl <;> rcases c9 with rfl | rfl
    · rcases c with c | c <;> exact absurd c (by decide)
    · rfl
    · rfl
    · rfl
  · rw [j885 h hK o v32 v110 v119 (v290 := 1) (v234 := 1) (by decide)]
    rcases c4 with rfl | rfl <;> rcases c9 with rfl | rfl
    · rcases c with c | c <;> exact absurd c (by decide)
    · rfl
    · rfl
    · rfl
theorem kz_ok (h1 : 1 ≤ Y) (d : Nat) (w : y 8 = 0 ∨ y 8 = 1) {v64 v69 v227 : Int32} (e64 : v64 = if y 6 - y 6 / 24 * 24 = y 5 then 1 else 0) (e69 : v69 = if y 8 = 1 then 1 else 0) (e227 : v227 = if tk N Y d y 8 = 1 then 1 else 0) : kz v64 v69 v227 (tk N Y d y 11 + tk N Y d y 12 - (y 11 + y 12)) := by
  have k := tk_K (N := N) (Y := Y) h1 d w
  have c := wC_8 (Y := Y) d w
  have s4 : v64 = 0 ∨ v64 = 1 := by
    rw [e64]; split
    · exact Or.inr rfl
    · exact Or.inl rfl
  have s9 : v69 = 0 ∨ v69 = 1 := by
    rw [e69]; split
    · exact Or.inr rfl
    · exact Or.inl rfl
  generalize tk N Y d y = z at *
  generalize wC Y d y = x at *
  have one : x 8 = 1 → v64 = 1 ∨ v69 = 1 := fun q => by
    rcases c with ⟨a, -⟩ | ⟨-, a | a⟩
    · rw [a] at q; exact absurd q (by decide)
    · exact Or.inl (by rw [e64, if_pos (show y 6 - y 6 / 24 * 24 = y 5 from a)])
    · exact Or.inr (by rw [e69, if_pos a])
  rcases k with ⟨q, e8, -, -, e11, e12⟩ | ⟨q, e8, -, -, -, e11, e12⟩ | ⟨q, e8, -, -, ⟨e11, e12⟩ | ⟨e11, e12⟩⟩
  · rcases c with ⟨-, b1, b2⟩ | ⟨a, -⟩
    · refine Or.inl ⟨by rw [e64, if_neg (show ¬ y 6 - y 6 / 24 * 24 = y 5 from b1)], by rw [e69, if_neg (by rw [b2]; decide)], by rw [e227, if_neg (by rw [e8]; decide)], ?_⟩
      rw [e11, e12]; grind
    · rw [a] at q; exact absurd q (by decide)
  · refine Or.inr ⟨one q, s4, s9, Or.inl ⟨by rw [e227, if_pos e8], ?_⟩⟩
    rw [e11, e12]; grind
  · refine Or.inr ⟨one q, s4, s9, Or.inr ⟨by rw [e227, if_neg (by rw [e8]; decide)], ?_⟩⟩
    rw [e11, e12]; grind
  · refine Or.inr ⟨one q, s4, s9, Or.inr ⟨by rw [e227, if_neg (by rw [e8]; decide)], ?_⟩⟩
    rw [e11, e12]; grind
theorem j304 (h1 : 1 ≤ Y) (h8 : Y ≤ 8) (d : Nat) (w : WF N Y K y) (hK : K < 800000) (h : Ob N Y (K + 1) (tk N Y d y) D) {F : Nat → Int32} (r : tRow N y F) {v64 v69 : Int32} (e64 : v64 = if y 6 - y 6 / 24 * 24 = y 5 then 1 else 0) (e69 : v69 = if y 8 = 1 then 1 else 0) (v29 v32 v110 : Int32) : J_L_ticks_304 (nI N) (nI d) v29 1 v32 (lay Y y) (y 14) (y 15) (y 16) (y 13) v64 v69 (y 11 + y 12) F D v110 = some (.inl (v29 - (stS N (tk N Y d y) - stS N y), v110, 1, v32 + 1, D)) := by
  have o : ∀ j, j + 1 < Y → (tk N Y d y (22 + j)).toInt ≤ (tk N Y d y (22 + (j + 1))).toInt := fun j hj => So_tk d hj
  obtain ⟨c1, c2, c3⟩ := cnt_ok (N := N) h1 h8 d w
  have wd : WF N Y K (wD N Y d y) := ((w.k_dl h1 h8 d).k_kb).k_ctl h8
  have t13 := tk_13 (N := N) h1 h8 d wd
  rw [← c2] at t13
  have t14 := (tk_14 (N := N) (y := y) h1 d).1
  have en : lay Y (tk N Y d y) + tk N Y d y 16 + tk N Y d y 15 - tk N Y d y 13 - tk N Y d y 14 = lay Y y + y 16 + y 15 - y 13 - y 14 := En_tk h1 h8 d
  have he : lay Y (tk N Y d y) = lay Y y + sm (tPi y (tk N Y d y)) N + tk N Y d y 14 - y 14 - tk N Y d y 15 + y 15 - tk N Y d y 16 + y 16 := by grind
  have j770 : ∀ v227, v227 = (if tk N Y d y 8 = 1 then 1 else 0) → J_L_ticks_770 (nI d) v32 (lay Y y) (y 14) (y 15) (y 16) (y 13) v64 v69 v110 (v29 - sm (tBg y (tk N Y d y)) N) (sm (tPi y (tk N Y d y)) N) v227 D (tk N Y d y 11 + tk N Y d y 12 - (y 11 + y 12)) = some (.inl (v29 - (stS N (tk N Y d y) - stS N y), v110, 1, v32 + 1, D)) := fun v227 e227 => by
    unfold J_L_ticks_770
    rw [tc_0 h, b2_s, if_pos t13, heat_ok h, b2_s, tc_1 h, b2_s, tc_2 h, b2_s, tc_3 h, b2_s, if_pos (show sm (fun j => tk N Y d y (22 + j)) Y = _ from he), tc_1 h, b2_s, if_pos (show tk N Y d y 14 = y 14 + 10 * nI d from t14.trans (by rw [show (10 : Int32) * nI d = nI (10 * d) from nI_mul 10 d])), c3]
    exact j860 h (by omega) o v32 v110 _ (kz_ok h1 d w.2.1 e64 e69 e227)
  have j711 : ∀ v227, v227 = (if tk N Y d y 8 = 1 then 1 else 0) → J_L_ticks_711 (nI d) v32 (lay Y y) (y 14) (y 15) (y 16) (y 13) v64 v69 (y 11 + y 12) v110 (v29 - sm (tBg y (tk N Y d y)) N) 1 (sm (tBg y (tk N Y d y)) N) (sm (tRs y (tk N Y d y)) N) (sm (tPi y (tk N Y d y)) N) (tk N Y d y 7) D v227 = some (.inl (v29 - (stS N (tk N Y d y) - stS N y), v110, 1, v32 + 1, D)) := fun v227 e227 => by
    unfold J_L_ticks_711
    rw [ta_14 h, b2_s, ta_15 h, b2_s, nm_s, if_neg (by decide), j770 v227 e227]
    rcases c1 with ⟨a, b⟩ | ⟨⟨a, b⟩ | ⟨a, b⟩, e7⟩
    · rw [a, b, if_neg (by decide), if_neg (by decide), if_neg (by decide), if_pos (show (0 : Int32) + 0 = 0 from rfl)]
      split <;> rfl
    · rw [a, b, e7, if_neg (by decide), if_neg (by decide), if_neg (by decide), if_pos rfl]
    · rw [a, b, e7, if_neg (by decide), if_neg (by decide), if_neg (by decide), if_pos rfl]
  unfold J_L_ticks_304
  rw [bl_ok h1 h8 d w h r, b1_s, u7_s, ta_10 h, b2_s, ta_11 h, b2_s]
  by_cases c : tk N Y d y 8 = 1
  · rw [if_pos c, j711 1 (if_pos c).symm]
  · rw [if_neg c, j711 0 (if_neg c).symm]
theorem tk_96 (h : Zu N Y K y H hf s C) (hK : K < 800000) {d t m : Nat} (hd : d ≤ 5) (ht : t < m) (hm : m ≤ 20) (v29 v30 : Int32) : ∃ D, S_L_ticks_96 (nI N) (nI m) (nI d) v29 v30 1 (nI t) C = some (.inl (v29 - (stS N (tk N Y d y) - stS N y), (ahf N Y d t (v30, y)).1, 1, nI (t + 1), D)) ∧ Zu N Y (K + 1) (tk N Y d y) (Hn H) (psh y hf) s D := by
  obtain ⟨D, eD, hz⟩ := at_tick h hK (m := 1) (d := d) (by decide) (by decide) hd
  have eD' : F_L_tryTick (1 : Int32) (nI d) C = some (avg Y (tk N Y d y), D) := eD
  have hz' : Zu N Y (K + 1) (tk N Y d y) (Hn H) (psh y hf) s D := hz
  refine ⟨D, ?_, hz'⟩
  have ho := h.1
  have h1 : 1 ≤ Y := by have := ho.1.2; omega
  have h8 := ho.1.2.2
  obtain ⟨F, eF, rF⟩ := row_ok ho
  have j180 : ∀ v64 v69, v64 = (if y 6 - y 6 / 24 * 24 = y 5 then 1 else 0) → v69 = (if y 8 = 1 then 1 else 0) → J_L_ticks_180 (nI N) (nI d) v29 v30 1 (nI t) (lay Y y) (y 14) (y 15) (y 16) (y 13) v64 C v69 = some (.inl (v29 - (stS N (tk N Y d y) - stS N y), (ahf N Y d t (v30, y)).1, 1, nI (t + 1), D)) := fun v64 v69 e64 e69 => by
    unfold J_L_ticks_180
    rw [ta_14 ho, b2_s, ta_15 ho, b2_s, nm_s, eF, b1_s, u3_s, eD', b2_s, j304 h1 h8 d ho.wz hK hz'.1 rF e64 e69, j304 h1 h8 d ho.wz hK hz'.1 rF e64 e69, nI_1]
    unfold ahf
    show _ = some (Sum.inl (_, (if avg Y (tk N Y d y) < v30 then avg Y (tk N Y d y) else v30), _))
    by_cases c : avg Y (tk N Y d y) < v30
    · rw [if_pos c, if_neg (fa_of_lt c).2.1]
    · rw [if_neg c, if_pos (fa_of_nlt c)]
  have j163 : ∀ v64, v64 = (if y 6 - y 6 / 24 * 24 = y 5 then 1 else 0) → J_L_ticks_163 (nI N) (nI d) v29 v30 1 (nI t) (lay Y y) (y 14) (y 15) (y 16) (y 13) C v64 = some (.inl (v29 - (stS N (tk N Y d y) - stS N y), (ahf N Y d t (v30, y)).1, 1, nI (t + 1), D)) := fun v64 e64 => by
    unfold J_L_ticks_163
    rw [ta_11 ho, b2_s]
    by_cases c : y 8 = 1
    · rw [if_pos c, j180 v64 1 e64 (if_pos c).symm]
    · rw [if_neg c, j180 v64 0 e64 (if_neg c).symm]
  unfold S_L_ticks_96
  rw [if_neg (nI_ge ht (by omega)), if_neg (by decide), heat_ok ho, b2_s, tc_1 ho, b2_s, tc_2 ho, b2_s, tc_3 ho, b2_s, tc_0 ho, b2_s, ta_8 ho, b2_s, ta_5 ho, b2_s]
  by_cases c : y 6 - y 6 / 24 * 24 = y 5
  · rw [if_pos c]
    exact j163 1 (if_pos c).symm
  · rw [if_neg c]
    exact j163 0 (if_neg c).symm
theorem xa20 {X : Nat} (hX : X < 2147483648) : (1 : Int32) + (nI X - nI X / (20 : Int32) * (20 : Int32)) = nI (X % 20 + 1) := by
  rw [show nI X - nI X / (20 : Int32) * (20 : Int32) = nI (X % 20) from pk_rem (d := 20) (by omega) (by decide) (by decide), ← nI_1, Int32.add_comm]
theorem xa32 {X : Nat} (hX : X < 2147483648) : nI X / (32 : Int32) - nI X / (32 : Int32) / (4 : Int32) * (4 : Int32) = nI (X / 32 % 4) := by
  rw [show nI X / (32 : Int32) = nI (X / 32) from pk_div (d := 32) (by omega) (by decide) (by decide)]
  exact pk_rem (d := 4) (by omega) (by decide) (by decide)
theorem tks_L (z : Pg) (hK : K < 700000) {d m : Nat} (hd : d ≤ 5) (hm : m ≤ 20) (V : Int32) : ∀ (j t : Nat) (C : Mem) (H : Nat) (hf : Nat → Pg) (x : Nat), t + j = m → Zu N Y (K + t) (tkn N Y d t z) H hf s C → ∃ D H' hf', iter (fun x => S_L_ticks_96 (nI N) (nI m) (nI d) x.1 x.2.1 x.2.2.1 x.2.2.2.1 x.2.2.2.2) (j + 1 + x) (V - (stS N (tkn N Y d t z) - stS N z), (ahd N Y d t z).1, (1 : Int32), nI t, C) = some (V - (stS N (tkn N Y d m z) - stS N z), (ahd N Y d m z).1, 1, nI m, D) ∧ Zu N Y (K + m) (tkn N Y d m z) H' hf' s D := by
  intro j
  induction j with
  | zero =>
    intro t C H hf x e h
    have : t = m := by omega
    subst this
    refine ⟨C, H, hf, ?_, h⟩
    rw [show 0 + 1 + x = x + 1 by omega]
    refine iter_e _ ?_ x
    show S_L_ticks_96 (nI N) (nI t) (nI d) _ _ 1 (nI t) C = _
    unfold S_L_ticks_96
    rw [if_pos (nI_le (Nat.le_refl _) (by omega))]
  | succ j ih =>
    intro t C H hf x e h
    obtain ⟨D1, e1, h1⟩ := tk_96 h (by omega) hd (show t < m by omega) hm (V - (stS N (tkn N Y d t z) - stS N z)) (ahd N Y d t z).1
    obtain ⟨D, H', hf', e2, h2⟩ := ih (t + 1) D1 _ _ x (by omega) h1
    refine ⟨D, H', hf', ?_, h2⟩
    rw [show j + 1 + 1 + x = (j + 1 + x) + 1 by omega]
    refine (iter_s _ ?_ _).trans e2
    refine e1.trans ?_
    have ea : ahf N Y d t ((ahd N Y d t z).1, tkn N Y d t z) = ahd N Y d (t + 1) z := by
      rw [← ahd_2]
      rfl
    have ev : V - (stS N (tkn N Y d t z) - stS N z) - (stS N (tk N Y d (tkn N Y d t z)) - stS N (tkn N Y d t z)) = V - (stS N (tkn N Y d (t + 1) z) - stS N z) := by
      show _ = V - (stS N (tk N Y d (tkn N Y d t z)) - stS N z)
      grind
    rw [ea, ev]
theorem ticks_ok (h : Zu N Y K z H hf s C) (hK : K < 700000) {X : Nat} (hX : X < 2147483648) : ∃ D z' H' hf', F_L_ticks (nI X) C = some (1, D) ∧ Zu N Y (K + 20) z' H' hf' s D := by
  have hd : X / 32 % 4 ≤ 5 := by omega
  have hm1 : 1 ≤ X % 20 + 1 := by omega
  have hm : X % 20 + 1 ≤ 20 := by omega
  have e20 := xa20 hX
  have e32 := xa32 hX
  generalize X % 20 + 1 = m at *
  generalize X / 32 % 4 = d at *
  obtain ⟨t0, e0⟩ := to_0 h.1 (by omega) hm1 (show m ≤ 96 by omega) hd
  have h0 := h.kt (kt_1 C t0)
  obtain ⟨t6, e6⟩ := to_6 h0.1 (by omega) hm1 (show m ≤ 96 by omega) hd
  have h6 := h0.kt (kt_1 _ t6)
  obtain ⟨t3, e3⟩ := to_3 h6.1 (by omega) hm1 (show m ≤ 96 by omega) hd
  have h3 := h6.kt (kt_1 _ t3)
  obtain ⟨t4, e4⟩ := to_4 h3.1 (by omega) hm1 (show m ≤ 96 by omega) hd
  have h4 := h3.kt (kt_1 _ t4)
  obtain ⟨t5, e5⟩ := to_5 h4.1 (by omega) hm1 (show m ≤ 96 by omega) hd
  have h5 := h4.kt (kt_1 _ t5)
  obtain ⟨D, H', hf', eD, hz⟩ := tks_L (s := s) (K := K) (N := N) (Y := Y) z hK hd hm (stS N (tkn N Y d m z) - stS N z) m 0 _ H hf (20 - m) (by omega) h5
  have ez : stS N (tkn N Y d m z) - stS N z - (stS N (tkn N Y d m z) - stS N z) = 0 := by grind
  have ez0 : stS N (tkn N Y d m z) - stS N z - (stS N (tkn N Y d 0 z) - stS N z) = stS N (tkn N Y d m z) - stS N z := by
    show stS N (tkn N Y d m z) - stS N z - (stS N z - stS N z) = _
    grind
  rw [ez, ez0, show m + 1 + (20 - m) = 21 by omega] at eD
  have eD' : iter (fun x => S_L_ticks_96 (nI N) (nI m) (nI d) x.1 x.2.1 x.2.2.1 x.2.2.2.1 x.2.2.2.2) 21 (stS N (tkn N Y d m z) - stS N z, (99 : Int32), (1 : Int32), (0 : Int32), _) = _ := eD
  refine ⟨D, tkn N Y d m z, H', hf', ?_, hz.mo (by omega)⟩
  have g1 : ∀ a b : Int32, a = a - b + b := fun a b => by grind
  unfold F_L_ticks
  rw [ta_6 h.1, b2_s, e20, e32, nm_s, nm_s, e0, b2_s, e6, b2_s, e3, b2_s, tc_4 h3.1, b2_s, nm_s, e4, b2_s, e5, b2_s, ta_14 h5.1, b2_s, nm_s, eD', b1_s, u5_s, if_neg (by decide), ta_9 hz.1, b2_s, if_pos rfl, if_pos rfl, tc_4 hz.1, b2_s, if_pos (g1 _ _), if_pos rfl, ta_14 hz.1, b2_s, if_pos (g1 _ _)]
end TICKS
