/-! forecasts: only the trial changes -/
section FORE
variable {C : Mem} {z : Pg} {N Y K : Nat}
theorem ahd_2 (d m : Nat) (y : Pg) : (ahd N Y d m y).2 = tkn N Y d m y := fe_rel (R := fun _ (p : Int32 × Pg) t => p.2 = t) rfl (fun i p t _ e => by
    show tk N Y d p.2 = tk N Y d t
    rw [e])
theorem XT (m d : Nat) (hm1 : 1 ≤ m) (hm : m ≤ 96) (hd : d ≤ 5) : (1 ≤ nI m ∧ nI m ≤ 96) ∧ (0 ≤ nI d ∧ nI d ≤ 5) := ⟨⟨nI_le hm1 (by omega), nI_le hm (by decide)⟩, nI_pos' (by omega), nI_le hd (by decide)⟩
theorem to_0 (h : Ob N Y K z C) (hK : K < 800000) {m d : Nat} (hm1 : 1 ≤ m) (hm : m ≤ 96) (hd : d ≤ 5) : ∃ t, F_L_tryAhead (nI m) (nI d) (0 : Int32) C = some (avg Y (tkn N Y d m z), sr C 1 t) := by
  obtain ⟨⟨⟨n1, n5⟩, y2, y8⟩, ⟨c65, c66, wf, ag⟩, sd⟩ := h
  obtain ⟨y1, ey, s65, s66, sw, sa⟩ := t_c (C := C) (q := 1) (q0 := 0) (by decide) c65 c66 n5 y8 wf
  obtain ⟨hc, t65, t66, tw⟩ := c_ahd (C := C) (by omega) y8 n5 (⟨s65, s66, sw⟩ : Tr N Y K y1) (d := d) (m := m) (by omega) (by omega) (by omega)
  obtain ⟨r1, az⟩ := ahd_c (by omega) (sa.tr ag) d m
  have i1 : ∀ (y : Pg), (sr C 1 y) 1 = y := fun y => sr_same C 1 y
  have i0 : ∀ (y : Pg), (sr C 1 y) 0 = C 0 := fun y => sr_ne C y (by decide)
  refine ⟨(ahd N Y d m y1).2, ?_⟩
  show F_L_tryAhead (nI m) (nI d) (nI 0) C = _
  unfold F_L_tryAhead F_X8_ahead
  rw [rqT, b2_s, if_pos (XT m d hm1 hm hd), el_l, rq, b2_s, if_pos (show (0 : Int32) ≤ nI 0 ∧ nI 0 ≤ 6 by decide), el_l, ey, b2_s, hc, b1_s, u3_s]
  repeat (first | rw [if_pos (by decide)] | rw [if_neg (by decide)])
  rw [f_mean (by rw [i1]; exact t66) (by omega) y8, b2_s, b2_s, el_l, i1, avg_c az, ahd_2]
theorem to_3 (h : Ob N Y K z C) (hK : K < 800000) {m d : Nat} (hm1 : 1 ≤ m) (hm : m ≤ 96) (hd : d ≤ 5) : ∃ t, F_L_tryAhead (nI m) (nI d) (3 : Int32) C = some (fuS N (tkn N Y d m z) - fuS N z, sr C 1 t) := by
  obtain ⟨⟨⟨n1, n5⟩, y2, y8⟩, ⟨c65, c66, wf, ag⟩, sd⟩ := h
  obtain ⟨y1, ey, s65, s66, sw, sa⟩ := t_c (C := C) (q := 1) (q0 := 0) (by decide) c65 c66 n5 y8 wf
  obtain ⟨hc, t65, t66, tw⟩ := c_ahd (C := C) (by omega) y8 n5 (⟨s65, s66, sw⟩ : Tr N Y K y1) (d := d) (m := m) (by omega) (by omega) (by omega)
  obtain ⟨r1, az⟩ := ahd_c (by omega) (sa.tr ag) d m
  have i1 : ∀ (y : Pg), (sr C 1 y) 1 = y := fun y => sr_same C 1 y
  have i0 : ∀ (y : Pg), (sr C 1 y) 0 = C 0 := fun y => sr_ne C y (by decide)
  refine ⟨(ahd N Y d m y1).2, ?_⟩
  show F_L_tryAhead (nI m) (nI d) (nI 3) C = _
  unfold F_L_tryAhead F_X8_ahead
  rw [rqT, b2_s, if_pos (XT m d hm1 hm hd), el_l, rq, b2_s, if_pos (show (0 : Int32) ≤ nI 3 ∧ nI 3 ≤ 6 by decide), el_l, ey, b2_s, hc, b1_s, u3_s]
  repeat (first | rw [if_pos (by decide)] | rw [if_neg (by decide)])
  rw [f_fuel (by rw [i1]; exact t65) n5, b2_s, f_fuel (by rw [i0]; exact c65) n5, b2_s, b2_s, el_l, i1, i0, fuS_c az, fuS_c ag, ahd_2]
theorem to_4 (h : Ob N Y K z C) (hK : K < 800000) {m d : Nat} (hm1 : 1 ≤ m) (hm : m ≤ 96) (hd : d ≤ 5) : ∃ t, F_L_tryAhead (nI m) (nI d) (4 : Int32) C = some (stS N (tkn N Y d m z) - stS N z, sr C 1 t) := by
  obtain ⟨⟨⟨n1, n5⟩, y2, y8⟩, ⟨c65, c66, wf, ag⟩, sd⟩ := h
  obtain ⟨y1, ey, s65, s66, sw, sa⟩ := t_c (C := C) (q := 1) (q0 := 0) (by decide) c65 c66 n5 y8 wf
  obtain ⟨hc, t65, t66, tw⟩ := c_ahd (C := C) (by omega) y8 n5 (⟨s65, s66, sw⟩ : Tr N Y K y1) (d := d) (m := m) (by omega) (by omega) (by omega)
  obtain ⟨r1, az⟩ := ahd_c (by omega) (sa.tr ag) d m
  have i1 : ∀ (y : Pg), (sr C 1 y) 1 = y := fun y => sr_same C 1 y
  have i0 : ∀ (y : Pg), (sr C 1 y) 0 = C 0 := fun y => sr_ne C y (by decide)
  refine ⟨(ahd N Y d m y1).2, ?_⟩
  show F_L_tryAhead (nI m) (nI d) (nI 4) C = _
  unfold F_L_tryAhead F_X8_ahead
  rw [rqT, b2_s, if_pos (XT m d hm1 hm hd), el_l, rq, b2_s, if_pos (show (0 : Int32) ≤ nI 4 ∧ nI 4 ≤ 6 by decide), el_l, ey, b2_s, hc, b1_s, u3_s]
  repeat (first | rw [if_pos (by decide)] | rw [if_neg (by decide)])
  rw [f_starts (by rw [i1]; exact t65) n5, b2_s, f_starts (by rw [i0]; exact c65) n5, b2_s, b2_s, el_l, i1, i0, stS_c az, stS_c ag, ahd_2]
theorem to_5 (h : Ob N Y K z C) (hK : K < 800000) {m d : Nat} (hm1 : 1 ≤ m) (hm : m ≤ 96) (hd : d ≤ 5) : ∃ t, F_L_tryAhead (nI m) (nI d) (5 : Int32) C = some (tkn N Y d m z 11 - z 11, sr C 1 t) := by
  obtain ⟨⟨⟨n1, n5⟩, y2, y8⟩, ⟨c65, c66, wf, ag⟩, sd⟩ := h
  obtain ⟨y1, ey, s65, s66, sw, sa⟩ := t_c (C := C) (q := 1) (q0 := 0) (by decide) c65 c66 n5 y8 wf
  obtain ⟨hc, t65, t66, tw⟩ := c_ahd (C := C) (by omega) y8 n5 (⟨s65, s66, sw⟩ : Tr N Y K y1) (d := d) (m := m) (by omega) (by omega) (by omega)
  obtain ⟨r1, az⟩ := ahd_c (by omega) (sa.tr ag) d m
  have i1 : ∀ (y : Pg), (sr C 1 y) 1 = y := fun y => sr_same C 1 y
  have i0 : ∀ (y : Pg), (sr C 1 y) 0 = C 0 := fun y => sr_ne C y (by decide)
  refine ⟨(ahd N Y d m y1).2, ?_⟩
  show F_L_tryAhead (nI m) (nI d) (nI 5) C = _
  unfold F_L_tryAhead F_X8_ahead
  rw [rqT, b2_s, if_pos (XT m d hm1 hm hd), el_l, rq, b2_s, if_pos (show (0 : Int32) ≤ nI 5 ∧ nI 5 ≤ 6 by decide), el_l, ey, b2_s, hc, b1_s, u3_s]
  repeat (first | rw [if_pos (by decide)] | rw [if_neg (by decide)])
  rw [b2_s, el_l, i1, i0, az.1 11 (by decide), ag.1 11 (by decide), ahd_2]
theorem to_6 (h : Ob N Y K z C) (hK : K < 800000) {m d : Nat} (hm1 : 1 ≤ m) (hm : m ≤ 96) (hd : d ≤ 5) : ∃ t, F_L_tryAhead (nI m) (nI d) (6 : Int32) C = some ((ahd N Y d m z).1, sr C 1 t) := by
  obtain ⟨⟨⟨n1, n5⟩, y2, y8⟩, ⟨c65, c66, wf, ag⟩, sd⟩ := h
  obtain ⟨y1, ey, s65, s66, sw, sa⟩ := t_c (C := C) (q := 1) (q0 := 0) (by decide) c65 c66 n5 y8 wf
  obtain ⟨hc, t65, t66, tw⟩ := c_ahd (C := C) (by omega) y8 n5 (⟨s65, s66, sw⟩ : Tr N Y K y1) (d := d) (m := m) (by omega) (by omega) (by omega)
  obtain ⟨r1, az⟩ := ahd_c (by omega) (sa.tr ag) d m
  have i1 : ∀ (y : Pg), (sr C 1 y) 1 = y := fun y => sr_same C 1 y
  have i0 : ∀ (y : Pg), (sr C 1 y) 0 = C 0 := fun y => sr_ne C y (by decide)
  refine ⟨(ahd N Y d m y1).2, ?_⟩
  show F_L_tryAhead (nI m) (nI d) (nI 6) C = _
  unfold F_L_tryAhead F_X8_ahead
  rw [rqT, b2_s, if_pos (XT m d hm1 hm hd), el_l, rq, b2_s, if_pos (show (0 : Int32) ≤ nI 6 ∧ nI 6 ≤ 6 by decide), el_l, ey, b2_s, hc, b1_s, u3_s]
  repeat (first | rw [if_pos (by decide)] | rw [if_neg (by decide)])
  rw [b2_s, el_l, r1]
theorem to_w (h : Ob N Y K z C) (hK : K < 800000) {x d : Nat} (hx : x ≤ 99) (hd : d ≤ 5) : ∃ t, F_L_tryWarmAfter (nI x) (nI d) C = some (waf N Y d (nI x) 200 0 z, sr C 1 t) := by
  obtain ⟨⟨⟨n1, n5⟩, y2, y8⟩, ⟨c65, c66, wf, ag⟩, sd⟩ := h
  obtain ⟨y1, ey, s65, s66, sw, sa⟩ := t_c (C := C) (q := 1) (q0 := 0) (by decide) c65 c66 n5 y8 wf
  obtain ⟨o, t', eo, ep⟩ := c_warm (C := C) (by omega) y8 n5 (d := d) (by omega) (nI x) (by omega) 200 0 y1 799 (by decide) (⟨s65, s66, sw⟩ : Tr N Y (K + 0) y1)
  have eo' : iter (fun z => S_X8_warmAfter_26 (nI x) (nI d) z.1 z.2) fuel ((0 : Int32), sr C 1 y1) = some o := by
    rw [show fuel = 200 + 1 + 799 by decide]
    exact eo
  refine ⟨t', ?_⟩
  unfold F_L_tryWarmAfter F_X8_warmAfter
  rw [rq, b2_s, if_pos (show (0 : Int32) ≤ nI x ∧ nI x ≤ 99 from ⟨nI_pos' (by omega), nI_le hx (by decide)⟩), el_l, rq, b2_s, if_pos (show (0 : Int32) ≤ nI d ∧ nI d ≤ 5 from ⟨nI_pos' (by omega), nI_le hd (by decide)⟩), el_l, ey, b2_s, eo', b1_s, ep, b2_s, el_l, waf_c (by omega) d (nI x) 200 0 y1 z (sa.tr ag)]
theorem to_b (h : Ob N Y K z C) (hK : K < 800000) {n x : Nat} (hn1 : 1 ≤ n) (hn : n ≤ 96) (hx1 : 10 ≤ x) (hx : x ≤ 80) : ∃ t, F_L_tryBearable (nI n) (nI x) C = some (brf N Y n (nI x) z 6, sr C 1 t) := by
  obtain ⟨⟨⟨n1, n5⟩, y2, y8⟩, ⟨c65, c66, wf, ag⟩, sd⟩ := h
  obtain ⟨o, t', eo, ep⟩ := c_bear (C := C) (by omega) y8 n5 (n := n) (by omega) (nI x) (by omega) c65 c66 wf 6 (C 1) 993 (by decide)
  rw [sr_self] at eo
  have eo' : iter (fun z => S_X8_bearable_17 (nI n) (nI x) z.1 z.2) fuel ((5 : Int32), C) = some o := by
    rw [show fuel = 6 + 1 + 993 by decide]
    exact eo
  refine ⟨t', ?_⟩
  unfold F_L_tryBearable F_X8_bearable
  rw [rq, b2_s, if_pos (show (1 : Int32) ≤ nI n ∧ nI n ≤ 96 from ⟨nI_le hn1 (by omega), nI_le hn (by decide)⟩), el_l, rq, b2_s, if_pos (show (10 : Int32) ≤ nI x ∧ nI x ≤ 80 from ⟨nI_le hx1 (by omega), nI_le hx (by decide)⟩), el_l, eo', b1_s, ep, b2_s, el_l, brf_c (by omega) n (nI x) ag 6]
theorem cpC_c (h1 : 1 ≤ Y) {y z : Pg} (h : Agree N Y y z) (d m : Nat) : fe (cpC N Y d m y) 5 (-9, 0) = fe (cpC N Y d m z) 5 (-9, 0) := fe_cong fun i t _ => by
  unfold cpC
  rw [cpf_c h1 h]
theorem to_p (h : Ob N Y K z C) (hK : K < 800000) {n d : Nat} (hn1 : 1 ≤ n) (hn : n ≤ 96) (hd : d ≤ 5) : ∃ t, F_L_tryCheapestPurge (nI n) (nI d) C = some ((fe (cpC N Y d n z) 5 (-9, 0)).1, sr C 1 t) := by
  obtain ⟨⟨⟨n1, n5⟩, y2, y8⟩, ⟨c65, c66, wf, ag⟩, sd⟩ := h
  obtain ⟨t', w1, w2, eo⟩ := c_cheap (C := C) (by omega) y8 n5 (d := d) (n := n) (by omega) (by omega) (by omega) c65 c66 wf
  refine ⟨t', ?_⟩
  unfold F_L_tryCheapestPurge F_X8_cheapestPurge
  rw [rqT, b2_s, if_pos (XT n d hn1 hn hd), el_l, nm_s, show kLeast ((2 : Int32)).toNatClampNeg = 1 by decide, eo, b1_s, u4_s, b2_s, el_l, cpC_c (by omega) ag]
def smV (N Y m : Nat) (x : Int64) (z : Pg) : Int32 := (1000 : Int32) * (fuS N (smd N Y m x z).2 - fuS N z) + avg Y (smd N Y m x z).2
theorem to_s (h : Ob N Y K z C) (hK : K < 800000) {m : Nat} (hm1 : 1 ≤ m) (hm : m ≤ 96) (x : Int64) : ∃ t, F_L_trySimulate x (nI m) C = some (smV N Y m x z, sr C 1 t) := by
  obtain ⟨⟨⟨n1, n5⟩, y2, y8⟩, ⟨c65, c66, wf, ag⟩, sd⟩ := h
  obtain ⟨y1, ey, s65, s66, sw, sa⟩ := t_c (C := C) (q := 1) (q0 := 0) (by decide) c65 c66 n5 y8 wf
  obtain ⟨hc, ht⟩ := c_sim (C := C) (by omega) y8 n5 (m := m) (by omega) (by omega) x (⟨s65, s66, sw⟩ : Tr N Y K y1)
  have i1 : ∀ (z : Pg), (sr C 1 z) 1 = z := fun z => sr_same C 1 z
  have i0 : ∀ (z : Pg), (sr C 1 z) 0 = C 0 := fun z => sr_ne C z (by decide)
  have gz := smd_c (by omega) (sa.tr ag) m x
  refine ⟨(smd N Y m x y1).2, ?_⟩
  unfold F_L_trySimulate F_X8_simulate smV
  rw [rq, b2_s, if_pos (show (1 : Int32) ≤ nI m ∧ nI m ≤ 96 from ⟨nI_le hm1 (by omega), nI_le hm (by decide)⟩), el_l, ey, b2_s, hc, b1_s, u3_s, f_fuel (by rw [i1]; exact ht.1) n5, b2_s, f_fuel (by rw [i0]; exact c65) n5, b2_s, f_mean (by rw [i1]; exact ht.2.1) (by omega) y8, b2_s, i1, i0, b2_s, el_l, fuS_c gz, avg_c gz, fuS_c ag]
theorem to_c (h : Ob N Y K z C) (hK : K < 600000) {n σ : Nat} (hn1 : 1 ≤ n) (hn3 : n ≤ 3) (hσ : σ < pw n) : ∃ t, F_L_tryScript (nI n) (lN σ) C = some (scf N Y σ n 0 z, sr C 1 t) := by
  obtain ⟨⟨⟨n1, n5⟩, y2, y8⟩, ⟨c65, c66, wf, ag⟩, sd⟩ := h
  have hp2 : 0 < pw n ∧ pw n < 4611686018427387904 := by
    rcases (show n = 1 ∨ n = 2 ∨ n = 3 by omega) with rfl | rfl | rfl <;> decide
  have hσ15 : σ < 1000000000000000 := Nat.lt_of_lt_of_le hσ (by
    rcases (show n = 1 ∨ n = 2 ∨ n = 3 by omega) with rfl | rfl | rfl <;> decide)
  have e0 : (0 : Int64).toInt = 0 := rfl
  have hall : lN (pw (n - 1)) * (100000 : Int64) = lN (pw n) := by
    obtain ⟨k, rfl⟩ : ∃ k, n = k + 1 := ⟨n - 1, by omega⟩
    exact lN_mul (pw k) 100000
  obtain ⟨y1, ey, s65, s66, sw, sa⟩ := t_c (C := C) (q := 1) (q0 := 0) (by decide) c65 c66 n5 y8 wf
  obtain ⟨o, t', eo, ep⟩ := c_run (C := C) n1 n5 (by omega) y8 (by omega) hσ15 hn3 n 0 y1 (999 - n) (by omega) (⟨s65, s66, sw⟩ : Tr N Y (K + 96 * 0) y1)
  have eo' : iter (fun z => S_X8_runScript_74 (nI n) (lN σ) z.1 z.2.1 z.2.2) fuel (lN (pw (n - 1)), (0 : Int32), sr C 1 y1) = some o := by
    rw [show fuel = n + 1 + (999 - n) by unfold fuel; omega]
    have : pw n / 100000 = pw (n - 1) := by
      obtain ⟨k, rfl⟩ : ∃ k, n = k + 1 := ⟨n - 1, by omega⟩
      exact pw_d k
    rw [this] at eo
    exact eo
  have hs2 : (lN σ).toInt = σ := L_int (by omega)
  refine ⟨t', ?_⟩
  unfold F_L_tryScript F_X8_runScript
  rw [rq, b2_s, if_pos (show (1 : Int32) ≤ nI n ∧ nI n ≤ 3 from ⟨nI_le hn1 (by omega), nI_le hn3 (by decide)⟩), el_l, nm_s, c_place C hn1 hn3, b1_s, u3_s, hall, if_neg (fun q => by have := (lg_cmp_lt _ _).mp q; rw [fa_lt64, e0, hs2] at this; omega), if_pos ((lg_cmp_lt _ _).mpr (by rw [fa_lt64, L_int hp2.2, hs2]; omega)), ey, b2_s, eo', b1_s, ep, b2_s, el_l, scf_c (by omega) σ n 0 y1 z (sa.tr ag)]
/-- the smallest set -/
theorem to_m (h : Ob N Y K z C) {x : Nat} (hx1 : 1 ≤ x) (hx : x ≤ 150) (w : Int32) : F_L_trySmallestSet (nI x) w C = some ((if bss N (nI x) z = 0 then -9 else if w = 0 then pwA N (nI (bss N (nI x) z)) z else nI (bss N (nI x) z)), C) := by
  obtain ⟨⟨⟨n1, n5⟩, y2, y8⟩, ⟨c65, c66, wf, ag⟩, sd⟩ := h
  have hb : bss N (nI x) (C 0) ≤ 2 ^ N - 1 := fe_inv (f := bsf N (nI x) (C 0)) (I := fun i b => b ≤ i) (Nat.le_refl 0) fun i b _ h => bsf_le h
  have t2 := (two_n N (by omega)).2.1
  rw [← bss_c ag, ← pwA_c ag]
  unfold F_L_trySmallestSet F_X8_smallestSet
  rw [rq, b2_s, if_pos (show (1 : Int32) ≤ nI x ∧ nI x ≤ 150 from ⟨nI_le hx1 (by omega), nI_le hx (by decide)⟩), el_l, c_set c65 n5 (nI x), b1_s, u3_s]
  by_cases c0 : bss N (nI x) (C 0) = 0
  · rw [c0, if_pos (by decide), if_pos rfl, b2_s, el_l]
  · rw [if_neg (nI_ne0 (by omega) (by omega)), if_neg c0]
    by_cases cw : w = 0
    · rw [if_pos cw, if_pos cw, f_powerOf c65 n5, b2_s, b2_s, el_l]
    · rw [if_neg cw, if_neg cw, b2_s, el_l]
end FORE
