/-! contracts of the law's methods, by program out of the bytecode -/
theorem kcL_100 : Cond.constant RL 100 15515971 ∈ lw_g := lg 557 (by decide +kernel) rfl
theorem kcL_101 : Cond.constant RL 101 2147483647 ∈ lw_g := lg 558 (by decide +kernel) rfl
set_option maxHeartbeats 4000000 in
set_option maxRecDepth 100000 in
theorem c_L_number (l : Launch) (G : GG) (b L : Nat) (xs : Nat → Int32) (hbG : b < bb G) (hfl : l.stackTraces = false) (x1 : Int32) (C D : Mem) (rR : Int32) (CR DR : Mem) (hF : F_L_number xs L x1 C D = some (rR, CR, DR)) : Ct2 l yL_number cL_number 2 (some .int) (rmX 0 0 0 0) 0 0 G b L xs C D [.ref b, .int x1] (some (.int rR)) CR DR := by
  refine Ct2.of (by decide) (Nat.le_of_ble_eq_true rfl) ?_
  intro p e s m below meth c ls hC hr hlk hX hw hq hl
  have hn : 244 ≤ 244 := Nat.le_refl _
  have hx := hC.1
  have hb := hC.2.1
  have hS : LW G s s.heap [] := va_S.rf
  have hl : lv_has ls 2 [(0, .ref b), (1, .int x1)] := hl
  unfold F_L_number at hF
  suffices key : ∀ (H : Heap) (locs : List Loc), Wd G 244 C H → LW G s H locs → Oq G D H → W p l e (rmX 0 0 0 0) s m ([.ref b, .int x1] : List Value).toArray below meth c H locs 0 0 (MQ below (QR2 G (some (.int rR)) CR DR) ([.ref b, .int x1] : List Value).toArray s 0 0 (frA G)) (F0 m 0 ls []) by exact key _ _ hw hS hq
  intro H locs hw hS hq
  refine lv_iload_n hx hb dL_number_0 rfl (lv_at hl 1 rfl) ?_
  refine lv_aload_n hx hb dL_number_1 rfl (lv_at hl 0 rfl) ?_
  refine va_slen hx hb hX (Nat.lt_of_lt_of_le hbG hC.2.2.2.2.2.2.1) (Nat.not_le.mpr hbG) hS dL_number_2 ?_
  refine lv_icmp_ge (tgt := 12) hx hb dL_number_3 (by decide) (fun h1 => ?_) (fun h1 => ?_)
  · have hF := it_t h1 hF
    refine lv_ldc (v := 15515971) hx hb hC.2.2.2.1 (hC.2.2.2.2.1 _ kcL_100) dL_number_12 ?_
    refine lv_iload_n hx hb dL_number_14 rfl (lv_at hl 1 rfl) ?_
    refine lv_iconst (v := 5) hx hb dL_number_15 (by decide) ?_
    refine lv_iadd hx hb dL_number_16 ?_
    refine lv_imul hx hb dL_number_17 ?_
    refine lv_sipush (v := 10007) hx hb dL_number_18 (by decide) ?_
    refine lv_iadd hx hb dL_number_21 ?_
    refine lv_ldc (v := 2147483647) hx hb hC.2.2.2.1 (hC.2.2.2.2.1 _ kcL_101) dL_number_22 ?_
    refine lv_iand hx hb dL_number_24 ?_
    exact m_iret2 hC hr hlk hw hq hS (by decide) (by decide) dL_number_25 hF
  · have hF := it_f h1 hF
    refine lv_aload_n hx hb dL_number_6 rfl (lv_at hl 0 rfl) ?_
    refine lv_iload_n hx hb dL_number_7 rfl (lv_at hl 1 rfl) ?_
    obtain ⟨g2, hF⟩ := gi_t hF
    refine va_sld hx hb hX (Nat.lt_of_lt_of_le hbG hC.2.2.2.2.2.2.1) (Nat.not_le.mpr hbG) hS g2 dL_number_8 ?_
    refine lv_goto (tgt := 22) hx hb dL_number_9 (by decide) ?_
    refine lv_ldc (v := 2147483647) hx hb hC.2.2.2.1 (hC.2.2.2.2.1 _ kcL_101) dL_number_22 ?_
    refine lv_iand hx hb dL_number_24 ?_
    exact m_iret2 hC hr hlk hw hq hS (by decide) (by decide) dL_number_25 hF
theorem wwL_102 : WSW RL 102 yL_tryAppend cL_tryAppend 3 (some .int) [(0, 5, 6, 13), (0, 5, 11, 15)] 2 := ⟨(lg 569 (by decide +kernel) rfl), (lg 570 (by decide +kernel) rfl), (lg 16 (by decide +kernel) rfl), (lg 571 (by decide +kernel) rfl), ⟨by decide +kernel, by decide +kernel⟩, by decide +kernel⟩
set_option maxHeartbeats 4000000 in
set_option maxRecDepth 100000 in
theorem c_L_put (l : Launch) (G : GG) (b L : Nat) (xs : Nat → Int32) (hbG : b < bb G) (hfl : l.stackTraces = false) (x2 : Int32) (C D : Mem) (rR : Int32) (CR DR : Mem) (hF : F_L_put x2 C D = some (rR, CR, DR)) : Ct2 l yL_put cL_put 3 (some .boolean) (rmX 9 151 4 24) 4 24 G b L xs C D [.ref (bb G + 0), .ref (bb G + 244), .int x2] (some (.int rR)) CR DR := by
  refine Ct2.of (by decide) (Nat.le_of_ble_eq_true rfl) ?_
  intro p e s m below meth c ls hC hr hlk hX hw hq hl
  have hn : 244 ≤ 244 := Nat.le_refl _
  have hx := hC.1
  have hb := hC.2.1
  have hS : LW G s s.heap [] := va_S.rf
  have hl : lv_has ls 3 [(0, .ref (bb G + 0)), (1, .ref (bb G + 244)), (2, .int x2)] := hl
  unfold F_L_put at hF
  suffices key : ∀ (H : Heap) (locs : List Loc), Wd G 244 C H → LW G s H locs → Oq G D H → W p l e (rmX 9 151 4 24) s m ([.ref (bb G + 0), .ref (bb G + 244), .int x2] : List Value).toArray below meth c H locs 0 0 (MQ below (QR2 G (some (.int rR)) CR DR) ([.ref (bb G + 0), .ref (bb G + 244), .int x2] : List Value).toArray s 4 24 (frA G)) (F0 m 0 ls []) by exact key _ _ hw hS hq
  intro H locs hw hS hq
  refine lv_aload_n hx hb dL_put_0 rfl (lv_at hl 0 rfl) ?_
  refine lv_iload_n hx hb dL_put_1 rfl (lv_at hl 2 rfl) ?_
  obtain ⟨r1, C3, hc2, hF⟩ := b2_t hF
  refine call_SWE hC (c_L_tryAppend l (gP G H) (H.size - bb G) (hw.lp hn) (Nat.zero_le _) hfl x2 _ _ _ hc2) wwL_102 ⟨rfl, rfl, by decide, by decide⟩ hw hn hS hl.1 rfl (rest := []) rfl (Nat.le_of_ble_eq_true rfl) dL_put_2 ⟨(show 0 + 2 ≤ 4 by omega), (show 0 + 12 ≤ 24 by omega)⟩ (fun H locs hw hS hk => ?_)
  have hq := hq.kp hk
  refine lv_if_le (tgt := 20) hx hb dL_put_5 (by decide) (fun h4 => ?_) (fun h4 => ?_)
  · have hF := it_t h4 hF
    refine lv_iconst (v := 0) hx hb dL_put_20 (by decide) ?_
    exact m_zret2 hC hr hlk hw hq hS (by decide) (by decide) dL_put_21 (by decide) hF
  · have hF := it_f h4 hF
    refine lv_aload_n hx hb dL_put_8 rfl (lv_at hl 1 rfl) ?_
    refine lv_iload_n hx hb dL_put_9 rfl (lv_at hl 2 rfl) ?_
    obtain ⟨r5, D7, hc6, hF⟩ := b2_t hF
    refine call_SWQ hC (c_L_tryAppend l (gQ G H) (H.size - (bb G + 244)) hq.lq (Nat.zero_le _) hfl x2 _ _ _ hc6) wwL_102 ⟨rfl, rfl, by decide, by decide⟩ hw hq hS hl.1 rfl (rest := []) rfl (Nat.le_of_ble_eq_true rfl) dL_put_10 ⟨(show 2 + 2 ≤ 4 by omega), (show 12 + 12 ≤ 24 by omega)⟩ (fun H locs hq hS hk => ?_)
    have hw := hw.kq hk
    refine lv_if_le (tgt := 20) hx hb dL_put_13 (by decide) (fun h8 => ?_) (fun h8 => ?_)
    · have hF := it_t h8 hF
      refine lv_iconst (v := 0) hx hb dL_put_20 (by decide) ?_
      exact m_zret2 hC hr hlk hw hq hS (by decide) (by decide) dL_put_21 (by decide) hF
    · have hF := it_f h8 hF
      refine lv_iconst (v := 1) hx hb dL_put_16 (by decide) ?_
      refine lv_goto (tgt := 21) hx hb dL_put_17 (by decide) ?_
      exact m_zret2 hC hr hlk hw hq hS (by decide) (by decide) dL_put_21 (by decide) hF
set_option maxRecDepth 1000000 in
theorem wsL_108 : WS RL 108 yL_put cL_put 3 (some .boolean) 3 := ⟨(lg 566 rfl rfl), (lg 567 rfl rfl), (lg 16 rfl rfl), (lg 568 rfl rfl), ⟨by decide +kernel, by decide +kernel⟩, by decide +kernel⟩
set_option maxHeartbeats 4000000 in
set_option maxRecDepth 100000 in
theorem c_L_two (l : Launch) (G : GG) (b L : Nat) (xs : Nat → Int32) (hbG : b < bb G) (hfl : l.stackTraces = false) (x2 : Int32) (C D : Mem) (rR : Int32) (CR DR : Mem) (hF : F_L_two x2 C D = some (rR, CR, DR)) : Ct2 l yL_two cL_two 3 (some .boolean) (rmX 10 173 8 48) 8 48 G b L xs C D [.ref (bb G + 0), .ref (bb G + 244), .int x2] (some (.int rR)) CR DR := by
  refine Ct2.of (by decide) (Nat.le_of_ble_eq_true rfl) ?_
  intro p e s m below meth c ls hC hr hlk hX hw hq hl
  have hn : 244 ≤ 244 := Nat.le_refl _
  have hx := hC.1
  have hb := hC.2.1
  have hS : LW G s s.heap [] := va_S.rf
  have hl : lv_has ls 3 [(0, .ref (bb G + 0)), (1, .ref (bb G + 244)), (2, .int x2)] := hl
  unfold F_L_two at hF
  suffices key : ∀ (H : Heap) (locs : List Loc), Wd G 244 C H → LW G s H locs → Oq G D H → W p l e (rmX 10 173 8 48) s m ([.ref (bb G + 0), .ref (bb G + 244), .int x2] : List Value).toArray below meth c H locs 0 0 (MQ below (QR2 G (some (.int rR)) CR DR) ([.ref (bb G + 0), .ref (bb G + 244), .int x2] : List Value).toArray s 8 48 (frA G)) (F0 m 0 ls []) by exact key _ _ hw hS hq
  intro H locs hw hS hq
  refine lv_aload_n hx hb dL_two_0 rfl (lv_at hl 0 rfl) ?_
  refine lv_aload_n hx hb dL_two_1 rfl (lv_at hl 1 rfl) ?_
  refine lv_bipush (v := 48) hx hb dL_two_2 (by decide) ?_
  refine lv_iload_n hx hb dL_two_4 rfl (lv_at hl 2 rfl) ?_
  refine lv_bipush (v := 10) hx hb dL_two_5 (by decide) ?_
  refine lv_idiv hx hb dL_two_7 (by decide) ?_
  refine lv_iadd hx hb dL_two_8 ?_
  obtain ⟨r1, C3, D4, hc2, hF⟩ := b3_t hF
  refine call_S2 hC (c_L_put l G b L xs hbG hfl ((48 : Int32) + (x2 / (10 : Int32))) _ _ _ _ _ hc2) wsL_108 ⟨rfl, rfl, by decide, by decide⟩ hX hbG hw hq hS hl.1 rfl (rest := []) rfl (Nat.le_of_ble_eq_true rfl) dL_two_9 ⟨(show 0 + 4 ≤ 8 by omega), (show 0 + 24 ≤ 48 by omega)⟩ (fun H locs hw hq hS => ?_)
  refine lv_if_eq (tgt := 34) hx hb dL_two_12 (by decide) (fun h5 => ?_) (fun h5 => ?_)
  · have hF := it_t h5 hF
    refine lv_iconst (v := 0) hx hb dL_two_34 (by decide) ?_
    exact m_zret2 hC hr hlk hw hq hS (by decide) (by decide) dL_two_35 (by decide) hF
  · have hF := it_f h5 hF
    refine lv_aload_n hx hb dL_two_15 rfl (lv_at hl 0 rfl) ?_
    refine lv_aload_n hx hb dL_two_16 rfl (lv_at hl 1 rfl) ?_
    refine lv_bipush (v := 48) hx hb dL_two_17 (by decide) ?_
    refine lv_iload_n hx hb dL_two_19 rfl (lv_at hl 2 rfl) ?_
    refine lv_bipush (v := 10) hx hb dL_two_20 (by decide) ?_
    refine lv_irem hx hb dL_two_22 (by decide) ?_
    refine lv_iadd hx hb dL_two_23 ?_
    obtain ⟨r6, C8, D9, hc7, hF⟩ := b3_t hF
    refine call_S2 hC (c_L_put l G b L xs hbG hfl ((48 : Int32) + (x2 - x2 / (10 : Int32) * (10 : Int32))) _ _ _ _ _ hc7) wsL_108 ⟨rfl, rfl, by decide, by decide⟩ hX hbG hw hq hS hl.1 rfl (rest := []) rfl (Nat.le_of_ble_eq_true rfl) dL_two_24 ⟨(show 4 + 4 ≤ 8 by omega), (show 24 + 24 ≤ 48 by omega)⟩ (fun H locs hw hq hS => ?_)
    refine lv_if_eq (tgt := 34) hx hb dL_two_27 (by decide) (fun h10 => ?_) (fun h10 => ?_)
    · have hF := it_t h10 hF
      refine lv_iconst (v := 0) hx hb dL_two_34 (by decide) ?_
      exact m_zret2 hC hr hlk hw hq hS (by decide) (by decide) dL_two_35 (by decide) hF
    · have hF := it_f h10 hF
      refine lv_iconst (v := 1) hx hb dL_two_30 (by decide) ?_
      refine lv_goto (tgt := 35) hx hb dL_two_31 (by decide) ?_
      exact m_zret2 hC hr hlk hw hq hS (by decide) (by decide) dL_two_35 (by decide) hF
theorem wwL_129 : WSW RL 129 yL_tryAbout cL_tryAbout 3 (some .int) [(0, 5, 6, 13)] 2 := ⟨(lg 379 (by decide +kernel) rfl), (lg 380 (by decide +kernel) rfl), (lg 16 (by decide +kernel) rfl), (lg 381 (by decide +kernel) rfl), ⟨by decide +kernel, by decide +kernel⟩, by decide +kernel⟩
theorem wwL_132 : WSW RL 132 yL_tryLayer cL_tryLayer 3 (some .int) [(0, 5, 6, 28)] 2 := ⟨(lg 592 (by decide +kernel) rfl), (lg 593 (by decide +kernel) rfl), (lg 16 (by decide +kernel) rfl), (lg 594 (by decide +kernel) rfl), ⟨by decide +kernel, by decide +kernel⟩, by decide +kernel⟩
set_option maxHeartbeats 4000000 in
set_option maxRecDepth 100000 in
theorem c_L_heat (l : Launch) (G : GG) (n : Nat) (hn : 244 ≤ n) (hn2 : 0 ≤ n) (hfl : l.stackTraces = false)  (C : Mem) (rR : Int32) (CR : Mem) (hF : F_L_heat  C = some (rR, CR)) : CtN l yL_heat cL_heat 3 (some .int) (rmX 9 151 18 108) 18 108 G n C [.ref (bb G + 0)] (some (.int rR)) CR := by
  refine CtN.of (by decide) (Nat.le_of_ble_eq_true rfl) ?_
  intro p e s m below meth c ls hC hr hlk hw hl
  have hx := hC.1
  have hb := hC.2.1
  have hS : LW G s s.heap [] := va_S.rf
  have hl : lv_has ls 3 [(0, .ref (bb G + 0))] := hl
  unfold F_L_heat at hF
  suffices key : ∀ (H : Heap) (locs : List Loc), Wd G n C H → LW G s H locs → W p l e (rmX 9 151 18 108) s m ([.ref (bb G + 0)] : List Value).toArray below meth c H locs 0 0 (MQ below (QR G n (some (.int rR)) CR) ([.ref (bb G + 0)] : List Value).toArray s 18 108 (frA G)) (F0 m 0 ls []) by exact key _ _ hw hS
  intro H locs hw hS
  refine lv_iconst (v := 0) hx hb dL_heat_0 (by decide) ?_
  refine lv_istore_n (lv' := [(1, .int (0 : Int32)), (0, .ref (bb G + 0))]) hx hb dL_heat_1 rfl hl (by decide) rfl (fun ls hl => ?_)
  refine lv_iconst (v := 0) hx hb dL_heat_2 (by decide) ?_
  refine lv_istore_n (lv' := [(2, .int (0 : Int32)), (1, .int (0 : Int32)), (0, .ref (bb G + 0))]) hx hb dL_heat_3 rfl hl (by decide) rfl (fun ls hl => ?_)
  obtain ⟨o4, hit4, hG4⟩ := b1_t hF
  have hR4 : ∀ (v5 : Int32) (v6 : Int32) (C7 : Mem) (H : Heap) (locs : List Loc) (ls : Array Slot), o4 = (v5, v6, C7) → Wd G n C7 H → LW G s H locs → lv_has ls 3 [(1, .int v5)] → W p l e (rmX 9 151 18 108) s m ([.ref (bb G + 0)] : List Value).toArray below meth c H locs 18 108 (MQ below (QR G n (some (.int rR)) CR) ([.ref (bb G + 0)] : List Value).toArray s 18 108 (frA G)) (F0 m 28 ls []) := by
    intro v5 v6 C7 H locs ls hE hw hS hl
    subst hE
    have hF := u3_t hG4
    refine lv_iload_n hx hb dL_heat_28 rfl (lv_at hl 0 rfl) ?_
    exact m_iretN hC hr hlk hw hS (by decide) (by decide) dL_heat_29 hF
  refine iter_soundN (P := fun (w4 : Nat) (x : Int32 × Int32 × Mem) => ∀ (kc4 ks4 : Nat) (H : Heap) (locs : List Loc) (ls : Array Slot), kc4 + 2 * w4 ≤ 18 → ks4 + 12 * w4 ≤ 108 → Wd G n x.2.2 H → LW G s H locs → lv_has ls 3 [(0, .ref (bb G + 0)), (1, .int x.1), (2, .int x.2.1)] → W p l e (rmX 9 151 18 108) s m ([.ref (bb G + 0)] : List Value).toArray below meth c H locs kc4 ks4 (MQ below (QR G n (some (.int rR)) CR) ([.ref (bb G + 0)] : List Value).toArray s 18 108 (frA G)) (F0 m 4 ls [])) (X := fun r => r = o4) ?_ 9 ((0 : Int32), (0 : Int32), C) o4 hit4 rfl 0 0 _ _ _ (by omega) (by omega) hw hS (lv_sub hl [2, 1, 0] rfl)
  intro w4 x oo4 hF hk4 hX4 kc4 ks4 H locs ls hc4 hs4 hw hS hl
  obtain ⟨v1, v2, C3⟩ := x
  have hF : S_L_heat_4  v1 v2 C3 = some oo4 := hF
  have hw : Wd G n C3 H := hw
  have hl : lv_has ls 3 [(0, .ref (bb G + 0)), (1, .int v1), (2, .int v2)] := hl
  unfold S_L_heat_4 at hF
  refine lv_iload_n hx hb dL_heat_4 rfl (lv_at hl 2 rfl) ?_
  refine lv_aload_n hx hb dL_heat_5 rfl (lv_at hl 0 rfl) ?_
  refine lv_bipush (v := 7) hx hb dL_heat_6 (by decide) ?_
  obtain ⟨r8, C10, hc9, hF⟩ := b2_t hF
  refine call_SWE hC (c_L_tryAbout l (gP G H) (H.size - bb G) (hw.lp hn) (Nat.zero_le _) hfl (7 : Int32) _ _ _ hc9) wwL_129 ⟨rfl, rfl, by decide, by decide⟩ hw hn hS hl.1 rfl (rest := [.int v2]) rfl (Nat.le_of_ble_eq_true rfl) dL_heat_8 ⟨(show kc4 + 1 ≤ 18 by omega), (show ks4 + 6 ≤ 108 by omega)⟩ (fun H locs hw hS hk => ?_)
  refine lv_icmp_ge (tgt := 28) hx hb dL_heat_11 (by decide) (fun h11 => ?_) (fun h11 => ?_)
  · have hF := it_t h11 hF
    refine W.widen (k := 18) (n := 108) (by omega) (by omega) ?_
    exact hR4 _ _ _ _ _ _ (it_exit hF hX4).symm hw hS (lv_sub hl [1] rfl)
  · have hF := it_f h11 hF
    refine lv_iload_n hx hb dL_heat_14 rfl (lv_at hl 1 rfl) ?_
    refine lv_aload_n hx hb dL_heat_15 rfl (lv_at hl 0 rfl) ?_
    refine lv_iload_n hx hb dL_heat_16 rfl (lv_at hl 2 rfl) ?_
    obtain ⟨r12, C14, hc13, hF⟩ := b2_t hF
    refine call_SWE hC (c_L_tryLayer l (gP G H) (H.size - bb G) (hw.lp hn) (Nat.zero_le _) hfl v2 _ _ _ hc13) wwL_132 ⟨rfl, rfl, by decide, by decide⟩ hw hn hS hl.1 rfl (rest := [.int v1]) rfl (Nat.le_of_ble_eq_true rfl) dL_heat_17 ⟨(show (kc4 + 1) + 1 ≤ 18 by omega), (show (ks4 + 6) + 6 ≤ 108 by omega)⟩ (fun H locs hw hS hk => ?_)
    refine lv_iadd hx hb dL_heat_20 ?_
    obtain ⟨v15, ev15, hF⟩ := nm_t hF
    refine lv_nmi ev15 ?_
    refine lv_istore_n (lv' := [(1, .int v15), (0, .ref (bb G + 0)), (2, .int v2)]) hx hb dL_heat_21 rfl hl (by decide) rfl (fun ls hl => ?_)
    obtain ⟨v16, ev16, hF⟩ := nm_t hF
    refine lv_iinc (v := v16) (lv' := [(2, .int v16), (1, .int v15), (0, .ref (bb G + 0))]) hx hb dL_heat_22 hl (k := 2) rfl (by rw [ev16]; rfl) (by decide) rfl (fun ls hl => ?_)
    refine lv_goto (tgt := 4) hx hb dL_heat_25 (by decide) ?_
    exact it_back hF hk4 (kc4 + 2) (ks4 + 12) _ _ _ (by omega) (by omega) hw hS (lv_sub hl [2, 1, 0] rfl)
theorem wwL_151 : WSW RL 151 yL_tryBoiler cL_tryBoiler 4 (some .int) [(0, 6, 7, 28), (0, 6, 12, 13)] 3 := ⟨(lg 655 (by decide +kernel) rfl), (lg 656 (by decide +kernel) rfl), (lg 16 (by decide +kernel) rfl), (lg 657 (by decide +kernel) rfl), ⟨by decide +kernel, by decide +kernel⟩, by decide +kernel⟩
theorem wwL_135 : WSW RL 135 yL_tryFlue cL_tryFlue 4 (some .int) [(0, 6, 7, 28), (0, 6, 12, 13)] 3 := ⟨(lg 600 (by decide +kernel) rfl), (lg 601 (by decide +kernel) rfl), (lg 16 (by decide +kernel) rfl), (lg 602 (by decide +kernel) rfl), ⟨by decide +kernel, by decide +kernel⟩, by decide +kernel⟩
theorem wwL_148 : WSW RL 148 yL_tryAccount cL_tryAccount 3 (some .int) [(0, 5, 6, 13)] 2 := ⟨(lg 644 (by decide +kernel) rfl), (lg 645 (by decide +kernel) rfl), (lg 16 (by decide +kernel) rfl), (lg 646 (by decide +kernel) rfl), ⟨by decide +kernel, by decide +kernel⟩, by decide +kernel⟩
theorem wwL_154 : WSW RL 154 yL_tryTick cL_tryTick 4 (some .int) [(0, 6, 7, 13)] 3 := ⟨(lg 675 (by decide +kernel) rfl), (lg 676 (by decide +kernel) rfl), (lg 16 (by decide +kernel) rfl), (lg 677 (by decide +kernel) rfl), ⟨by decide +kernel, by decide +kernel⟩, by decide +kernel⟩
theorem wwL_157 : WSW RL 157 yL_tryDraw cL_tryDraw 3 (some .int) [(0, 5, 6, 13)] 2 := ⟨(lg 751 (by decide +kernel) rfl), (lg 752 (by decide +kernel) rfl), (lg 16 (by decide +kernel) rfl), (lg 753 (by decide +kernel) rfl), ⟨by decide +kernel, by decide +kernel⟩, by decide +kernel⟩
theorem wwL_160 : WSW RL 160 yL_trySet cL_trySet 4 (some .int) [(0, 6, 7, 13)] 3 := ⟨(lg 759 (by decide +kernel) rfl), (lg 760 (by decide +kernel) rfl), (lg 16 (by decide +kernel) rfl), (lg 761 (by decide +kernel) rfl), ⟨by decide +kernel, by decide +kernel⟩, by decide +kernel⟩
theorem wwL_163 : WSW RL 163 yL_trySetFlue cL_trySetFlue 4 (some .int) [(0, 6, 7, 28)] 3 := ⟨(lg 774 (by decide +kernel) rfl), (lg 775 (by decide +kernel) rfl), (lg 16 (by decide +kernel) rfl), (lg 776 (by decide +kernel) rfl), ⟨by decide +kernel, by decide +kernel⟩, by decide +kernel⟩
theorem wwL_167 : WSW RL 167 yL_trySetDraft cL_trySetDraft 4 (some .int) [(0, 6, 7, 28), (0, 6, 12, 13)] 3 := ⟨(lg 785 (by decide +kernel) rfl), (lg 786 (by decide +kernel) rfl), (lg 16 (by decide +kernel) rfl), (lg 787 (by decide +kernel) rfl), ⟨by decide +kernel, by decide +kernel⟩, by decide +kernel⟩
theorem wwL_170 : WSW RL 170 yL_tryLock cL_tryLock 3 (some .int) [(0, 5, 6, 28), (0, 5, 11, 15)] 2 := ⟨(lg 792 (by decide +kernel) rfl), (lg 793 (by decide +kernel) rfl), (lg 16 (by decide +kernel) rfl), (lg 794 (by decide +kernel) rfl), ⟨by decide +kernel, by decide +kernel⟩, by decide +kernel⟩
theorem wwL_173 : WSW RL 173 yL_tryUnlock cL_tryUnlock 3 (some .int) [(0, 5, 6, 28), (0, 5, 11, 15)] 2 := ⟨(lg 801 (by decide +kernel) rfl), (lg 802 (by decide +kernel) rfl), (lg 16 (by decide +kernel) rfl), (lg 803 (by decide +kernel) rfl), ⟨by decide +kernel, by decide +kernel⟩, by decide +kernel⟩
theorem wwL_176 : WSW RL 176 yL_tryPutOff cL_tryPutOff 3 (some .int) [(0, 5, 6, 28), (0, 5, 11, 15)] 2 := ⟨(lg 809 (by decide +kernel) rfl), (lg 810 (by decide +kernel) rfl), (lg 16 (by decide +kernel) rfl), (lg 811 (by decide +kernel) rfl), ⟨by decide +kernel, by decide +kernel⟩, by decide +kernel⟩
theorem wwL_179 : WSW RL 179 yL_tryWhyNot cL_tryWhyNot 3 (some .int) [(0, 5, 6, 28)] 2 := ⟨(lg 817 (by decide +kernel) rfl), (lg 818 (by decide +kernel) rfl), (lg 16 (by decide +kernel) rfl), (lg 819 (by decide +kernel) rfl), ⟨by decide +kernel, by decide +kernel⟩, by decide +kernel⟩
theorem wwL_182 : WSW RL 182 yL_trySmallestSet cL_trySmallestSet 4 (some .int) [(0, 6, 7, 13)] 3 := ⟨(lg 825 (by decide +kernel) rfl), (lg 826 (by decide +kernel) rfl), (lg 16 (by decide +kernel) rfl), (lg 827 (by decide +kernel) rfl), ⟨by decide +kernel, by decide +kernel⟩, by decide +kernel⟩
theorem wwL_185 : WSW RL 185 yL_tryAhead cL_tryAhead 5 (some .int) [(0, 7, 8, 13)] 4 := ⟨(lg 855 (by decide +kernel) rfl), (lg 856 (by decide +kernel) rfl), (lg 16 (by decide +kernel) rfl), (lg 857 (by decide +kernel) rfl), ⟨by decide +kernel, by decide +kernel⟩, by decide +kernel⟩
theorem wwL_189 : WSW RL 189 yL_tryWarmAfter cL_tryWarmAfter 4 (some .int) [(0, 6, 7, 13)] 3 := ⟨(lg 868 (by decide +kernel) rfl), (lg 869 (by decide +kernel) rfl), (lg 16 (by decide +kernel) rfl), (lg 870 (by decide +kernel) rfl), ⟨by decide +kernel, by decide +kernel⟩, by decide +kernel⟩
theorem wwL_192 : WSW RL 192 yL_tryBearable cL_tryBearable 4 (some .int) [(0, 6, 7, 13)] 3 := ⟨(lg 875 (by decide +kernel) rfl), (lg 876 (by decide +kernel) rfl), (lg 16 (by decide +kernel) rfl), (lg 877 (by decide +kernel) rfl), ⟨by decide +kernel, by decide +kernel⟩, by decide +kernel⟩
theorem wwL_195 : WSW RL 195 yL_tryCheapestPurge cL_tryCheapestPurge 4 (some .int) [(0, 6, 7, 13)] 3 := ⟨(lg 886 (by decide +kernel) rfl), (lg 887 (by decide +kernel) rfl), (lg 16 (by decide +kernel) rfl), (lg 888 (by decide +kernel) rfl), ⟨by decide +kernel, by decide +kernel⟩, by decide +kernel⟩
theorem wwL_198 : WSW RL 198 yL_tryScript cL_tryScript 5 (some .int) [(0, 6, 7, 13)] 3 := ⟨(lg 893 (by decide +kernel) rfl), (lg 894 (by decide +kernel) rfl), (lg 16 (by decide +kernel) rfl), (lg 895 (by decide +kernel) rfl), ⟨by decide +kernel, by decide +kernel⟩, by decide +kernel⟩
theorem kcL_202 : Cond.constantLong RL 202 100000 ∈ lw_g := lg 910 (by decide +kernel) rfl
theorem wwL_204 : WSW RL 204 yL_trySimulate cL_trySimulate 5 (some .int) [(0, 6, 7, 13)] 3 := ⟨(lg 911 (by decide +kernel) rfl), (lg 912 (by decide +kernel) rfl), (lg 16 (by decide +kernel) rfl), (lg 913 (by decide +kernel) rfl), ⟨by decide +kernel, by decide +kernel⟩, by decide +kernel⟩
theorem wwL_208 : WSW RL 208 yL_trySave cL_trySave 3 (some .int) [(0, 5, 6, 28)] 2 := ⟨(lg 514 (by decide +kernel) rfl), (lg 515 (by decide +kernel) rfl), (lg 16 (by decide +kernel) rfl), (lg 516 (by decide +kernel) rfl), ⟨by decide +kernel, by decide +kernel⟩, by decide +kernel⟩
theorem wwL_142 : WSW RL 142 yL_tryRestore cL_tryRestore 3 (some .int) [(0, 5, 6, 28), (0, 5, 11, 15)] 2 := ⟨(lg 542 (by decide +kernel) rfl), (lg 543 (by decide +kernel) rfl), (lg 16 (by decide +kernel) rfl), (lg 544 (by decide +kernel) rfl), ⟨by decide +kernel, by decide +kernel⟩, by decide +kernel⟩
set_option maxHeartbeats 4000000 in
set_option maxRecDepth 100000 in
theorem c_L_refuses (l : Launch) (G : GG) (n : Nat) (hn : 244 ≤ n) (hn2 : 0 ≤ n) (hfl : l.stackTraces = false)  (C : Mem) (rR : Int32) (CR : Mem) (hF : F_L_refuses  C = some (rR, CR)) : CtN l yL_refuses cL_refuses 4 (some .boolean) (rmX 10 194 75 450) 75 450 G n C [.ref (bb G + 0)] (some (.int rR)) CR := by
  refine CtN.of (by decide) (Nat.le_of_ble_eq_true rfl) ?_
  intro p e s m below meth c ls hC hr hlk hw hl
  have hx := hC.1
  have hb := hC.2.1
  have hS : LW G s s.heap [] := va_S.rf
  have hl : lv_has ls 4 [(0, .ref (bb G + 0))] := hl
  unfold F_L_refuses at hF
  suffices key : ∀ (H : Heap) (locs : List Loc), Wd G n C H → LW G s H locs → W p l e (rmX 10 194 75 450) s m ([.ref (bb G + 0)] : List Value).toArray below meth c H locs 0 0 (MQ below (QR G n (some (.int rR)) CR) ([.ref (bb G + 0)] : List Value).toArray s 75 450 (frA G)) (F0 m 0 ls []) by exact key _ _ hw hS
  intro H locs hw hS
  refine lv_aload_n hx hb dL_refuses_0 rfl (lv_at hl 0 rfl) ?_
  refine lv_bipush (v := 6) hx hb dL_refuses_1 (by decide) ?_
  obtain ⟨r1, C3, hc2, hF⟩ := b2_t hF
  refine call_SWE hC (c_L_tryAbout l (gP G H) (H.size - bb G) (hw.lp hn) (Nat.zero_le _) hfl (6 : Int32) _ _ _ hc2) wwL_129 ⟨rfl, rfl, by decide, by decide⟩ hw hn hS hl.1 rfl (rest := []) rfl (Nat.le_of_ble_eq_true rfl) dL_refuses_3 ⟨(show 0 + 1 ≤ 75 by omega), (show 0 + 6 ≤ 450 by omega)⟩ (fun H locs hw hS hk => ?_)
  refine lv_istore_n (lv' := [(1, .int r1), (0, .ref (bb G + 0))]) hx hb dL_refuses_6 rfl hl (by decide) rfl (fun ls hl => ?_)
  refine lv_aload_n hx hb dL_refuses_7 rfl (lv_at hl 1 rfl) ?_
  refine lv_iconst (v := 0) hx hb dL_refuses_8 (by decide) ?_
  refine lv_iconst (v := 2) hx hb dL_refuses_9 (by decide) ?_
  obtain ⟨r4, C6, hc5, hF⟩ := b2_t hF
  refine call_SWE hC (c_L_tryBoiler l (gP G H) (H.size - bb G) (hw.lp hn) (Nat.zero_le _) hfl (0 : Int32) (2 : Int32) _ _ _ hc5) wwL_151 ⟨rfl, rfl, by decide, by decide⟩ hw hn hS hl.1 rfl (rest := []) rfl (Nat.le_of_ble_eq_true rfl) dL_refuses_10 ⟨(show 1 + 2 ≤ 75 by omega), (show 6 + 12 ≤ 450 by omega)⟩ (fun H locs hw hS hk => ?_)
  refine lv_istore_n (lv' := [(2, .int r4), (1, .int r1), (0, .ref (bb G + 0))]) hx hb dL_refuses_13 rfl hl (by decide) rfl (fun ls hl => ?_)
  refine lv_aload_n hx hb dL_refuses_14 rfl (lv_at hl 2 rfl) ?_
  refine lv_bipush (v := 17) hx hb dL_refuses_15 (by decide) ?_
  obtain ⟨r7, C9, hc8, hF⟩ := b2_t hF
  refine call_SWE hC (c_L_tryAbout l (gP G H) (H.size - bb G) (hw.lp hn) (Nat.zero_le _) hfl (17 : Int32) _ _ _ hc8) wwL_129 ⟨rfl, rfl, by decide, by decide⟩ hw hn hS hl.1 rfl (rest := []) rfl (Nat.le_of_ble_eq_true rfl) dL_refuses_17 ⟨(show 3 + 1 ≤ 75 by omega), (show 18 + 6 ≤ 450 by omega)⟩ (fun H locs hw hS hk => ?_)
  refine lv_sipush (v := -1002) hx hb dL_refuses_20 (by decide) ?_
  have hJ368 : ∀ (v11 : Int32) (C12 : Mem) (H : Heap) (locs : List Loc) (ls : Array Slot), J_L_refuses_368 r1 v11 C12 = some (rR, CR) → Wd G n C12 H → LW G s H locs → lv_has ls 4 [(0, .ref (bb G + 0)), (1, .int r1)] → W p l e (rmX 10 194 75 450) s m ([.ref (bb G + 0)] : List Value).toArray below meth c H locs 46 276 (MQ below (QR G n (some (.int rR)) CR) ([.ref (bb G + 0)] : List Value).toArray s 75 450 (frA G)) (F0 m 368 ls [.int v11]) := by
    intro v11 C12 H locs ls hF hw hS hl
    unfold J_L_refuses_368 at hF
    refine lv_istore_n (lv' := [(3, .int v11), (0, .ref (bb G + 0)), (1, .int r1)]) hx hb dL_refuses_368 rfl hl (by decide) rfl (fun ls hl => ?_)
    refine lv_iload_n hx hb dL_refuses_369 rfl (lv_at hl 0 rfl) ?_
    refine lv_if_eq (tgt := 581) hx hb dL_refuses_370 (by decide) (fun h13 => ?_) (fun h13 => ?_)
    · have hF := it_t h13 hF
      refine lv_iconst (v := 0) hx hb dL_refuses_581 (by decide) ?_
      exact m_zretN hC hr hlk hw hS (by decide) (by decide) dL_refuses_582 (by decide) hF
    · have hF := it_f h13 hF
      refine lv_aload_n hx hb dL_refuses_373 rfl (lv_at hl 1 rfl) ?_
      refine lv_iload_n hx hb dL_refuses_374 rfl (lv_at hl 2 rfl) ?_
      obtain ⟨r14, C16, hc15, hF⟩ := b2_t hF
      refine call_SWE hC (c_L_tryWhyNot l (gP G H) (H.size - bb G) (hw.lp hn) (Nat.zero_le _) hfl r1 _ _ _ hc15) wwL_179 ⟨rfl, rfl, by decide, by decide⟩ hw hn hS hl.1 rfl (rest := []) rfl (Nat.le_of_ble_eq_true rfl) dL_refuses_375 ⟨(show 46 + 1 ≤ 75 by omega), (show 276 + 6 ≤ 450 by omega)⟩ (fun H locs hw hS hk => ?_)
      refine lv_sipush (v := -1001) hx hb dL_refuses_378 (by decide) ?_
      refine lv_icmp_ne (tgt := 581) hx hb dL_refuses_381 (by decide) (fun h17 => ?_) (fun h17 => ?_)
      · have hF := it_f h17 hF
        refine lv_iconst (v := 0) hx hb dL_refuses_581 (by decide) ?_
        exact m_zretN hC hr hlk hw hS (by decide) (by decide) dL_refuses_582 (by decide) hF
      · have hF := it_t h17 hF
        refine lv_aload_n hx hb dL_refuses_384 rfl (lv_at hl 1 rfl) ?_
        refine lv_sipush (v := 151) hx hb dL_refuses_385 (by decide) ?_
        refine lv_iconst (v := 1) hx hb dL_refuses_388 (by decide) ?_
        obtain ⟨r18, C20, hc19, hF⟩ := b2_t hF
        refine call_SWE hC (c_L_trySmallestSet l (gP G H) (H.size - bb G) (hw.lp hn) (Nat.zero_le _) hfl (151 : Int32) (1 : Int32) _ _ _ hc19) wwL_182 ⟨rfl, rfl, by decide, by decide⟩ hw hn hS hl.1 rfl (rest := []) rfl (Nat.le_of_ble_eq_true rfl) dL_refuses_389 ⟨(show 47 + 1 ≤ 75 by omega), (show 282 + 6 ≤ 450 by omega)⟩ (fun H locs hw hS hk => ?_)
        refine lv_sipush (v := -1002) hx hb dL_refuses_392 (by decide) ?_
        refine lv_icmp_ne (tgt := 581) hx hb dL_refuses_395 (by decide) (fun h21 => ?_) (fun h21 => ?_)
        · have hF := it_f h21 hF
          refine lv_iconst (v := 0) hx hb dL_refuses_581 (by decide) ?_
          exact m_zretN hC hr hlk hw hS (by decide) (by decide) dL_refuses_582 (by decide) hF
        · have hF := it_t h21 hF
          refine lv_aload_n hx hb dL_refuses_398 rfl (lv_at hl 1 rfl) ?_
          refine lv_iconst (v := 0) hx hb dL_refuses_399 (by decide) ?_
          refine lv_iconst (v := 0) hx hb dL_refuses_400 (by decide) ?_
          obtain ⟨r22, C24, hc23, hF⟩ := b2_t hF
          refine call_SWE hC (c_L_trySmallestSet l (gP G H) (H.size - bb G) (hw.lp hn) (Nat.zero_le _) hfl (0 : Int32) (0 : Int32) _ _ _ hc23) wwL_182 ⟨rfl, rfl, by decide, by decide⟩ hw hn hS hl.1 rfl (rest := []) rfl (Nat.le_of_ble_eq_true rfl) dL_refuses_401 ⟨(show 48 + 1 ≤ 75 by omega), (show 288 + 6 ≤ 450 by omega)⟩ (fun H locs hw hS hk => ?_)
          refine lv_sipush (v := -1002) hx hb dL_refuses_404 (by decide) ?_
          refine lv_icmp_ne (tgt := 581) hx hb dL_refuses_407 (by decide) (fun h25 => ?_) (fun h25 => ?_)
          · have hF := it_f h25 hF
            refine lv_iconst (v := 0) hx hb dL_refuses_581 (by decide) ?_
            exact m_zretN hC hr hlk hw hS (by decide) (by decide) dL_refuses_582 (by decide) hF
          · have hF := it_t h25 hF
            refine lv_aload_n hx hb dL_refuses_410 rfl (lv_at hl 1 rfl) ?_
            refine lv_iconst (v := 1) hx hb dL_refuses_411 (by decide) ?_
            refine lv_iconst (v := 0) hx hb dL_refuses_412 (by decide) ?_
            refine lv_bipush (v := 7) hx hb dL_refuses_413 (by decide) ?_
            obtain ⟨r26, C28, hc27, hF⟩ := b2_t hF
            refine call_SWE hC (c_L_tryAhead l (gP G H) (H.size - bb G) (hw.lp hn) (Nat.zero_le _) hfl (1 : Int32) (0 : Int32) (7 : Int32) _ _ _ hc27) wwL_185 ⟨rfl, rfl, by decide, by decide⟩ hw hn hS hl.1 rfl (rest := []) rfl (Nat.le_of_ble_eq_true rfl) dL_refuses_415 ⟨(show 49 + 3 ≤ 75 by omega), (show 294 + 18 ≤ 450 by omega)⟩ (fun H locs hw hS hk => ?_)
            refine lv_sipush (v := -1002) hx hb dL_refuses_418 (by decide) ?_
            refine lv_icmp_ne (tgt := 581) hx hb dL_refuses_421 (by decide) (fun h29 => ?_) (fun h29 => ?_)
            · have hF := it_f h29 hF
              refine lv_iconst (v := 0) hx hb dL_refuses_581 (by decide) ?_
              exact m_zretN hC hr hlk hw hS (by decide) (by decide) dL_refuses_582 (by decide) hF
            · have hF := it_t h29 hF
              refine lv_aload_n hx hb dL_refuses_424 rfl (lv_at hl 1 rfl) ?_
              refine lv_bipush (v := 97) hx hb dL_refuses_425 (by decide) ?_
              refine lv_iconst (v := 0) hx hb dL_refuses_427 (by decide) ?_
              refine lv_iconst (v := 0) hx hb dL_refuses_428 (by decide) ?_
              obtain ⟨r30, C32, hc31, hF⟩ := b2_t hF
              refine call_SWE hC (c_L_tryAhead l (gP G H) (H.size - bb G) (hw.lp hn) (Nat.zero_le _) hfl (97 : Int32) (0 : Int32) (0 : Int32) _ _ _ hc31) wwL_185 ⟨rfl, rfl, by decide, by decide⟩ hw hn hS hl.1 rfl (rest := []) rfl (Nat.le_of_ble_eq_true rfl) dL_refuses_429 ⟨(show 52 + 3 ≤ 75 by omega), (show 312 + 18 ≤ 450 by omega)⟩ (fun H locs hw hS hk => ?_)
              refine lv_sipush (v := -1002) hx hb dL_refuses_432 (by decide) ?_
              refine lv_icmp_ne (tgt := 581) hx hb dL_refuses_435 (by decide) (fun h33 => ?_) (fun h33 => ?_)
              · have hF := it_f h33 hF
                refine lv_iconst (v := 0) hx hb dL_refuses_581 (by decide) ?_
                exact m_zretN hC hr hlk hw hS (by decide) (by decide) dL_refuses_582 (by decide) hF
              · have hF := it_t h33 hF
                refine lv_aload_n hx hb dL_refuses_438 rfl (lv_at hl 1 rfl) ?_
                refine lv_bipush (v := 100) hx hb dL_refuses_439 (by decide) ?_
                refine lv_iconst (v := 0) hx hb dL_refuses_441 (by decide) ?_
                obtain ⟨r34, C36, hc35, hF⟩ := b2_t hF
                refine call_SWE hC (c_L_tryWarmAfter l (gP G H) (H.size - bb G) (hw.lp hn) (Nat.zero_le _) hfl (100 : Int32) (0 : Int32) _ _ _ hc35) wwL_189 ⟨rfl, rfl, by decide, by decide⟩ hw hn hS hl.1 rfl (rest := []) rfl (Nat.le_of_ble_eq_true rfl) dL_refuses_442 ⟨(show 55 + 2 ≤ 75 by omega), (show 330 + 12 ≤ 450 by omega)⟩ (fun H locs hw hS hk => ?_)
                refine lv_sipush (v := -1002) hx hb dL_refuses_445 (by decide) ?_
                refine lv_icmp_ne (tgt := 581) hx hb dL_refuses_448 (by decide) (fun h37 => ?_) (fun h37 => ?_)
                · have hF := it_f h37 hF
                  refine lv_iconst (v := 0) hx hb dL_refuses_581 (by decide) ?_
                  exact m_zretN hC hr hlk hw hS (by decide) (by decide) dL_refuses_582 (by decide) hF
                · have hF := it_t h37 hF
                  refine lv_aload_n hx hb dL_refuses_451 rfl (lv_at hl 1 rfl) ?_
                  refine lv_iconst (v := 0) hx hb dL_refuses_452 (by decide) ?_
                  refine lv_bipush (v := 6) hx hb dL_refuses_453 (by decide) ?_
                  obtain ⟨r38, C40, hc39, hF⟩ := b2_t hF
                  refine call_SWE hC (c_L_tryWarmAfter l (gP G H) (H.size - bb G) (hw.lp hn) (Nat.zero_le _) hfl (0 : Int32) (6 : Int32) _ _ _ hc39) wwL_189 ⟨rfl, rfl, by decide, by decide⟩ hw hn hS hl.1 rfl (rest := []) rfl (Nat.le_of_ble_eq_true rfl) dL_refuses_455 ⟨(show 57 + 2 ≤ 75 by omega), (show 342 + 12 ≤ 450 by omega)⟩ (fun H locs hw hS hk => ?_)
                  refine lv_sipush (v := -1002) hx hb dL_refuses_458 (by decide) ?_
                  refine lv_icmp_ne (tgt := 581) hx hb dL_refuses_461 (by decide) (fun h41 => ?_) (fun h41 => ?_)
                  · have hF := it_f h41 hF
                    refine lv_iconst (v := 0) hx hb dL_refuses_581 (by decide) ?_
                    exact m_zretN hC hr hlk hw hS (by decide) (by decide) dL_refuses_582 (by decide) hF
                  · have hF := it_t h41 hF
                    refine lv_aload_n hx hb dL_refuses_464 rfl (lv_at hl 1 rfl) ?_
                    refine lv_iconst (v := 1) hx hb dL_refuses_465 (by decide) ?_
                    refine lv_bipush (v := 9) hx hb dL_refuses_466 (by decide) ?_
                    obtain ⟨r42, C44, hc43, hF⟩ := b2_t hF
                    refine call_SWE hC (c_L_tryBearable l (gP G H) (H.size - bb G) (hw.lp hn) (Nat.zero_le _) hfl (1 : Int32) (9 : Int32) _ _ _ hc43) wwL_192 ⟨rfl, rfl, by decide, by decide⟩ hw hn hS hl.1 rfl (rest := []) rfl (Nat.le_of_ble_eq_true rfl) dL_refuses_468 ⟨(show 59 + 2 ≤ 75 by omega), (show 354 + 12 ≤ 450 by omega)⟩ (fun H locs hw hS hk => ?_)
                    refine lv_sipush (v := -1002) hx hb dL_refuses_471 (by decide) ?_
                    refine lv_icmp_ne (tgt := 581) hx hb dL_refuses_474 (by decide) (fun h45 => ?_) (fun h45 => ?_)
                    · have hF := it_f h45 hF
                      refine lv_iconst (v := 0) hx hb dL_refuses_581 (by decide) ?_
                      exact m_zretN hC hr hlk hw hS (by decide) (by decide) dL_refuses_582 (by decide) hF
                    · have hF := it_t h45 hF
                      refine lv_aload_n hx hb dL_refuses_477 rfl (lv_at hl 1 rfl) ?_
                      refine lv_iconst (v := 0) hx hb dL_refuses_478 (by decide) ?_
                      refine lv_bipush (v := 10) hx hb dL_refuses_479 (by decide) ?_
                      obtain ⟨r46, C48, hc47, hF⟩ := b2_t hF
                      refine call_SWE hC (c_L_tryBearable l (gP G H) (H.size - bb G) (hw.lp hn) (Nat.zero_le _) hfl (0 : Int32) (10 : Int32) _ _ _ hc47) wwL_192 ⟨rfl, rfl, by decide, by decide⟩ hw hn hS hl.1 rfl (rest := []) rfl (Nat.le_of_ble_eq_true rfl) dL_refuses_481 ⟨(show 61 + 2 ≤ 75 by omega), (show 366 + 12 ≤ 450 by omega)⟩ (fun H locs hw hS hk => ?_)
                      refine lv_sipush (v := -1002) hx hb dL_refuses_484 (by decide) ?_
                      refine lv_icmp_ne (tgt := 581) hx hb dL_refuses_487 (by decide) (fun h49 => ?_) (fun h49 => ?_)
                      · have hF := it_f h49 hF
                        refine lv_iconst (v := 0) hx hb dL_refuses_581 (by decide) ?_
                        exact m_zretN hC hr hlk hw hS (by decide) (by decide) dL_refuses_582 (by decide) hF
                      · have hF := it_t h49 hF
                        refine lv_aload_n hx hb dL_refuses_490 rfl (lv_at hl 1 rfl) ?_
                        refine lv_bipush (v := 97) hx hb dL_refuses_491 (by decide) ?_
                        refine lv_iconst (v := 0) hx hb dL_refuses_493 (by decide) ?_
                        obtain ⟨r50, C52, hc51, hF⟩ := b2_t hF
                        refine call_SWE hC (c_L_tryCheapestPurge l (gP G H) (H.size - bb G) (hw.lp hn) (Nat.zero_le _) hfl (97 : Int32) (0 : Int32) _ _ _ hc51) wwL_195 ⟨rfl, rfl, by decide, by decide⟩ hw hn hS hl.1 rfl (rest := []) rfl (Nat.le_of_ble_eq_true rfl) dL_refuses_494 ⟨(show 63 + 2 ≤ 75 by omega), (show 378 + 12 ≤ 450 by omega)⟩ (fun H locs hw hS hk => ?_)
                        refine lv_sipush (v := -1002) hx hb dL_refuses_497 (by decide) ?_
                        refine lv_icmp_ne (tgt := 581) hx hb dL_refuses_500 (by decide) (fun h53 => ?_) (fun h53 => ?_)
                        · have hF := it_f h53 hF
                          refine lv_iconst (v := 0) hx hb dL_refuses_581 (by decide) ?_
                          exact m_zretN hC hr hlk hw hS (by decide) (by decide) dL_refuses_582 (by decide) hF
                        · have hF := it_t h53 hF
                          refine lv_aload_n hx hb dL_refuses_503 rfl (lv_at hl 1 rfl) ?_
                          refine lv_iconst (v := 4) hx hb dL_refuses_504 (by decide) ?_
                          refine lv_lconst (v := 0) hx hb dL_refuses_505 (by decide) ?_
                          obtain ⟨r54, C56, hc55, hF⟩ := b2_t hF
                          refine call_SWE hC (c_L_tryScript l (gP G H) (H.size - bb G) (hw.lp hn) (Nat.zero_le _) hfl (4 : Int32) (0 : Int64) _ _ _ hc55) wwL_198 ⟨rfl, rfl, by decide, by decide⟩ hw hn hS hl.1 rfl (rest := []) rfl (Nat.le_of_ble_eq_true rfl) dL_refuses_506 ⟨(show 65 + 2 ≤ 75 by omega), (show 390 + 12 ≤ 450 by omega)⟩ (fun H locs hw hS hk => ?_)
                          refine lv_sipush (v := -1002) hx hb dL_refuses_509 (by decide) ?_
                          refine lv_icmp_ne (tgt := 581) hx hb dL_refuses_512 (by decide) (fun h57 => ?_) (fun h57 => ?_)
                          · have hF := it_f h57 hF
                            refine lv_iconst (v := 0) hx hb dL_refuses_581 (by decide) ?_
                            exact m_zretN hC hr hlk hw hS (by decide) (by decide) dL_refuses_582 (by decide) hF
                          · have hF := it_t h57 hF
                            refine lv_aload_n hx hb dL_refuses_515 rfl (lv_at hl 1 rfl) ?_
                            refine lv_iconst (v := 1) hx hb dL_refuses_516 (by decide) ?_
                            refine lv_ldc2 (v := 100000) hx hb hC.2.2.2.1 (hC.2.2.2.2.1 _ kcL_202) dL_refuses_517 ?_
                            obtain ⟨r58, C60, hc59, hF⟩ := b2_t hF
                            refine call_SWE hC (c_L_tryScript l (gP G H) (H.size - bb G) (hw.lp hn) (Nat.zero_le _) hfl (1 : Int32) (100000 : Int64) _ _ _ hc59) wwL_198 ⟨rfl, rfl, by decide, by decide⟩ hw hn hS hl.1 rfl (rest := []) rfl (Nat.le_of_ble_eq_true rfl) dL_refuses_520 ⟨(show 67 + 2 ≤ 75 by omega), (show 402 + 12 ≤ 450 by omega)⟩ (fun H locs hw hS hk => ?_)
                            refine lv_sipush (v := -1002) hx hb dL_refuses_523 (by decide) ?_
                            refine lv_icmp_ne (tgt := 581) hx hb dL_refuses_526 (by decide) (fun h61 => ?_) (fun h61 => ?_)
                            · have hF := it_f h61 hF
                              refine lv_iconst (v := 0) hx hb dL_refuses_581 (by decide) ?_
                              exact m_zretN hC hr hlk hw hS (by decide) (by decide) dL_refuses_582 (by decide) hF
                            · have hF := it_t h61 hF
                              refine lv_aload_n hx hb dL_refuses_529 rfl (lv_at hl 1 rfl) ?_
                              refine lv_lconst (v := 1) hx hb dL_refuses_530 (by decide) ?_
                              refine lv_bipush (v := 97) hx hb dL_refuses_531 (by decide) ?_
                              obtain ⟨r62, C64, hc63, hF⟩ := b2_t hF
                              refine call_SWE hC (c_L_trySimulate l (gP G H) (H.size - bb G) (hw.lp hn) (Nat.zero_le _) hfl (1 : Int64) (97 : Int32) _ _ _ hc63) wwL_204 ⟨rfl, rfl, by decide, by decide⟩ hw hn hS hl.1 rfl (rest := []) rfl (Nat.le_of_ble_eq_true rfl) dL_refuses_533 ⟨(show 69 + 1 ≤ 75 by omega), (show 414 + 6 ≤ 450 by omega)⟩ (fun H locs hw hS hk => ?_)
                              refine lv_sipush (v := -1002) hx hb dL_refuses_536 (by decide) ?_
                              refine lv_icmp_ne (tgt := 581) hx hb dL_refuses_539 (by decide) (fun h65 => ?_) (fun h65 => ?_)
                              · have hF := it_f h65 hF
                                refine lv_iconst (v := 0) hx hb dL_refuses_581 (by decide) ?_
                                exact m_zretN hC hr hlk hw hS (by decide) (by decide) dL_refuses_582 (by decide) hF
                              · have hF := it_t h65 hF
                                refine lv_aload_n hx hb dL_refuses_542 rfl (lv_at hl 1 rfl) ?_
                                refine lv_iconst (v := 2) hx hb dL_refuses_543 (by decide) ?_
                                obtain ⟨r66, C68, hc67, hF⟩ := b2_t hF
                                refine call_SWE hC (c_L_trySave l (gP G H) (H.size - bb G) (hw.lp hn) (Nat.zero_le _) hfl (2 : Int32) _ _ _ hc67) wwL_208 ⟨rfl, rfl, by decide, by decide⟩ hw hn hS hl.1 rfl (rest := []) rfl (Nat.le_of_ble_eq_true rfl) dL_refuses_544 ⟨(show 70 + 1 ≤ 75 by omega), (show 420 + 6 ≤ 450 by omega)⟩ (fun H locs hw hS hk => ?_)
                                refine lv_sipush (v := -1001) hx hb dL_refuses_547 (by decide) ?_
                                refine lv_icmp_ne (tgt := 581) hx hb dL_refuses_550 (by decide) (fun h69 => ?_) (fun h69 => ?_)
                                · have hF := it_f h69 hF
                                  refine lv_iconst (v := 0) hx hb dL_refuses_581 (by decide) ?_
                                  exact m_zretN hC hr hlk hw hS (by decide) (by decide) dL_refuses_582 (by decide) hF
                                · have hF := it_t h69 hF
                                  refine lv_aload_n hx hb dL_refuses_553 rfl (lv_at hl 1 rfl) ?_
                                  refine lv_iconst (v := -1) hx hb dL_refuses_554 (by decide) ?_
                                  obtain ⟨r70, C72, hc71, hF⟩ := b2_t hF
                                  refine call_SWE hC (c_L_tryRestore l (gP G H) (H.size - bb G) (hw.lp hn) (Nat.zero_le _) hfl (-1 : Int32) _ _ _ hc71) wwL_142 ⟨rfl, rfl, by decide, by decide⟩ hw hn hS hl.1 rfl (rest := []) rfl (Nat.le_of_ble_eq_true rfl) dL_refuses_555 ⟨(show 71 + 2 ≤ 75 by omega), (show 426 + 12 ≤ 450 by omega)⟩ (fun H locs hw hS hk => ?_)
                                  refine lv_sipush (v := -1001) hx hb dL_refuses_558 (by decide) ?_
                                  refine lv_icmp_ne (tgt := 581) hx hb dL_refuses_561 (by decide) (fun h73 => ?_) (fun h73 => ?_)
                                  · have hF := it_f h73 hF
                                    refine lv_iconst (v := 0) hx hb dL_refuses_581 (by decide) ?_
                                    exact m_zretN hC hr hlk hw hS (by decide) (by decide) dL_refuses_582 (by decide) hF
                                  · have hF := it_t h73 hF
                                    refine lv_aload_n hx hb dL_refuses_564 rfl (lv_at hl 1 rfl) ?_
                                    refine lv_sipush (v := 256) hx hb dL_refuses_565 (by decide) ?_
                                    obtain ⟨r74, C76, hc75, hF⟩ := b2_t hF
                                    refine call_SWE hC (c_L_tryAppend l (gP G H) (H.size - bb G) (hw.lp hn) (Nat.zero_le _) hfl (256 : Int32) _ _ _ hc75) wwL_102 ⟨rfl, rfl, by decide, by decide⟩ hw hn hS hl.1 rfl (rest := []) rfl (Nat.le_of_ble_eq_true rfl) dL_refuses_568 ⟨(show 73 + 2 ≤ 75 by omega), (show 438 + 12 ≤ 450 by omega)⟩ (fun H locs hw hS hk => ?_)
                                    refine lv_sipush (v := -1002) hx hb dL_refuses_571 (by decide) ?_
                                    refine lv_icmp_ne (tgt := 581) hx hb dL_refuses_574 (by decide) (fun h77 => ?_) (fun h77 => ?_)
                                    · have hF := it_f h77 hF
                                      refine lv_iconst (v := 0) hx hb dL_refuses_581 (by decide) ?_
                                      exact m_zretN hC hr hlk hw hS (by decide) (by decide) dL_refuses_582 (by decide) hF
                                    · have hF := it_t h77 hF
                                      refine lv_iconst (v := 1) hx hb dL_refuses_577 (by decide) ?_
                                      refine lv_goto (tgt := 582) hx hb dL_refuses_578 (by decide) ?_
                                      exact m_zretN hC hr hlk hw hS (by decide) (by decide) dL_refuses_582 (by decide) hF
  refine lv_icmp_ne (tgt := 367) hx hb dL_refuses_23 (by decide) (fun h10 => ?_) (fun h10 => ?_)
  · have hF := it_f h10 hF
    refine lv_iconst (v := 0) hx hb dL_refuses_367 (by decide) ?_
    refine W.widen (k := 46) (n := 276) (by omega) (by omega) ?_
    exact hJ368 (0 : Int32) C9 _ _ _ hF hw hS (lv_sub hl [2, 1] rfl)
  · have hF := it_t h10 hF
    refine lv_aload_n hx hb dL_refuses_26 rfl (lv_at hl 2 rfl) ?_
    refine lv_iload_n hx hb dL_refuses_27 rfl (lv_at hl 1 rfl) ?_
    refine lv_bipush (v := 8) hx hb dL_refuses_28 (by decide) ?_
    obtain ⟨r78, C80, hc79, hF⟩ := b2_t hF
    refine call_SWE hC (c_L_tryBoiler l (gP G H) (H.size - bb G) (hw.lp hn) (Nat.zero_le _) hfl r1 (8 : Int32) _ _ _ hc79) wwL_151 ⟨rfl, rfl, by decide, by decide⟩ hw hn hS hl.1 rfl (rest := []) rfl (Nat.le_of_ble_eq_true rfl) dL_refuses_30 ⟨(show 4 + 2 ≤ 75 by omega), (show 24 + 12 ≤ 450 by omega)⟩ (fun H locs hw hS hk => ?_)
    refine lv_sipush (v := -1001) hx hb dL_refuses_33 (by decide) ?_
    refine lv_icmp_ne (tgt := 367) hx hb dL_refuses_36 (by decide) (fun h81 => ?_) (fun h81 => ?_)
    · have hF := it_f h81 hF
      refine lv_iconst (v := 0) hx hb dL_refuses_367 (by decide) ?_
      refine W.widen (k := 46) (n := 276) (by omega) (by omega) ?_
      exact hJ368 (0 : Int32) C80 _ _ _ hF hw hS (lv_sub hl [2, 1] rfl)
    · have hF := it_t h81 hF
      refine lv_aload_n hx hb dL_refuses_39 rfl (lv_at hl 2 rfl) ?_
      refine lv_iconst (v := 0) hx hb dL_refuses_40 (by decide) ?_
      refine lv_bipush (v := 8) hx hb dL_refuses_41 (by decide) ?_
      obtain ⟨r82, C84, hc83, hF⟩ := b2_t hF
      refine call_SWE hC (c_L_tryBoiler l (gP G H) (H.size - bb G) (hw.lp hn) (Nat.zero_le _) hfl (0 : Int32) (8 : Int32) _ _ _ hc83) wwL_151 ⟨rfl, rfl, by decide, by decide⟩ hw hn hS hl.1 rfl (rest := []) rfl (Nat.le_of_ble_eq_true rfl) dL_refuses_43 ⟨(show 6 + 2 ≤ 75 by omega), (show 36 + 12 ≤ 450 by omega)⟩ (fun H locs hw hS hk => ?_)
      refine lv_sipush (v := -1002) hx hb dL_refuses_46 (by decide) ?_
      refine lv_icmp_ne (tgt := 367) hx hb dL_refuses_49 (by decide) (fun h85 => ?_) (fun h85 => ?_)
      · have hF := it_f h85 hF
        refine lv_iconst (v := 0) hx hb dL_refuses_367 (by decide) ?_
        refine W.widen (k := 46) (n := 276) (by omega) (by omega) ?_
        exact hJ368 (0 : Int32) C84 _ _ _ hF hw hS (lv_sub hl [2, 1] rfl)
      · have hF := it_t h85 hF
        refine lv_aload_n hx hb dL_refuses_52 rfl (lv_at hl 2 rfl) ?_
        refine lv_iconst (v := 2) hx hb dL_refuses_53 (by decide) ?_
        refine lv_iconst (v := 4) hx hb dL_refuses_54 (by decide) ?_
        obtain ⟨r86, C88, hc87, hF⟩ := b2_t hF
        refine call_SWE hC (c_L_tryFlue l (gP G H) (H.size - bb G) (hw.lp hn) (Nat.zero_le _) hfl (2 : Int32) (4 : Int32) _ _ _ hc87) wwL_135 ⟨rfl, rfl, by decide, by decide⟩ hw hn hS hl.1 rfl (rest := []) rfl (Nat.le_of_ble_eq_true rfl) dL_refuses_55 ⟨(show 8 + 2 ≤ 75 by omega), (show 48 + 12 ≤ 450 by omega)⟩ (fun H locs hw hS hk => ?_)
        refine lv_sipush (v := -1001) hx hb dL_refuses_58 (by decide) ?_
        refine lv_icmp_ne (tgt := 367) hx hb dL_refuses_61 (by decide) (fun h89 => ?_) (fun h89 => ?_)
        · have hF := it_f h89 hF
          refine lv_iconst (v := 0) hx hb dL_refuses_367 (by decide) ?_
          refine W.widen (k := 46) (n := 276) (by omega) (by omega) ?_
          exact hJ368 (0 : Int32) C88 _ _ _ hF hw hS (lv_sub hl [2, 1] rfl)
        · have hF := it_t h89 hF
          refine lv_aload_n hx hb dL_refuses_64 rfl (lv_at hl 2 rfl) ?_
          refine lv_iconst (v := 0) hx hb dL_refuses_65 (by decide) ?_
          refine lv_iconst (v := 4) hx hb dL_refuses_66 (by decide) ?_
          obtain ⟨r90, C92, hc91, hF⟩ := b2_t hF
          refine call_SWE hC (c_L_tryFlue l (gP G H) (H.size - bb G) (hw.lp hn) (Nat.zero_le _) hfl (0 : Int32) (4 : Int32) _ _ _ hc91) wwL_135 ⟨rfl, rfl, by decide, by decide⟩ hw hn hS hl.1 rfl (rest := []) rfl (Nat.le_of_ble_eq_true rfl) dL_refuses_67 ⟨(show 10 + 2 ≤ 75 by omega), (show 60 + 12 ≤ 450 by omega)⟩ (fun H locs hw hS hk => ?_)
          refine lv_sipush (v := -1002) hx hb dL_refuses_70 (by decide) ?_
          refine lv_icmp_ne (tgt := 367) hx hb dL_refuses_73 (by decide) (fun h93 => ?_) (fun h93 => ?_)
          · have hF := it_f h93 hF
            refine lv_iconst (v := 0) hx hb dL_refuses_367 (by decide) ?_
            refine W.widen (k := 46) (n := 276) (by omega) (by omega) ?_
            exact hJ368 (0 : Int32) C92 _ _ _ hF hw hS (lv_sub hl [2, 1] rfl)
          · have hF := it_t h93 hF
            refine lv_aload_n hx hb dL_refuses_76 rfl (lv_at hl 2 rfl) ?_
            refine lv_aload_n hx hb dL_refuses_77 rfl (lv_at hl 2 rfl) ?_
            refine lv_bipush (v := 7) hx hb dL_refuses_78 (by decide) ?_
            obtain ⟨r94, C96, hc95, hF⟩ := b2_t hF
            refine call_SWE hC (c_L_tryAbout l (gP G H) (H.size - bb G) (hw.lp hn) (Nat.zero_le _) hfl (7 : Int32) _ _ _ hc95) wwL_129 ⟨rfl, rfl, by decide, by decide⟩ hw hn hS hl.1 rfl (rest := [.ref (bb G + 0)]) rfl (Nat.le_of_ble_eq_true rfl) dL_refuses_80 ⟨(show 12 + 1 ≤ 75 by omega), (show 72 + 6 ≤ 450 by omega)⟩ (fun H locs hw hS hk => ?_)
            obtain ⟨r97, C99, hc98, hF⟩ := b2_t hF
            refine call_SWE hC (c_L_tryLayer l (gP G H) (H.size - bb G) (hw.lp hn) (Nat.zero_le _) hfl r94 _ _ _ hc98) wwL_132 ⟨rfl, rfl, by decide, by decide⟩ hw hn hS hl.1 rfl (rest := []) rfl (Nat.le_of_ble_eq_true rfl) dL_refuses_83 ⟨(show 13 + 1 ≤ 75 by omega), (show 78 + 6 ≤ 450 by omega)⟩ (fun H locs hw hS hk => ?_)
            refine lv_sipush (v := -1001) hx hb dL_refuses_86 (by decide) ?_
            refine lv_icmp_ne (tgt := 367) hx hb dL_refuses_89 (by decide) (fun h100 => ?_) (fun h100 => ?_)
            · have hF := it_f h100 hF
              refine lv_iconst (v := 0) hx hb dL_refuses_367 (by decide) ?_
              refine W.widen (k := 46) (n := 276) (by omega) (by omega) ?_
              exact hJ368 (0 : Int32) C99 _ _ _ hF hw hS (lv_sub hl [2, 1] rfl)
            · have hF := it_t h100 hF
              refine lv_aload_n hx hb dL_refuses_92 rfl (lv_at hl 2 rfl) ?_
              refine lv_bipush (v := 6) hx hb dL_refuses_93 (by decide) ?_
              obtain ⟨r101, C103, hc102, hF⟩ := b2_t hF
              refine call_SWE hC (c_L_tryAccount l (gP G H) (H.size - bb G) (hw.lp hn) (Nat.zero_le _) hfl (6 : Int32) _ _ _ hc102) wwL_148 ⟨rfl, rfl, by decide, by decide⟩ hw hn hS hl.1 rfl (rest := []) rfl (Nat.le_of_ble_eq_true rfl) dL_refuses_95 ⟨(show 14 + 1 ≤ 75 by omega), (show 84 + 6 ≤ 450 by omega)⟩ (fun H locs hw hS hk => ?_)
              refine lv_sipush (v := -1002) hx hb dL_refuses_98 (by decide) ?_
              refine lv_icmp_ne (tgt := 367) hx hb dL_refuses_101 (by decide) (fun h104 => ?_) (fun h104 => ?_)
              · have hF := it_f h104 hF
                refine lv_iconst (v := 0) hx hb dL_refuses_367 (by decide) ?_
                refine W.widen (k := 46) (n := 276) (by omega) (by omega) ?_
                exact hJ368 (0 : Int32) C103 _ _ _ hF hw hS (lv_sub hl [2, 1] rfl)
              · have hF := it_t h104 hF
                refine lv_aload_n hx hb dL_refuses_104 rfl (lv_at hl 2 rfl) ?_
                refine lv_iconst (v := 0) hx hb dL_refuses_105 (by decide) ?_
                refine lv_iconst (v := 0) hx hb dL_refuses_106 (by decide) ?_
                obtain ⟨r105, C107, hc106, hF⟩ := b2_t hF
                refine call_SWE hC (c_L_tryTick l (gP G H) (H.size - bb G) (hw.lp hn) (Nat.zero_le _) hfl (0 : Int32) (0 : Int32) _ _ _ hc106) wwL_154 ⟨rfl, rfl, by decide, by decide⟩ hw hn hS hl.1 rfl (rest := []) rfl (Nat.le_of_ble_eq_true rfl) dL_refuses_107 ⟨(show 15 + 2 ≤ 75 by omega), (show 90 + 12 ≤ 450 by omega)⟩ (fun H locs hw hS hk => ?_)
                refine lv_sipush (v := -1002) hx hb dL_refuses_110 (by decide) ?_
                refine lv_icmp_ne (tgt := 367) hx hb dL_refuses_113 (by decide) (fun h108 => ?_) (fun h108 => ?_)
                · have hF := it_f h108 hF
                  refine lv_iconst (v := 0) hx hb dL_refuses_367 (by decide) ?_
                  refine W.widen (k := 46) (n := 276) (by omega) (by omega) ?_
                  exact hJ368 (0 : Int32) C107 _ _ _ hF hw hS (lv_sub hl [2, 1] rfl)
                · have hF := it_t h108 hF
                  refine lv_aload_n hx hb dL_refuses_116 rfl (lv_at hl 2 rfl) ?_
                  refine lv_bipush (v := 97) hx hb dL_refuses_117 (by decide) ?_
                  refine lv_iconst (v := 0) hx hb dL_refuses_119 (by decide) ?_
                  obtain ⟨r109, C111, hc110, hF⟩ := b2_t hF
                  refine call_SWE hC (c_L_tryTick l (gP G H) (H.size - bb G) (hw.lp hn) (Nat.zero_le _) hfl (97 : Int32) (0 : Int32) _ _ _ hc110) wwL_154 ⟨rfl, rfl, by decide, by decide⟩ hw hn hS hl.1 rfl (rest := []) rfl (Nat.le_of_ble_eq_true rfl) dL_refuses_120 ⟨(show 17 + 2 ≤ 75 by omega), (show 102 + 12 ≤ 450 by omega)⟩ (fun H locs hw hS hk => ?_)
                  refine lv_sipush (v := -1002) hx hb dL_refuses_123 (by decide) ?_
                  refine lv_icmp_ne (tgt := 367) hx hb dL_refuses_126 (by decide) (fun h112 => ?_) (fun h112 => ?_)
                  · have hF := it_f h112 hF
                    refine lv_iconst (v := 0) hx hb dL_refuses_367 (by decide) ?_
                    refine W.widen (k := 46) (n := 276) (by omega) (by omega) ?_
                    exact hJ368 (0 : Int32) C111 _ _ _ hF hw hS (lv_sub hl [2, 1] rfl)
                  · have hF := it_t h112 hF
                    refine lv_aload_n hx hb dL_refuses_129 rfl (lv_at hl 2 rfl) ?_
                    refine lv_iconst (v := 1) hx hb dL_refuses_130 (by decide) ?_
                    refine lv_bipush (v := 6) hx hb dL_refuses_131 (by decide) ?_
                    obtain ⟨r113, C115, hc114, hF⟩ := b2_t hF
                    refine call_SWE hC (c_L_tryTick l (gP G H) (H.size - bb G) (hw.lp hn) (Nat.zero_le _) hfl (1 : Int32) (6 : Int32) _ _ _ hc114) wwL_154 ⟨rfl, rfl, by decide, by decide⟩ hw hn hS hl.1 rfl (rest := []) rfl (Nat.le_of_ble_eq_true rfl) dL_refuses_133 ⟨(show 19 + 2 ≤ 75 by omega), (show 114 + 12 ≤ 450 by omega)⟩ (fun H locs hw hS hk => ?_)
                    refine lv_sipush (v := -1002) hx hb dL_refuses_136 (by decide) ?_
                    refine lv_icmp_ne (tgt := 367) hx hb dL_refuses_139 (by decide) (fun h116 => ?_) (fun h116 => ?_)
                    · have hF := it_f h116 hF
                      refine lv_iconst (v := 0) hx hb dL_refuses_367 (by decide) ?_
                      refine W.widen (k := 46) (n := 276) (by omega) (by omega) ?_
                      exact hJ368 (0 : Int32) C115 _ _ _ hF hw hS (lv_sub hl [2, 1] rfl)
                    · have hF := it_t h116 hF
                      refine lv_aload_n hx hb dL_refuses_142 rfl (lv_at hl 2 rfl) ?_
                      refine lv_bipush (v := 21) hx hb dL_refuses_143 (by decide) ?_
                      obtain ⟨r117, C119, hc118, hF⟩ := b2_t hF
                      refine call_SWE hC (c_L_tryDraw l (gP G H) (H.size - bb G) (hw.lp hn) (Nat.zero_le _) hfl (21 : Int32) _ _ _ hc118) wwL_157 ⟨rfl, rfl, by decide, by decide⟩ hw hn hS hl.1 rfl (rest := []) rfl (Nat.le_of_ble_eq_true rfl) dL_refuses_145 ⟨(show 21 + 1 ≤ 75 by omega), (show 126 + 6 ≤ 450 by omega)⟩ (fun H locs hw hS hk => ?_)
                      refine lv_sipush (v := -1002) hx hb dL_refuses_148 (by decide) ?_
                      refine lv_icmp_ne (tgt := 367) hx hb dL_refuses_151 (by decide) (fun h120 => ?_) (fun h120 => ?_)
                      · have hF := it_f h120 hF
                        refine lv_iconst (v := 0) hx hb dL_refuses_367 (by decide) ?_
                        refine W.widen (k := 46) (n := 276) (by omega) (by omega) ?_
                        exact hJ368 (0 : Int32) C119 _ _ _ hF hw hS (lv_sub hl [2, 1] rfl)
                      · have hF := it_t h120 hF
                        refine lv_aload_n hx hb dL_refuses_154 rfl (lv_at hl 2 rfl) ?_
                        refine lv_iconst (v := 0) hx hb dL_refuses_155 (by decide) ?_
                        refine lv_bipush (v := 39) hx hb dL_refuses_156 (by decide) ?_
                        obtain ⟨r121, C123, hc122, hF⟩ := b2_t hF
                        refine call_SWE hC (c_L_trySet l (gP G H) (H.size - bb G) (hw.lp hn) (Nat.zero_le _) hfl (0 : Int32) (39 : Int32) _ _ _ hc122) wwL_160 ⟨rfl, rfl, by decide, by decide⟩ hw hn hS hl.1 rfl (rest := []) rfl (Nat.le_of_ble_eq_true rfl) dL_refuses_158 ⟨(show 22 + 1 ≤ 75 by omega), (show 132 + 6 ≤ 450 by omega)⟩ (fun H locs hw hS hk => ?_)
                        refine lv_sipush (v := -1002) hx hb dL_refuses_161 (by decide) ?_
                        refine lv_icmp_ne (tgt := 367) hx hb dL_refuses_164 (by decide) (fun h124 => ?_) (fun h124 => ?_)
                        · have hF := it_f h124 hF
                          refine lv_iconst (v := 0) hx hb dL_refuses_367 (by decide) ?_
                          refine W.widen (k := 46) (n := 276) (by omega) (by omega) ?_
                          exact hJ368 (0 : Int32) C123 _ _ _ hF hw hS (lv_sub hl [2, 1] rfl)
                        · have hF := it_t h124 hF
                          refine lv_aload_n hx hb dL_refuses_167 rfl (lv_at hl 2 rfl) ?_
                          refine lv_iconst (v := 1) hx hb dL_refuses_168 (by decide) ?_
                          refine lv_bipush (v := 10) hx hb dL_refuses_169 (by decide) ?_
                          obtain ⟨r125, C127, hc126, hF⟩ := b2_t hF
                          refine call_SWE hC (c_L_trySet l (gP G H) (H.size - bb G) (hw.lp hn) (Nat.zero_le _) hfl (1 : Int32) (10 : Int32) _ _ _ hc126) wwL_160 ⟨rfl, rfl, by decide, by decide⟩ hw hn hS hl.1 rfl (rest := []) rfl (Nat.le_of_ble_eq_true rfl) dL_refuses_171 ⟨(show 23 + 1 ≤ 75 by omega), (show 138 + 6 ≤ 450 by omega)⟩ (fun H locs hw hS hk => ?_)
                          refine lv_sipush (v := -1002) hx hb dL_refuses_174 (by decide) ?_
                          refine lv_icmp_ne (tgt := 367) hx hb dL_refuses_177 (by decide) (fun h128 => ?_) (fun h128 => ?_)
                          · have hF := it_f h128 hF
                            refine lv_iconst (v := 0) hx hb dL_refuses_367 (by decide) ?_
                            refine W.widen (k := 46) (n := 276) (by omega) (by omega) ?_
                            exact hJ368 (0 : Int32) C127 _ _ _ hF hw hS (lv_sub hl [2, 1] rfl)
                          · have hF := it_t h128 hF
                            refine lv_aload_n hx hb dL_refuses_180 rfl (lv_at hl 2 rfl) ?_
                            refine lv_iconst (v := 2) hx hb dL_refuses_181 (by decide) ?_
                            refine lv_bipush (v := 6) hx hb dL_refuses_182 (by decide) ?_
                            obtain ⟨r129, C131, hc130, hF⟩ := b2_t hF
                            refine call_SWE hC (c_L_trySet l (gP G H) (H.size - bb G) (hw.lp hn) (Nat.zero_le _) hfl (2 : Int32) (6 : Int32) _ _ _ hc130) wwL_160 ⟨rfl, rfl, by decide, by decide⟩ hw hn hS hl.1 rfl (rest := []) rfl (Nat.le_of_ble_eq_true rfl) dL_refuses_184 ⟨(show 24 + 1 ≤ 75 by omega), (show 144 + 6 ≤ 450 by omega)⟩ (fun H locs hw hS hk => ?_)
                            refine lv_sipush (v := -1002) hx hb dL_refuses_187 (by decide) ?_
                            refine lv_icmp_ne (tgt := 367) hx hb dL_refuses_190 (by decide) (fun h132 => ?_) (fun h132 => ?_)
                            · have hF := it_f h132 hF
                              refine lv_iconst (v := 0) hx hb dL_refuses_367 (by decide) ?_
                              refine W.widen (k := 46) (n := 276) (by omega) (by omega) ?_
                              exact hJ368 (0 : Int32) C131 _ _ _ hF hw hS (lv_sub hl [2, 1] rfl)
                            · have hF := it_t h132 hF
                              refine lv_aload_n hx hb dL_refuses_193 rfl (lv_at hl 2 rfl) ?_
                              refine lv_iconst (v := 3) hx hb dL_refuses_194 (by decide) ?_
                              refine lv_bipush (v := 59) hx hb dL_refuses_195 (by decide) ?_
                              obtain ⟨r133, C135, hc134, hF⟩ := b2_t hF
                              refine call_SWE hC (c_L_trySet l (gP G H) (H.size - bb G) (hw.lp hn) (Nat.zero_le _) hfl (3 : Int32) (59 : Int32) _ _ _ hc134) wwL_160 ⟨rfl, rfl, by decide, by decide⟩ hw hn hS hl.1 rfl (rest := []) rfl (Nat.le_of_ble_eq_true rfl) dL_refuses_197 ⟨(show 25 + 1 ≤ 75 by omega), (show 150 + 6 ≤ 450 by omega)⟩ (fun H locs hw hS hk => ?_)
                              refine lv_sipush (v := -1002) hx hb dL_refuses_200 (by decide) ?_
                              refine lv_icmp_ne (tgt := 367) hx hb dL_refuses_203 (by decide) (fun h136 => ?_) (fun h136 => ?_)
                              · have hF := it_f h136 hF
                                refine lv_iconst (v := 0) hx hb dL_refuses_367 (by decide) ?_
                                refine W.widen (k := 46) (n := 276) (by omega) (by omega) ?_
                                exact hJ368 (0 : Int32) C135 _ _ _ hF hw hS (lv_sub hl [2, 1] rfl)
                              · have hF := it_t h136 hF
                                refine lv_aload_n hx hb dL_refuses_206 rfl (lv_at hl 2 rfl) ?_
                                refine lv_iconst (v := 4) hx hb dL_refuses_207 (by decide) ?_
                                refine lv_iconst (v := 0) hx hb dL_refuses_208 (by decide) ?_
                                obtain ⟨r137, C139, hc138, hF⟩ := b2_t hF
                                refine call_SWE hC (c_L_trySet l (gP G H) (H.size - bb G) (hw.lp hn) (Nat.zero_le _) hfl (4 : Int32) (0 : Int32) _ _ _ hc138) wwL_160 ⟨rfl, rfl, by decide, by decide⟩ hw hn hS hl.1 rfl (rest := []) rfl (Nat.le_of_ble_eq_true rfl) dL_refuses_209 ⟨(show 26 + 1 ≤ 75 by omega), (show 156 + 6 ≤ 450 by omega)⟩ (fun H locs hw hS hk => ?_)
                                refine lv_sipush (v := -1002) hx hb dL_refuses_212 (by decide) ?_
                                refine lv_icmp_ne (tgt := 367) hx hb dL_refuses_215 (by decide) (fun h140 => ?_) (fun h140 => ?_)
                                · have hF := it_f h140 hF
                                  refine lv_iconst (v := 0) hx hb dL_refuses_367 (by decide) ?_
                                  refine W.widen (k := 46) (n := 276) (by omega) (by omega) ?_
                                  exact hJ368 (0 : Int32) C139 _ _ _ hF hw hS (lv_sub hl [2, 1] rfl)
                                · have hF := it_t h140 hF
                                  refine lv_aload_n hx hb dL_refuses_218 rfl (lv_at hl 2 rfl) ?_
                                  refine lv_iconst (v := 5) hx hb dL_refuses_219 (by decide) ?_
                                  refine lv_bipush (v := 24) hx hb dL_refuses_220 (by decide) ?_
                                  obtain ⟨r141, C143, hc142, hF⟩ := b2_t hF
                                  refine call_SWE hC (c_L_trySet l (gP G H) (H.size - bb G) (hw.lp hn) (Nat.zero_le _) hfl (5 : Int32) (24 : Int32) _ _ _ hc142) wwL_160 ⟨rfl, rfl, by decide, by decide⟩ hw hn hS hl.1 rfl (rest := []) rfl (Nat.le_of_ble_eq_true rfl) dL_refuses_222 ⟨(show 27 + 1 ≤ 75 by omega), (show 162 + 6 ≤ 450 by omega)⟩ (fun H locs hw hS hk => ?_)
                                  refine lv_sipush (v := -1002) hx hb dL_refuses_225 (by decide) ?_
                                  refine lv_icmp_ne (tgt := 367) hx hb dL_refuses_228 (by decide) (fun h144 => ?_) (fun h144 => ?_)
                                  · have hF := it_f h144 hF
                                    refine lv_iconst (v := 0) hx hb dL_refuses_367 (by decide) ?_
                                    refine W.widen (k := 46) (n := 276) (by omega) (by omega) ?_
                                    exact hJ368 (0 : Int32) C143 _ _ _ hF hw hS (lv_sub hl [2, 1] rfl)
                                  · have hF := it_t h144 hF
                                    refine lv_aload_n hx hb dL_refuses_231 rfl (lv_at hl 2 rfl) ?_
                                    refine lv_bipush (v := 6) hx hb dL_refuses_232 (by decide) ?_
                                    refine lv_iconst (v := 1) hx hb dL_refuses_234 (by decide) ?_
                                    obtain ⟨r145, C147, hc146, hF⟩ := b2_t hF
                                    refine call_SWE hC (c_L_trySet l (gP G H) (H.size - bb G) (hw.lp hn) (Nat.zero_le _) hfl (6 : Int32) (1 : Int32) _ _ _ hc146) wwL_160 ⟨rfl, rfl, by decide, by decide⟩ hw hn hS hl.1 rfl (rest := []) rfl (Nat.le_of_ble_eq_true rfl) dL_refuses_235 ⟨(show 28 + 1 ≤ 75 by omega), (show 168 + 6 ≤ 450 by omega)⟩ (fun H locs hw hS hk => ?_)
                                    refine lv_sipush (v := -1002) hx hb dL_refuses_238 (by decide) ?_
                                    refine lv_icmp_ne (tgt := 367) hx hb dL_refuses_241 (by decide) (fun h148 => ?_) (fun h148 => ?_)
                                    · have hF := it_f h148 hF
                                      refine lv_iconst (v := 0) hx hb dL_refuses_367 (by decide) ?_
                                      refine W.widen (k := 46) (n := 276) (by omega) (by omega) ?_
                                      exact hJ368 (0 : Int32) C147 _ _ _ hF hw hS (lv_sub hl [2, 1] rfl)
                                    · have hF := it_t h148 hF
                                      refine lv_aload_n hx hb dL_refuses_244 rfl (lv_at hl 2 rfl) ?_
                                      refine lv_iconst (v := 2) hx hb dL_refuses_245 (by decide) ?_
                                      refine lv_iconst (v := 1) hx hb dL_refuses_246 (by decide) ?_
                                      obtain ⟨r149, C151, hc150, hF⟩ := b2_t hF
                                      refine call_SWE hC (c_L_trySetFlue l (gP G H) (H.size - bb G) (hw.lp hn) (Nat.zero_le _) hfl (2 : Int32) (1 : Int32) _ _ _ hc150) wwL_163 ⟨rfl, rfl, by decide, by decide⟩ hw hn hS hl.1 rfl (rest := []) rfl (Nat.le_of_ble_eq_true rfl) dL_refuses_247 ⟨(show 29 + 1 ≤ 75 by omega), (show 174 + 6 ≤ 450 by omega)⟩ (fun H locs hw hS hk => ?_)
                                      refine lv_sipush (v := -1001) hx hb dL_refuses_250 (by decide) ?_
                                      refine lv_icmp_ne (tgt := 367) hx hb dL_refuses_253 (by decide) (fun h152 => ?_) (fun h152 => ?_)
                                      · have hF := it_f h152 hF
                                        refine lv_iconst (v := 0) hx hb dL_refuses_367 (by decide) ?_
                                        refine W.widen (k := 46) (n := 276) (by omega) (by omega) ?_
                                        exact hJ368 (0 : Int32) C151 _ _ _ hF hw hS (lv_sub hl [2, 1] rfl)
                                      · have hF := it_t h152 hF
                                        refine lv_aload_n hx hb dL_refuses_256 rfl (lv_at hl 2 rfl) ?_
                                        refine lv_iconst (v := -1) hx hb dL_refuses_257 (by decide) ?_
                                        refine lv_bipush (v := 100) hx hb dL_refuses_258 (by decide) ?_
                                        obtain ⟨r153, C155, hc154, hF⟩ := b2_t hF
                                        refine call_SWE hC (c_L_trySetDraft l (gP G H) (H.size - bb G) (hw.lp hn) (Nat.zero_le _) hfl (-1 : Int32) (100 : Int32) _ _ _ hc154) wwL_167 ⟨rfl, rfl, by decide, by decide⟩ hw hn hS hl.1 rfl (rest := []) rfl (Nat.le_of_ble_eq_true rfl) dL_refuses_260 ⟨(show 30 + 2 ≤ 75 by omega), (show 180 + 12 ≤ 450 by omega)⟩ (fun H locs hw hS hk => ?_)
                                        refine lv_sipush (v := -1001) hx hb dL_refuses_263 (by decide) ?_
                                        refine lv_icmp_ne (tgt := 367) hx hb dL_refuses_266 (by decide) (fun h156 => ?_) (fun h156 => ?_)
                                        · have hF := it_f h156 hF
                                          refine lv_iconst (v := 0) hx hb dL_refuses_367 (by decide) ?_
                                          refine W.widen (k := 46) (n := 276) (by omega) (by omega) ?_
                                          exact hJ368 (0 : Int32) C155 _ _ _ hF hw hS (lv_sub hl [2, 1] rfl)
                                        · have hF := it_t h156 hF
                                          refine lv_aload_n hx hb dL_refuses_269 rfl (lv_at hl 2 rfl) ?_
                                          refine lv_iconst (v := 0) hx hb dL_refuses_270 (by decide) ?_
                                          refine lv_bipush (v := 100) hx hb dL_refuses_271 (by decide) ?_
                                          obtain ⟨r157, C159, hc158, hF⟩ := b2_t hF
                                          refine call_SWE hC (c_L_trySetDraft l (gP G H) (H.size - bb G) (hw.lp hn) (Nat.zero_le _) hfl (0 : Int32) (100 : Int32) _ _ _ hc158) wwL_167 ⟨rfl, rfl, by decide, by decide⟩ hw hn hS hl.1 rfl (rest := []) rfl (Nat.le_of_ble_eq_true rfl) dL_refuses_273 ⟨(show 32 + 2 ≤ 75 by omega), (show 192 + 12 ≤ 450 by omega)⟩ (fun H locs hw hS hk => ?_)
                                          refine lv_sipush (v := -1002) hx hb dL_refuses_276 (by decide) ?_
                                          refine lv_icmp_ne (tgt := 367) hx hb dL_refuses_279 (by decide) (fun h160 => ?_) (fun h160 => ?_)
                                          · have hF := it_f h160 hF
                                            refine lv_iconst (v := 0) hx hb dL_refuses_367 (by decide) ?_
                                            refine W.widen (k := 46) (n := 276) (by omega) (by omega) ?_
                                            exact hJ368 (0 : Int32) C159 _ _ _ hF hw hS (lv_sub hl [2, 1] rfl)
                                          · have hF := it_t h160 hF
                                            refine lv_aload_n hx hb dL_refuses_282 rfl (lv_at hl 2 rfl) ?_
                                            refine lv_iload_n hx hb dL_refuses_283 rfl (lv_at hl 1 rfl) ?_
                                            obtain ⟨r161, C163, hc162, hF⟩ := b2_t hF
                                            refine call_SWE hC (c_L_tryLock l (gP G H) (H.size - bb G) (hw.lp hn) (Nat.zero_le _) hfl r1 _ _ _ hc162) wwL_170 ⟨rfl, rfl, by decide, by decide⟩ hw hn hS hl.1 rfl (rest := []) rfl (Nat.le_of_ble_eq_true rfl) dL_refuses_284 ⟨(show 34 + 2 ≤ 75 by omega), (show 204 + 12 ≤ 450 by omega)⟩ (fun H locs hw hS hk => ?_)
                                            refine lv_sipush (v := -1001) hx hb dL_refuses_287 (by decide) ?_
                                            refine lv_icmp_ne (tgt := 367) hx hb dL_refuses_290 (by decide) (fun h164 => ?_) (fun h164 => ?_)
                                            · have hF := it_f h164 hF
                                              refine lv_iconst (v := 0) hx hb dL_refuses_367 (by decide) ?_
                                              refine W.widen (k := 46) (n := 276) (by omega) (by omega) ?_
                                              exact hJ368 (0 : Int32) C163 _ _ _ hF hw hS (lv_sub hl [2, 1] rfl)
                                            · have hF := it_t h164 hF
                                              refine lv_iload_n hx hb dL_refuses_293 rfl (lv_at hl 0 rfl) ?_
                                              refine lv_iconst (v := 4) hx hb dL_refuses_294 (by decide) ?_
                                              have hJ309 : ∀ (C166 : Mem) (H : Heap) (locs : List Loc) (ls : Array Slot), J_L_refuses_309 r1 r4 C166 = some (rR, CR) → Wd G n C166 H → LW G s H locs → lv_has ls 4 [(0, .ref (bb G + 0)), (1, .int r1), (2, .int r4)] → W p l e (rmX 10 194 75 450) s m ([.ref (bb G + 0)] : List Value).toArray below meth c H locs 38 228 (MQ below (QR G n (some (.int rR)) CR) ([.ref (bb G + 0)] : List Value).toArray s 75 450 (frA G)) (F0 m 309 ls []) := by
                                                intro C166 H locs ls hF hw hS hl
                                                unfold J_L_refuses_309 at hF
                                                refine lv_aload_n hx hb dL_refuses_309 rfl (lv_at hl 0 rfl) ?_
                                                refine lv_iload_n hx hb dL_refuses_310 rfl (lv_at hl 1 rfl) ?_
                                                obtain ⟨r167, C169, hc168, hF⟩ := b2_t hF
                                                refine call_SWE hC (c_L_tryUnlock l (gP G H) (H.size - bb G) (hw.lp hn) (Nat.zero_le _) hfl r1 _ _ _ hc168) wwL_173 ⟨rfl, rfl, by decide, by decide⟩ hw hn hS hl.1 rfl (rest := []) rfl (Nat.le_of_ble_eq_true rfl) dL_refuses_311 ⟨(show 38 + 2 ≤ 75 by omega), (show 228 + 12 ≤ 450 by omega)⟩ (fun H locs hw hS hk => ?_)
                                                refine lv_sipush (v := -1001) hx hb dL_refuses_314 (by decide) ?_
                                                refine lv_icmp_ne (tgt := 367) hx hb dL_refuses_317 (by decide) (fun h170 => ?_) (fun h170 => ?_)
                                                · have hF := it_f h170 hF
                                                  refine lv_iconst (v := 0) hx hb dL_refuses_367 (by decide) ?_
                                                  refine W.widen (k := 46) (n := 276) (by omega) (by omega) ?_
                                                  exact hJ368 (0 : Int32) C169 _ _ _ hF hw hS (lv_sub hl [0, 1] rfl)
                                                · have hF := it_t h170 hF
                                                  refine lv_iload_n hx hb dL_refuses_320 rfl (lv_at hl 2 rfl) ?_
                                                  refine lv_iconst (v := 4) hx hb dL_refuses_321 (by decide) ?_
                                                  have hJ336 : ∀ (C172 : Mem) (H : Heap) (locs : List Loc) (ls : Array Slot), J_L_refuses_336 r1 r4 C172 = some (rR, CR) → Wd G n C172 H → LW G s H locs → lv_has ls 4 [(0, .ref (bb G + 0)), (1, .int r1), (2, .int r4)] → W p l e (rmX 10 194 75 450) s m ([.ref (bb G + 0)] : List Value).toArray below meth c H locs 42 252 (MQ below (QR G n (some (.int rR)) CR) ([.ref (bb G + 0)] : List Value).toArray s 75 450 (frA G)) (F0 m 336 ls []) := by
                                                    intro C172 H locs ls hF hw hS hl
                                                    unfold J_L_refuses_336 at hF
                                                    refine lv_aload_n hx hb dL_refuses_336 rfl (lv_at hl 0 rfl) ?_
                                                    refine lv_iload_n hx hb dL_refuses_337 rfl (lv_at hl 1 rfl) ?_
                                                    obtain ⟨r173, C175, hc174, hF⟩ := b2_t hF
                                                    refine call_SWE hC (c_L_tryPutOff l (gP G H) (H.size - bb G) (hw.lp hn) (Nat.zero_le _) hfl r1 _ _ _ hc174) wwL_176 ⟨rfl, rfl, by decide, by decide⟩ hw hn hS hl.1 rfl (rest := []) rfl (Nat.le_of_ble_eq_true rfl) dL_refuses_338 ⟨(show 42 + 2 ≤ 75 by omega), (show 252 + 12 ≤ 450 by omega)⟩ (fun H locs hw hS hk => ?_)
                                                    refine lv_sipush (v := -1001) hx hb dL_refuses_341 (by decide) ?_
                                                    refine lv_icmp_ne (tgt := 367) hx hb dL_refuses_344 (by decide) (fun h176 => ?_) (fun h176 => ?_)
                                                    · have hF := it_f h176 hF
                                                      refine lv_iconst (v := 0) hx hb dL_refuses_367 (by decide) ?_
                                                      refine W.widen (k := 46) (n := 276) (by omega) (by omega) ?_
                                                      exact hJ368 (0 : Int32) C175 _ _ _ hF hw hS (lv_sub hl [0, 1] rfl)
                                                    · have hF := it_t h176 hF
                                                      refine lv_iload_n hx hb dL_refuses_347 rfl (lv_at hl 2 rfl) ?_
                                                      refine lv_iconst (v := 3) hx hb dL_refuses_348 (by decide) ?_
                                                      refine lv_icmp_eq (tgt := 363) hx hb dL_refuses_349 (by decide) (fun h177 => ?_) (fun h177 => ?_)
                                                      · have hF := it_t h177 hF
                                                        refine lv_iconst (v := 1) hx hb dL_refuses_363 (by decide) ?_
                                                        refine lv_goto (tgt := 368) hx hb dL_refuses_364 (by decide) ?_
                                                        refine W.widen (k := 46) (n := 276) (by omega) (by omega) ?_
                                                        exact hJ368 (1 : Int32) C175 _ _ _ hF hw hS (lv_sub hl [0, 1] rfl)
                                                      · have hF := it_f h177 hF
                                                        refine lv_aload_n hx hb dL_refuses_352 rfl (lv_at hl 0 rfl) ?_
                                                        refine lv_iconst (v := 0) hx hb dL_refuses_353 (by decide) ?_
                                                        obtain ⟨r178, C180, hc179, hF⟩ := b2_t hF
                                                        refine call_SWE hC (c_L_tryPutOff l (gP G H) (H.size - bb G) (hw.lp hn) (Nat.zero_le _) hfl (0 : Int32) _ _ _ hc179) wwL_176 ⟨rfl, rfl, by decide, by decide⟩ hw hn hS hl.1 rfl (rest := []) rfl (Nat.le_of_ble_eq_true rfl) dL_refuses_354 ⟨(show 44 + 2 ≤ 75 by omega), (show 264 + 12 ≤ 450 by omega)⟩ (fun H locs hw hS hk => ?_)
                                                        refine lv_sipush (v := -1003) hx hb dL_refuses_357 (by decide) ?_
                                                        refine lv_icmp_ne (tgt := 367) hx hb dL_refuses_360 (by decide) (fun h181 => ?_) (fun h181 => ?_)
                                                        · have hF := it_f h181 hF
                                                          refine lv_iconst (v := 0) hx hb dL_refuses_367 (by decide) ?_
                                                          exact hJ368 (0 : Int32) C180 _ _ _ hF hw hS (lv_sub hl [0, 1] rfl)
                                                        · have hF := it_t h181 hF
                                                          refine lv_iconst (v := 1) hx hb dL_refuses_363 (by decide) ?_
                                                          refine lv_goto (tgt := 368) hx hb dL_refuses_364 (by decide) ?_
                                                          exact hJ368 (1 : Int32) C180 _ _ _ hF hw hS (lv_sub hl [0, 1] rfl)
                                                  refine lv_icmp_eq (tgt := 336) hx hb dL_refuses_322 (by decide) (fun h171 => ?_) (fun h171 => ?_)
                                                  · have hF := it_t h171 hF
                                                    refine W.widen (k := 42) (n := 252) (by omega) (by omega) ?_
                                                    exact hJ336 C169 _ _ _ hF hw hS (lv_sub hl [0, 1, 2] rfl)
                                                  · have hF := it_f h171 hF
                                                    refine lv_aload_n hx hb dL_refuses_325 rfl (lv_at hl 0 rfl) ?_
                                                    refine lv_iconst (v := 0) hx hb dL_refuses_326 (by decide) ?_
                                                    obtain ⟨r182, C184, hc183, hF⟩ := b2_t hF
                                                    refine call_SWE hC (c_L_tryUnlock l (gP G H) (H.size - bb G) (hw.lp hn) (Nat.zero_le _) hfl (0 : Int32) _ _ _ hc183) wwL_173 ⟨rfl, rfl, by decide, by decide⟩ hw hn hS hl.1 rfl (rest := []) rfl (Nat.le_of_ble_eq_true rfl) dL_refuses_327 ⟨(show 40 + 2 ≤ 75 by omega), (show 240 + 12 ≤ 450 by omega)⟩ (fun H locs hw hS hk => ?_)
                                                    refine lv_sipush (v := -1003) hx hb dL_refuses_330 (by decide) ?_
                                                    refine lv_icmp_ne (tgt := 367) hx hb dL_refuses_333 (by decide) (fun h185 => ?_) (fun h185 => ?_)
                                                    · have hF := it_f h185 hF
                                                      refine lv_iconst (v := 0) hx hb dL_refuses_367 (by decide) ?_
                                                      refine W.widen (k := 46) (n := 276) (by omega) (by omega) ?_
                                                      exact hJ368 (0 : Int32) C184 _ _ _ hF hw hS (lv_sub hl [0, 1] rfl)
                                                    · have hF := it_t h185 hF
                                                      exact hJ336 C184 _ _ _ hF hw hS (lv_sub hl [0, 1, 2] rfl)
                                              refine lv_icmp_ne (tgt := 309) hx hb dL_refuses_295 (by decide) (fun h165 => ?_) (fun h165 => ?_)
                                              · have hF := it_f h165 hF
                                                refine W.widen (k := 38) (n := 228) (by omega) (by omega) ?_
                                                exact hJ309 C163 _ _ _ hF hw hS (lv_sub hl [2, 1, 0] rfl)
                                              · have hF := it_t h165 hF
                                                refine lv_aload_n hx hb dL_refuses_298 rfl (lv_at hl 2 rfl) ?_
                                                refine lv_iconst (v := 0) hx hb dL_refuses_299 (by decide) ?_
                                                obtain ⟨r186, C188, hc187, hF⟩ := b2_t hF
                                                refine call_SWE hC (c_L_tryLock l (gP G H) (H.size - bb G) (hw.lp hn) (Nat.zero_le _) hfl (0 : Int32) _ _ _ hc187) wwL_170 ⟨rfl, rfl, by decide, by decide⟩ hw hn hS hl.1 rfl (rest := []) rfl (Nat.le_of_ble_eq_true rfl) dL_refuses_300 ⟨(show 36 + 2 ≤ 75 by omega), (show 216 + 12 ≤ 450 by omega)⟩ (fun H locs hw hS hk => ?_)
                                                refine lv_sipush (v := -1003) hx hb dL_refuses_303 (by decide) ?_
                                                refine lv_icmp_ne (tgt := 367) hx hb dL_refuses_306 (by decide) (fun h189 => ?_) (fun h189 => ?_)
                                                · have hF := it_f h189 hF
                                                  refine lv_iconst (v := 0) hx hb dL_refuses_367 (by decide) ?_
                                                  refine W.widen (k := 46) (n := 276) (by omega) (by omega) ?_
                                                  exact hJ368 (0 : Int32) C188 _ _ _ hF hw hS (lv_sub hl [2, 1] rfl)
                                                · have hF := it_t h189 hF
                                                  exact hJ309 C188 _ _ _ hF hw hS (lv_sub hl [2, 1, 0] rfl)

set_option maxHeartbeats 4000000 in
set_option maxRecDepth 100000 in
theorem c_L_purgeFuel (l : Launch) (G : GG) (n : Nat) (hn : 244 ≤ n) (hn2 : 0 ≤ n) (hfl : l.stackTraces = false) (x1 : Int32) (x2 : Int32) (x3 : Int32) (x4 : Int32) (C : Mem) (rR : Int32) (CR : Mem) (hF : F_L_purgeFuel x1 x2 x3 x4 C = some (rR, CR)) : CtN l yL_purgeFuel cL_purgeFuel 7 (some .int) (rmX 10 178 6 36) 6 36 G n C [.ref (bb G + 0), .int x1, .int x2, .int x3, .int x4] (some (.int rR)) CR := by
  refine CtN.of (by decide) (Nat.le_of_ble_eq_true rfl) ?_
  intro p e s m below meth c ls hC hr hlk hw hl
  have hx := hC.1
  have hb := hC.2.1
  have hS : LW G s s.heap [] := va_S.rf
  have hl : lv_has ls 7 [(0, .ref (bb G + 0)), (1, .int x1), (2, .int x2), (3, .int x3), (4, .int x4)] := hl
  unfold F_L_purgeFuel at hF
  suffices key : ∀ (H : Heap) (locs : List Loc), Wd G n C H → LW G s H locs → W p l e (rmX 10 178 6 36) s m ([.ref (bb G + 0), .int x1, .int x2, .int x3, .int x4] : List Value).toArray below meth c H locs 0 0 (MQ below (QR G n (some (.int rR)) CR) ([.ref (bb G + 0), .int x1, .int x2, .int x3, .int x4] : List Value).toArray s 6 36 (frA G)) (F0 m 0 ls []) by exact key _ _ hw hS
  intro H locs hw hS
  refine lv_aload_n hx hb dL_purgeFuel_0 rfl (lv_at hl 0 rfl) ?_
  refine lv_iconst (v := 2) hx hb dL_purgeFuel_1 (by decide) ?_
  refine lv_iload_n hx hb dL_purgeFuel_2 rfl (lv_at hl 1 rfl) ?_
  obtain ⟨r1, C3, hc2, hF⟩ := b2_t hF
  refine call_SWE hC (c_L_trySet l (gP G H) (H.size - bb G) (hw.lp hn) (Nat.zero_le _) hfl (2 : Int32) x1 _ _ _ hc2) wwL_160 ⟨rfl, rfl, by decide, by decide⟩ hw hn hS hl.1 rfl (rest := []) rfl (Nat.le_of_ble_eq_true rfl) dL_purgeFuel_3 ⟨(show 0 + 1 ≤ 6 by omega), (show 0 + 6 ≤ 36 by omega)⟩ (fun H locs hw hS hk => ?_)
  refine lv_istore (lv' := [(5, .int r1), (0, .ref (bb G + 0)), (1, .int x1), (2, .int x2), (3, .int x3), (4, .int x4)]) hx hb dL_purgeFuel_6 hl (by decide) rfl (fun ls hl => ?_)
  refine lv_aload_n hx hb dL_purgeFuel_8 rfl (lv_at hl 1 rfl) ?_
  refine lv_iload_n hx hb dL_purgeFuel_9 rfl (lv_at hl 3 rfl) ?_
  refine lv_iload_n hx hb dL_purgeFuel_10 rfl (lv_at hl 4 rfl) ?_
  refine lv_iconst (v := 3) hx hb dL_purgeFuel_11 (by decide) ?_
  obtain ⟨r4, C6, hc5, hF⟩ := b2_t hF
  refine call_SWE hC (c_L_tryAhead l (gP G H) (H.size - bb G) (hw.lp hn) (Nat.zero_le _) hfl x2 x3 (3 : Int32) _ _ _ hc5) wwL_185 ⟨rfl, rfl, by decide, by decide⟩ hw hn hS hl.1 rfl (rest := []) rfl (Nat.le_of_ble_eq_true rfl) dL_purgeFuel_12 ⟨(show 1 + 3 ≤ 6 by omega), (show 6 + 18 ≤ 36 by omega)⟩ (fun H locs hw hS hk => ?_)
  refine lv_istore (lv' := [(6, .int r4), (5, .int r1), (0, .ref (bb G + 0)), (1, .int x1), (2, .int x2), (3, .int x3), (4, .int x4)]) hx hb dL_purgeFuel_15 hl (by decide) rfl (fun ls hl => ?_)
  refine lv_iload hx hb dL_purgeFuel_17 (lv_at hl 1 rfl) ?_
  refine lv_if_le (tgt := 37) hx hb dL_purgeFuel_19 (by decide) (fun h7 => ?_) (fun h7 => ?_)
  · have hF := it_t h7 hF
    refine lv_iconst (v := -1) hx hb dL_purgeFuel_37 (by decide) ?_
    exact m_iretN hC hr hlk hw hS (by decide) (by decide) dL_purgeFuel_38 hF
  · have hF := it_f h7 hF
    refine lv_aload_n hx hb dL_purgeFuel_22 rfl (lv_at hl 2 rfl) ?_
    refine lv_iconst (v := 0) hx hb dL_purgeFuel_23 (by decide) ?_
    obtain ⟨r8, C10, hc9, hF⟩ := b2_t hF
    refine call_SWE hC (c_L_tryRestore l (gP G H) (H.size - bb G) (hw.lp hn) (Nat.zero_le _) hfl (0 : Int32) _ _ _ hc9) wwL_142 ⟨rfl, rfl, by decide, by decide⟩ hw hn hS hl.1 rfl (rest := []) rfl (Nat.le_of_ble_eq_true rfl) dL_purgeFuel_24 ⟨(show 4 + 2 ≤ 6 by omega), (show 24 + 12 ≤ 36 by omega)⟩ (fun H locs hw hS hk => ?_)
    refine lv_iload hx hb dL_purgeFuel_27 (lv_at hl 6 rfl) ?_
    refine lv_icmp_ne (tgt := 37) hx hb dL_purgeFuel_29 (by decide) (fun h11 => ?_) (fun h11 => ?_)
    · have hF := it_f h11 hF
      refine lv_iconst (v := -1) hx hb dL_purgeFuel_37 (by decide) ?_
      exact m_iretN hC hr hlk hw hS (by decide) (by decide) dL_purgeFuel_38 hF
    · have hF := it_t h11 hF
      refine lv_iload hx hb dL_purgeFuel_32 (lv_at hl 0 rfl) ?_
      refine lv_goto (tgt := 38) hx hb dL_purgeFuel_34 (by decide) ?_
      exact m_iretN hC hr hlk hw hS (by decide) (by decide) dL_purgeFuel_38 hF
