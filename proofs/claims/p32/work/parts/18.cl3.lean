/-! contracts of the law's methods, by program out of the bytecode -/
theorem aw_int : Cond.arrayClass .int ∈ lw_g := lg 94 (by decide +kernel) rfl
set_option maxRecDepth 1000000 in
theorem wsL_211 : WS RL 211 yL_heat cL_heat 3 (some .int) 1 := ⟨(lg 923 rfl rfl), (lg 924 rfl rfl), (lg 16 rfl rfl), (lg 925 rfl rfl), ⟨by decide +kernel, by decide +kernel⟩, by decide +kernel⟩
set_option maxHeartbeats 4000000 in
set_option maxRecDepth 100000 in
theorem c_L_sound (l : Launch) (G : GG) (n : Nat) (hn : 244 ≤ n) (hn2 : 0 ≤ n) (hfl : l.stackTraces = false)  (C : Mem) (rR : Int32) (CR : Mem) (hF : F_L_sound  C = some (rR, CR)) : CtN l yL_sound cL_sound 12 (some .boolean) (rmX 10 173 304 1820) 304 1820 G n C [.ref (bb G + 0)] (some (.int rR)) CR := by
  refine CtN.of (by decide) (Nat.le_of_ble_eq_true rfl) ?_
  intro p e s m below meth c ls hC hr hlk hw hl
  have hx := hC.1
  have hb := hC.2.1
  have hS : LW G s s.heap [] := va_S.rf
  have hl : lv_has ls 12 [(0, .ref (bb G + 0))] := hl
  unfold F_L_sound at hF
  suffices key : ∀ (H : Heap) (locs : List Loc), Wd G n C H → LW G s H locs → W p l e (rmX 10 173 304 1820) s m ([.ref (bb G + 0)] : List Value).toArray below meth c H locs 0 0 (MQ below (QR G n (some (.int rR)) CR) ([.ref (bb G + 0)] : List Value).toArray s 304 1820 (frA G)) (F0 m 0 ls []) by exact key _ _ hw hS
  intro H locs hw hS
  refine lv_aload_n hx hb dL_sound_0 rfl (lv_at hl 0 rfl) ?_
  refine lv_bipush (v := 6) hx hb dL_sound_1 (by decide) ?_
  obtain ⟨r1, C3, hc2, hF⟩ := b2_t hF
  refine call_SWE hC (c_L_tryAbout l (gP G H) (H.size - bb G) (hw.lp hn) (Nat.zero_le _) hfl (6 : Int32) _ _ _ hc2) wwL_129 ⟨rfl, rfl, by decide, by decide⟩ hw hn hS hl.1 rfl (rest := []) rfl (Nat.le_of_ble_eq_true rfl) dL_sound_3 ⟨(show 0 + 1 ≤ 304 by omega), (show 0 + 6 ≤ 1820 by omega)⟩ (fun H locs hw hS hk => ?_)
  refine lv_istore_n (lv' := [(1, .int r1), (0, .ref (bb G + 0))]) hx hb dL_sound_6 rfl hl (by decide) rfl (fun ls hl => ?_)
  refine lv_iconst (v := 2) hx hb dL_sound_7 (by decide) ?_
  refine m_newi (N := 2) hC hw hn hS aw_int (by decide) (by decide) (by decide) (show 1 + 1 ≤ 304 by omega) (show 6 + 2 ≤ 1820 by omega) dL_sound_8 (fun H ra8 hw hS hk hr8 => ?_)
  refine lv_astore_n (lv' := [(2, .ref ra8), (1, .int r1), (0, .ref (bb G + 0))]) hx hb dL_sound_10 rfl hl (by decide) rfl (fun ls hl => ?_)
  refine lv_iconst (v := 0) hx hb dL_sound_11 (by decide) ?_
  refine lv_istore_n (lv' := [(3, .int (0 : Int32)), (2, .ref ra8), (1, .int r1), (0, .ref (bb G + 0))]) hx hb dL_sound_12 rfl hl (by decide) rfl (fun ls hl => ?_)
  refine lv_iconst (v := 0) hx hb dL_sound_13 (by decide) ?_
  refine lv_istore (lv' := [(4, .int (0 : Int32)), (3, .int (0 : Int32)), (2, .ref ra8), (1, .int r1), (0, .ref (bb G + 0))]) hx hb dL_sound_14 hl (by decide) rfl (fun ls hl => ?_)
  refine lv_bipush (v := -9) hx hb dL_sound_16 (by decide) ?_
  refine lv_istore (lv' := [(5, .int (-9 : Int32)), (4, .int (0 : Int32)), (3, .int (0 : Int32)), (2, .ref ra8), (1, .int r1), (0, .ref (bb G + 0))]) hx hb dL_sound_18 hl (by decide) rfl (fun ls hl => ?_)
  refine lv_aload_n hx hb dL_sound_20 rfl (lv_at hl 5 rfl) ?_
  refine lv_bipush (v := 9) hx hb dL_sound_21 (by decide) ?_
  obtain ⟨r4, C6, hc5, hF⟩ := b2_t hF
  refine call_SWE hC (c_L_tryAbout l (gP G H) (H.size - bb G) (hw.lp hn) (Nat.zero_le _) hfl (9 : Int32) _ _ _ hc5) wwL_129 ⟨rfl, rfl, by decide, by decide⟩ hw hn hS hl.1 rfl (rest := []) rfl (Nat.le_of_ble_eq_true rfl) dL_sound_23 ⟨(show 2 + 1 ≤ 304 by omega), (show 8 + 6 ≤ 1820 by omega)⟩ (fun H locs hw hS hk => ?_)
  have hr8 := hr8.kp hn hk
  refine lv_aload_n hx hb dL_sound_26 rfl (lv_at hl 5 rfl) ?_
  obtain ⟨r7, C9, hc8, hF⟩ := b2_t hF
  refine call_SNE hC (c_L_heat l (gP G H) (H.size - bb G) (hw.lp hn) (Nat.zero_le _) hfl  _ _ _ hc8) wsL_211 ⟨rfl, rfl, by decide, by decide⟩ hw hn hS hl.1 rfl (rest := [.int r4]) rfl (Nat.le_of_ble_eq_true rfl) dL_sound_27 ⟨(show 3 + 18 ≤ 304 by omega), (show 14 + 108 ≤ 1820 by omega)⟩ (fun H locs hw hS hk => ?_)
  have hr8 := hr8.kp hn hk
  refine lv_aload_n hx hb dL_sound_30 rfl (lv_at hl 5 rfl) ?_
  refine lv_bipush (v := 7) hx hb dL_sound_31 (by decide) ?_
  obtain ⟨r10, C12, hc11, hF⟩ := b2_t hF
  refine call_SWE hC (c_L_tryAbout l (gP G H) (H.size - bb G) (hw.lp hn) (Nat.zero_le _) hfl (7 : Int32) _ _ _ hc11) wwL_129 ⟨rfl, rfl, by decide, by decide⟩ hw hn hS hl.1 rfl (rest := [.int r7, .int r4]) rfl (Nat.le_of_ble_eq_true rfl) dL_sound_33 ⟨(show 21 + 1 ≤ 304 by omega), (show 122 + 6 ≤ 1820 by omega)⟩ (fun H locs hw hS hk => ?_)
  have hr8 := hr8.kp hn hk
  obtain ⟨g13, hF⟩ := gz_t hF
  refine lv_idiv hx hb dL_sound_36 g13 ?_
  have hJ45 : ∀ (v15 : Int32) (H : Heap) (locs : List Loc) (ls : Array Slot), J_L_sound_45 r1 C12 v15 = some (rR, CR) → Wd G n C12 H → LW G s H locs → Row G n ra8 2 (fun _ => 0) H → lv_has ls 12 [(0, .ref (bb G + 0)), (1, .int r1), (2, .ref ra8), (3, .int (0 : Int32)), (4, .int (0 : Int32)), (5, .int (-9 : Int32))] → W p l e (rmX 10 173 304 1820) s m ([.ref (bb G + 0)] : List Value).toArray below meth c H locs 22 128 (MQ below (QR G n (some (.int rR)) CR) ([.ref (bb G + 0)] : List Value).toArray s 304 1820 (frA G)) (F0 m 45 ls [.int v15]) := by
    intro v15 H locs ls hF hw hS hr8 hl
    unfold J_L_sound_45 at hF
    refine lv_istore (lv' := [(6, .int v15), (0, .ref (bb G + 0)), (1, .int r1), (2, .ref ra8), (3, .int (0 : Int32)), (4, .int (0 : Int32)), (5, .int (-9 : Int32))]) hx hb dL_sound_45 hl (by decide) rfl (fun ls hl => ?_)
    refine lv_iconst (v := 0) hx hb dL_sound_47 (by decide) ?_
    refine lv_istore (lv' := [(7, .int (0 : Int32)), (6, .int v15), (0, .ref (bb G + 0)), (1, .int r1), (2, .ref ra8), (3, .int (0 : Int32)), (4, .int (0 : Int32)), (5, .int (-9 : Int32))]) hx hb dL_sound_48 hl (by decide) rfl (fun ls hl => ?_)
    obtain ⟨o21, hit21, hG21⟩ := b1_t hF
    have hR21 : ∀ (v23 : Int32) (v24 : Int32) (v25 : Int32) (v26 : Int32) (C27 : Mem) (f28 : Nat → Int32) (H : Heap) (locs : List Loc) (ls : Array Slot), o21 = (v23, v24, v25, v26, C27, f28) → Wd G n C27 H → LW G s H locs → Row G n ra8 2 f28 H → lv_has ls 12 [(0, .ref (bb G + 0)), (1, .int r1), (2, .ref ra8), (5, .int (-9 : Int32)), (3, .int v23), (4, .int v24), (6, .int v25)] → W p l e (rmX 10 173 304 1820) s m ([.ref (bb G + 0)] : List Value).toArray below meth c H locs 172 1028 (MQ below (QR G n (some (.int rR)) CR) ([.ref (bb G + 0)] : List Value).toArray s 304 1820 (frA G)) (F0 m 267 ls []) := by
      intro v23 v24 v25 v26 C27 f28 H locs ls hE hw hS hr8 hl
      subst hE
      have hF := u6_t hG21
      refine lv_iconst (v := 0) hx hb dL_sound_267 (by decide) ?_
      refine lv_istore (lv' := [(7, .int (0 : Int32)), (0, .ref (bb G + 0)), (1, .int r1), (2, .ref ra8), (5, .int (-9 : Int32)), (3, .int v23), (4, .int v24), (6, .int v25)]) hx hb dL_sound_268 hl (by decide) rfl (fun ls hl => ?_)
      obtain ⟨o109, hit109, hG109⟩ := b1_t hF
      have hR109 : ∀ (v110 : Int32) (v111 : Int32) (v112 : Int32) (C113 : Mem) (H : Heap) (locs : List Loc) (ls : Array Slot), o109 = (v110, v111, v112, C113) → Wd G n C113 H → LW G s H locs → Row G n ra8 2 f28 H → lv_has ls 12 [(0, .ref (bb G + 0)), (1, .int r1), (2, .ref ra8), (3, .int v23), (4, .int v24), (5, .int v110), (6, .int v111)] → W p l e (rmX 10 173 304 1820) s m ([.ref (bb G + 0)] : List Value).toArray below meth c H locs 286 1712 (MQ below (QR G n (some (.int rR)) CR) ([.ref (bb G + 0)] : List Value).toArray s 304 1820 (frA G)) (F0 m 474 ls []) := by
        intro v110 v111 v112 C113 H locs ls hE hw hS hr8 hl
        subst hE
        have hF := u4_t hG109
        refine lv_aload_n hx hb dL_sound_474 rfl (lv_at hl 0 rfl) ?_
        refine lv_bipush (v := 11) hx hb dL_sound_475 (by decide) ?_
        obtain ⟨r170, C172, hc171, hF⟩ := b2_t hF
        refine call_SWE hC (c_L_tryAbout l (gP G H) (H.size - bb G) (hw.lp hn) (Nat.zero_le _) hfl (11 : Int32) _ _ _ hc171) wwL_129 ⟨rfl, rfl, by decide, by decide⟩ hw hn hS hl.1 rfl (rest := []) rfl (Nat.le_of_ble_eq_true rfl) dL_sound_477 ⟨(show 286 + 1 ≤ 304 by omega), (show 1712 + 6 ≤ 1820 by omega)⟩ (fun H locs hw hS hk => ?_)
        have hr8 := hr8.kp hn hk
        refine lv_iconst (v := 1) hx hb dL_sound_480 (by decide) ?_
        have hJ489 : ∀ (v174 : Int32) (H : Heap) (locs : List Loc) (ls : Array Slot), J_L_sound_489 r1 v23 v24 f28 v110 v111 C172 v174 = some (rR, CR) → Wd G n C172 H → LW G s H locs → Row G n ra8 2 f28 H → lv_has ls 12 [(0, .ref (bb G + 0)), (1, .int r1), (2, .ref ra8), (3, .int v23), (4, .int v24), (5, .int v110), (6, .int v111)] → W p l e (rmX 10 173 304 1820) s m ([.ref (bb G + 0)] : List Value).toArray below meth c H locs 287 1718 (MQ below (QR G n (some (.int rR)) CR) ([.ref (bb G + 0)] : List Value).toArray s 304 1820 (frA G)) (F0 m 489 ls [.int v174]) := by
          intro v174 H locs ls hF hw hS hr8 hl
          unfold J_L_sound_489 at hF
          refine lv_istore (lv' := [(7, .int v174), (0, .ref (bb G + 0)), (1, .int r1), (2, .ref ra8), (3, .int v23), (4, .int v24), (5, .int v110), (6, .int v111)]) hx hb dL_sound_489 hl (by decide) rfl (fun ls hl => ?_)
          refine lv_iload hx hb dL_sound_491 (lv_at hl 7 rfl) ?_
          refine lv_if_eq (tgt := 635) hx hb dL_sound_493 (by decide) (fun h175 => ?_) (fun h175 => ?_)
          · have hF := it_t h175 hF
            refine lv_iconst (v := 0) hx hb dL_sound_635 (by decide) ?_
            exact m_zretN hC hr hlk hw hS (by decide) (by decide) dL_sound_636 (by decide) hF
          · have hF := it_f h175 hF
            refine lv_aload_n hx hb dL_sound_496 rfl (lv_at hl 3 rfl) ?_
            refine lv_iconst (v := 0) hx hb dL_sound_497 (by decide) ?_
            refine r_iald hC hr8 (show vp_in (0 : Int32) 2 by unfold vp_in; decide) dL_sound_498 ?_
            refine lv_aload_n hx hb dL_sound_499 rfl (lv_at hl 1 rfl) ?_
            refine lv_iconst (v := 0) hx hb dL_sound_500 (by decide) ?_
            refine lv_iconst (v := 1) hx hb dL_sound_501 (by decide) ?_
            obtain ⟨r176, C178, hc177, hF⟩ := b2_t hF
            refine call_SWE hC (c_L_tryFlue l (gP G H) (H.size - bb G) (hw.lp hn) (Nat.zero_le _) hfl (0 : Int32) (1 : Int32) _ _ _ hc177) wwL_135 ⟨rfl, rfl, by decide, by decide⟩ hw hn hS hl.1 rfl (rest := [.int (f28 ((0 : Int32)).toNatClampNeg)]) rfl (Nat.le_of_ble_eq_true rfl) dL_sound_502 ⟨(show 287 + 2 ≤ 304 by omega), (show 1718 + 12 ≤ 1820 by omega)⟩ (fun H locs hw hS hk => ?_)
            have hr8 := hr8.kp hn hk
            refine lv_icmp_ne (tgt := 635) hx hb dL_sound_505 (by decide) (fun h179 => ?_) (fun h179 => ?_)
            · have hF := it_f h179 hF
              refine lv_iconst (v := 0) hx hb dL_sound_635 (by decide) ?_
              exact m_zretN hC hr hlk hw hS (by decide) (by decide) dL_sound_636 (by decide) hF
            · have hF := it_t h179 hF
              refine lv_aload_n hx hb dL_sound_508 rfl (lv_at hl 3 rfl) ?_
              refine lv_iconst (v := 1) hx hb dL_sound_509 (by decide) ?_
              refine r_iald hC hr8 (show vp_in (1 : Int32) 2 by unfold vp_in; decide) dL_sound_510 ?_
              refine lv_aload_n hx hb dL_sound_511 rfl (lv_at hl 1 rfl) ?_
              refine lv_iconst (v := 1) hx hb dL_sound_512 (by decide) ?_
              refine lv_iconst (v := 1) hx hb dL_sound_513 (by decide) ?_
              obtain ⟨r180, C182, hc181, hF⟩ := b2_t hF
              refine call_SWE hC (c_L_tryFlue l (gP G H) (H.size - bb G) (hw.lp hn) (Nat.zero_le _) hfl (1 : Int32) (1 : Int32) _ _ _ hc181) wwL_135 ⟨rfl, rfl, by decide, by decide⟩ hw hn hS hl.1 rfl (rest := [.int (f28 ((1 : Int32)).toNatClampNeg)]) rfl (Nat.le_of_ble_eq_true rfl) dL_sound_514 ⟨(show 289 + 2 ≤ 304 by omega), (show 1730 + 12 ≤ 1820 by omega)⟩ (fun H locs hw hS hk => ?_)
              have hr8 := hr8.kp hn hk
              refine lv_icmp_ne (tgt := 635) hx hb dL_sound_517 (by decide) (fun h183 => ?_) (fun h183 => ?_)
              · have hF := it_f h183 hF
                refine lv_iconst (v := 0) hx hb dL_sound_635 (by decide) ?_
                exact m_zretN hC hr hlk hw hS (by decide) (by decide) dL_sound_636 (by decide) hF
              · have hF := it_t h183 hF
                refine lv_iload_n hx hb dL_sound_520 rfl (lv_at hl 4 rfl) ?_
                refine lv_aload_n hx hb dL_sound_521 rfl (lv_at hl 1 rfl) ?_
                refine lv_bipush (v := 16) hx hb dL_sound_522 (by decide) ?_
                obtain ⟨r184, C186, hc185, hF⟩ := b2_t hF
                refine call_SWE hC (c_L_tryAbout l (gP G H) (H.size - bb G) (hw.lp hn) (Nat.zero_le _) hfl (16 : Int32) _ _ _ hc185) wwL_129 ⟨rfl, rfl, by decide, by decide⟩ hw hn hS hl.1 rfl (rest := [.int v23]) rfl (Nat.le_of_ble_eq_true rfl) dL_sound_524 ⟨(show 291 + 1 ≤ 304 by omega), (show 1742 + 6 ≤ 1820 by omega)⟩ (fun H locs hw hS hk => ?_)
                have hr8 := hr8.kp hn hk
                refine lv_icmp_ne (tgt := 635) hx hb dL_sound_527 (by decide) (fun h187 => ?_) (fun h187 => ?_)
                · have hF := it_f h187 hF
                  refine lv_iconst (v := 0) hx hb dL_sound_635 (by decide) ?_
                  exact m_zretN hC hr hlk hw hS (by decide) (by decide) dL_sound_636 (by decide) hF
                · have hF := it_t h187 hF
                  refine lv_iload hx hb dL_sound_530 (lv_at hl 5 rfl) ?_
                  refine lv_aload_n hx hb dL_sound_532 rfl (lv_at hl 1 rfl) ?_
                  refine lv_iconst (v := 4) hx hb dL_sound_533 (by decide) ?_
                  obtain ⟨r188, C190, hc189, hF⟩ := b2_t hF
                  refine call_SWE hC (c_L_tryAccount l (gP G H) (H.size - bb G) (hw.lp hn) (Nat.zero_le _) hfl (4 : Int32) _ _ _ hc189) wwL_148 ⟨rfl, rfl, by decide, by decide⟩ hw hn hS hl.1 rfl (rest := [.int v24]) rfl (Nat.le_of_ble_eq_true rfl) dL_sound_534 ⟨(show 292 + 1 ≤ 304 by omega), (show 1748 + 6 ≤ 1820 by omega)⟩ (fun H locs hw hS hk => ?_)
                  have hr8 := hr8.kp hn hk
                  refine lv_icmp_ne (tgt := 635) hx hb dL_sound_537 (by decide) (fun h191 => ?_) (fun h191 => ?_)
                  · have hF := it_f h191 hF
                    refine lv_iconst (v := 0) hx hb dL_sound_635 (by decide) ?_
                    exact m_zretN hC hr hlk hw hS (by decide) (by decide) dL_sound_636 (by decide) hF
                  · have hF := it_t h191 hF
                    refine lv_iload hx hb dL_sound_540 (lv_at hl 6 rfl) ?_
                    refine lv_aload_n hx hb dL_sound_542 rfl (lv_at hl 1 rfl) ?_
                    obtain ⟨r192, C194, hc193, hF⟩ := b2_t hF
                    refine call_VNE hC (c_X8_next l (gP G H) (H.size - bb G) (hw.lp hn) (Nat.zero_le _)  _ _ _ hc193) wvL_145 ⟨rfl, rfl, by decide, by decide⟩ hw hn hS rfl hl.1 rfl (rest := [.int v110]) rfl (Nat.le_of_ble_eq_true rfl) dL_sound_543 ⟨(show 293 + 0 ≤ 304 by omega), (show 1754 + 0 ≤ 1820 by omega)⟩ (fun H locs hw hS hk => ?_)
                    have hr8 := hr8.kp hn hk
                    refine lv_icmp_ne (tgt := 635) hx hb dL_sound_546 (by decide) (fun h195 => ?_) (fun h195 => ?_)
                    · have hF := it_f h195 hF
                      refine lv_iconst (v := 0) hx hb dL_sound_635 (by decide) ?_
                      exact m_zretN hC hr hlk hw hS (by decide) (by decide) dL_sound_636 (by decide) hF
                    · have hF := it_t h195 hF
                      refine lv_aload_n hx hb dL_sound_549 rfl (lv_at hl 1 rfl) ?_
                      refine lv_iconst (v := 0) hx hb dL_sound_550 (by decide) ?_
                      refine lv_iconst (v := 3) hx hb dL_sound_551 (by decide) ?_
                      obtain ⟨r196, C198, hc197, hF⟩ := b2_t hF
                      refine call_SWE hC (c_L_tryFlue l (gP G H) (H.size - bb G) (hw.lp hn) (Nat.zero_le _) hfl (0 : Int32) (3 : Int32) _ _ _ hc197) wwL_135 ⟨rfl, rfl, by decide, by decide⟩ hw hn hS hl.1 rfl (rest := []) rfl (Nat.le_of_ble_eq_true rfl) dL_sound_552 ⟨(show 293 + 2 ≤ 304 by omega), (show 1754 + 12 ≤ 1820 by omega)⟩ (fun H locs hw hS hk => ?_)
                      have hr8 := hr8.kp hn hk
                      refine lv_aload_n hx hb dL_sound_555 rfl (lv_at hl 1 rfl) ?_
                      refine lv_iconst (v := 1) hx hb dL_sound_556 (by decide) ?_
                      refine lv_iconst (v := 3) hx hb dL_sound_557 (by decide) ?_
                      obtain ⟨r199, C201, hc200, hF⟩ := b2_t hF
                      refine call_SWE hC (c_L_tryFlue l (gP G H) (H.size - bb G) (hw.lp hn) (Nat.zero_le _) hfl (1 : Int32) (3 : Int32) _ _ _ hc200) wwL_135 ⟨rfl, rfl, by decide, by decide⟩ hw hn hS hl.1 rfl (rest := [.int r196]) rfl (Nat.le_of_ble_eq_true rfl) dL_sound_558 ⟨(show 295 + 2 ≤ 304 by omega), (show 1766 + 12 ≤ 1820 by omega)⟩ (fun H locs hw hS hk => ?_)
                      have hr8 := hr8.kp hn hk
                      refine lv_iadd hx hb dL_sound_561 ?_
                      refine lv_iload_n hx hb dL_sound_562 rfl (lv_at hl 2 rfl) ?_
                      refine lv_icmp_ne (tgt := 635) hx hb dL_sound_563 (by decide) (fun h202 => ?_) (fun h202 => ?_)
                      · have hF := it_f h202 hF
                        refine lv_iconst (v := 0) hx hb dL_sound_635 (by decide) ?_
                        exact m_zretN hC hr hlk hw hS (by decide) (by decide) dL_sound_636 (by decide) hF
                      · have hF := it_t h202 hF
                        refine lv_aload_n hx hb dL_sound_566 rfl (lv_at hl 1 rfl) ?_
                        refine lv_iconst (v := 1) hx hb dL_sound_567 (by decide) ?_
                        obtain ⟨r203, C205, hc204, hF⟩ := b2_t hF
                        refine call_SWE hC (c_L_tryAccount l (gP G H) (H.size - bb G) (hw.lp hn) (Nat.zero_le _) hfl (1 : Int32) _ _ _ hc204) wwL_148 ⟨rfl, rfl, by decide, by decide⟩ hw hn hS hl.1 rfl (rest := []) rfl (Nat.le_of_ble_eq_true rfl) dL_sound_568 ⟨(show 297 + 1 ≤ 304 by omega), (show 1778 + 6 ≤ 1820 by omega)⟩ (fun H locs hw hS hk => ?_)
                        have hr8 := hr8.kp hn hk
                        refine lv_bipush (v := 10) hx hb dL_sound_571 (by decide) ?_
                        refine lv_aload_n hx hb dL_sound_573 rfl (lv_at hl 1 rfl) ?_
                        refine lv_iconst (v := 5) hx hb dL_sound_574 (by decide) ?_
                        obtain ⟨r206, C208, hc207, hF⟩ := b2_t hF
                        refine call_SWE hC (c_L_tryAccount l (gP G H) (H.size - bb G) (hw.lp hn) (Nat.zero_le _) hfl (5 : Int32) _ _ _ hc207) wwL_148 ⟨rfl, rfl, by decide, by decide⟩ hw hn hS hl.1 rfl (rest := [.int (10 : Int32), .int r203]) rfl (Nat.le_of_ble_eq_true rfl) dL_sound_575 ⟨(show 298 + 1 ≤ 304 by omega), (show 1784 + 6 ≤ 1820 by omega)⟩ (fun H locs hw hS hk => ?_)
                        have hr8 := hr8.kp hn hk
                        refine lv_imul hx hb dL_sound_578 ?_
                        refine lv_icmp_ne (tgt := 635) hx hb dL_sound_579 (by decide) (fun h209 => ?_) (fun h209 => ?_)
                        · have hF := it_f h209 hF
                          refine lv_iconst (v := 0) hx hb dL_sound_635 (by decide) ?_
                          exact m_zretN hC hr hlk hw hS (by decide) (by decide) dL_sound_636 (by decide) hF
                        · have hF := it_t h209 hF
                          refine lv_iload hx hb dL_sound_582 (lv_at hl 0 rfl) ?_
                          have hJ605 : ∀ (C211 : Mem) (H : Heap) (locs : List Loc) (ls : Array Slot), J_L_sound_605  C211 = some (rR, CR) → Wd G n C211 H → LW G s H locs → lv_has ls 12 [(0, .ref (bb G + 0))] → W p l e (rmX 10 173 304 1820) s m ([.ref (bb G + 0)] : List Value).toArray below meth c H locs 301 1802 (MQ below (QR G n (some (.int rR)) CR) ([.ref (bb G + 0)] : List Value).toArray s 304 1820 (frA G)) (F0 m 605 ls []) := by
                            intro C211 H locs ls hF hw hS hl
                            unfold J_L_sound_605 at hF
                            refine lv_aload_n hx hb dL_sound_605 rfl (lv_at hl 0 rfl) ?_
                            refine lv_bipush (v := 12) hx hb dL_sound_606 (by decide) ?_
                            obtain ⟨r212, C214, hc213, hF⟩ := b2_t hF
                            refine call_SWE hC (c_L_tryAbout l (gP G H) (H.size - bb G) (hw.lp hn) (Nat.zero_le _) hfl (12 : Int32) _ _ _ hc213) wwL_129 ⟨rfl, rfl, by decide, by decide⟩ hw hn hS hl.1 rfl (rest := []) rfl (Nat.le_of_ble_eq_true rfl) dL_sound_608 ⟨(show 301 + 1 ≤ 304 by omega), (show 1802 + 6 ≤ 1820 by omega)⟩ (fun H locs hw hS hk => ?_)
                            refine lv_aload_n hx hb dL_sound_611 rfl (lv_at hl 0 rfl) ?_
                            refine lv_bipush (v := 13) hx hb dL_sound_612 (by decide) ?_
                            obtain ⟨r215, C217, hc216, hF⟩ := b2_t hF
                            refine call_SWE hC (c_L_tryAbout l (gP G H) (H.size - bb G) (hw.lp hn) (Nat.zero_le _) hfl (13 : Int32) _ _ _ hc216) wwL_129 ⟨rfl, rfl, by decide, by decide⟩ hw hn hS hl.1 rfl (rest := [.int r212]) rfl (Nat.le_of_ble_eq_true rfl) dL_sound_614 ⟨(show 302 + 1 ≤ 304 by omega), (show 1808 + 6 ≤ 1820 by omega)⟩ (fun H locs hw hS hk => ?_)
                            refine lv_icmp_gt (tgt := 635) hx hb dL_sound_617 (by decide) (fun h218 => ?_) (fun h218 => ?_)
                            · have hF := it_t h218 hF
                              refine lv_iconst (v := 0) hx hb dL_sound_635 (by decide) ?_
                              exact m_zretN hC hr hlk hw hS (by decide) (by decide) dL_sound_636 (by decide) hF
                            · have hF := it_f h218 hF
                              refine lv_aload_n hx hb dL_sound_620 rfl (lv_at hl 0 rfl) ?_
                              refine lv_bipush (v := 13) hx hb dL_sound_621 (by decide) ?_
                              obtain ⟨r219, C221, hc220, hF⟩ := b2_t hF
                              refine call_SWE hC (c_L_tryAbout l (gP G H) (H.size - bb G) (hw.lp hn) (Nat.zero_le _) hfl (13 : Int32) _ _ _ hc220) wwL_129 ⟨rfl, rfl, by decide, by decide⟩ hw hn hS hl.1 rfl (rest := []) rfl (Nat.le_of_ble_eq_true rfl) dL_sound_623 ⟨(show 303 + 1 ≤ 304 by omega), (show 1814 + 6 ≤ 1820 by omega)⟩ (fun H locs hw hS hk => ?_)
                              refine lv_bipush (v := 12) hx hb dL_sound_626 (by decide) ?_
                              refine lv_icmp_ge (tgt := 635) hx hb dL_sound_628 (by decide) (fun h222 => ?_) (fun h222 => ?_)
                              · have hF := it_t h222 hF
                                refine lv_iconst (v := 0) hx hb dL_sound_635 (by decide) ?_
                                exact m_zretN hC hr hlk hw hS (by decide) (by decide) dL_sound_636 (by decide) hF
                              · have hF := it_f h222 hF
                                refine lv_iconst (v := 1) hx hb dL_sound_631 (by decide) ?_
                                refine lv_goto (tgt := 636) hx hb dL_sound_632 (by decide) ?_
                                exact m_zretN hC hr hlk hw hS (by decide) (by decide) dL_sound_636 (by decide) hF
                          refine lv_if_ne (tgt := 605) hx hb dL_sound_584 (by decide) (fun h210 => ?_) (fun h210 => ?_)
                          · have hF := it_f h210 hF
                            refine W.widen (k := 301) (n := 1802) (by omega) (by omega) ?_
                            exact hJ605 C208 _ _ _ hF hw hS (lv_sub hl [1] rfl)
                          · have hF := it_t h210 hF
                            refine lv_aload_n hx hb dL_sound_587 rfl (lv_at hl 1 rfl) ?_
                            refine lv_bipush (v := 12) hx hb dL_sound_588 (by decide) ?_
                            obtain ⟨r223, C225, hc224, hF⟩ := b2_t hF
                            refine call_SWE hC (c_L_tryAbout l (gP G H) (H.size - bb G) (hw.lp hn) (Nat.zero_le _) hfl (12 : Int32) _ _ _ hc224) wwL_129 ⟨rfl, rfl, by decide, by decide⟩ hw hn hS hl.1 rfl (rest := []) rfl (Nat.le_of_ble_eq_true rfl) dL_sound_590 ⟨(show 299 + 1 ≤ 304 by omega), (show 1790 + 6 ≤ 1820 by omega)⟩ (fun H locs hw hS hk => ?_)
                            have hr8 := hr8.kp hn hk
                            refine lv_if_ne (tgt := 635) hx hb dL_sound_593 (by decide) (fun h226 => ?_) (fun h226 => ?_)
                            · have hF := it_f h226 hF
                              refine lv_iconst (v := 0) hx hb dL_sound_635 (by decide) ?_
                              exact m_zretN hC hr hlk hw hS (by decide) (by decide) dL_sound_636 (by decide) hF
                            · have hF := it_t h226 hF
                              refine lv_aload_n hx hb dL_sound_596 rfl (lv_at hl 1 rfl) ?_
                              refine lv_bipush (v := 13) hx hb dL_sound_597 (by decide) ?_
                              obtain ⟨r227, C229, hc228, hF⟩ := b2_t hF
                              refine call_SWE hC (c_L_tryAbout l (gP G H) (H.size - bb G) (hw.lp hn) (Nat.zero_le _) hfl (13 : Int32) _ _ _ hc228) wwL_129 ⟨rfl, rfl, by decide, by decide⟩ hw hn hS hl.1 rfl (rest := []) rfl (Nat.le_of_ble_eq_true rfl) dL_sound_599 ⟨(show 300 + 1 ≤ 304 by omega), (show 1796 + 6 ≤ 1820 by omega)⟩ (fun H locs hw hS hk => ?_)
                              have hr8 := hr8.kp hn hk
                              refine lv_if_ne (tgt := 635) hx hb dL_sound_602 (by decide) (fun h230 => ?_) (fun h230 => ?_)
                              · have hF := it_f h230 hF
                                refine lv_iconst (v := 0) hx hb dL_sound_635 (by decide) ?_
                                exact m_zretN hC hr hlk hw hS (by decide) (by decide) dL_sound_636 (by decide) hF
                              · have hF := it_t h230 hF
                                exact hJ605 C229 _ _ _ hF hw hS (lv_sub hl [1] rfl)
        refine lv_icmp_ne (tgt := 488) hx hb dL_sound_481 (by decide) (fun h173 => ?_) (fun h173 => ?_)
        · have hF := it_f h173 hF
          refine lv_iconst (v := 0) hx hb dL_sound_488 (by decide) ?_
          exact hJ489 (0 : Int32) _ _ _ hF hw hS hr8 (lv_sub hl [0, 1, 2, 3, 4, 5, 6] rfl)
        · have hF := it_t h173 hF
          refine lv_iconst (v := 1) hx hb dL_sound_484 (by decide) ?_
          refine lv_goto (tgt := 489) hx hb dL_sound_485 (by decide) ?_
          exact hJ489 (1 : Int32) _ _ _ hF hw hS hr8 (lv_sub hl [0, 1, 2, 3, 4, 5, 6] rfl)
      refine iter_soundN (P := fun (w109 : Nat) (x : Int32 × Int32 × Int32 × Mem) => ∀ (kc109 ks109 : Nat) (H : Heap) (locs : List Loc) (ls : Array Slot), kc109 + 19 * w109 ≤ 286 → ks109 + 114 * w109 ≤ 1712 → Wd G n x.2.2.2 H → LW G s H locs → Row G n ra8 2 f28 H → lv_has ls 12 [(0, .ref (bb G + 0)), (1, .int r1), (2, .ref ra8), (3, .int v23), (4, .int v24), (5, .int x.1), (6, .int x.2.1), (7, .int x.2.2.1)] → W p l e (rmX 10 173 304 1820) s m ([.ref (bb G + 0)] : List Value).toArray below meth c H locs kc109 ks109 (MQ below (QR G n (some (.int rR)) CR) ([.ref (bb G + 0)] : List Value).toArray s 304 1820 (frA G)) (F0 m 270 ls [])) (X := fun r => r = o109) ?_ 6 ((-9 : Int32), v25, (0 : Int32), C27) o109 hit109 rfl 172 1028 _ _ _ (by omega) (by omega) hw hS hr8 (lv_sub hl [1, 2, 3, 5, 6, 4, 7, 0] rfl)
      intro w109 x oo109 hF hk109 hX109 kc109 ks109 H locs ls hc109 hs109 hw hS hr8 hl
      obtain ⟨v105, v106, v107, C108⟩ := x
      have hF : S_L_sound_270 r1 f28 v105 v106 v107 C108 = some oo109 := hF
      have hw : Wd G n C108 H := hw
      have hr8 : Row G n ra8 2 f28 H := hr8
      have hl : lv_has ls 12 [(0, .ref (bb G + 0)), (1, .int r1), (2, .ref ra8), (3, .int v23), (4, .int v24), (5, .int v105), (6, .int v106), (7, .int v107)] := hl
      unfold S_L_sound_270 at hF
      refine lv_iload hx hb dL_sound_270 (lv_at hl 7 rfl) ?_
      refine lv_iload_n hx hb dL_sound_272 rfl (lv_at hl 1 rfl) ?_
      refine lv_icmp_ge (tgt := 474) hx hb dL_sound_273 (by decide) (fun h114 => ?_) (fun h114 => ?_)
      · have hF := it_t h114 hF
        refine W.widen (k := 286) (n := 1712) (by omega) (by omega) ?_
        exact hR109 _ _ _ _ _ _ _ (it_exit hF hX109).symm hw hS hr8 (lv_sub hl [0, 1, 2, 3, 4, 5, 6] rfl)
      · have hF := it_f h114 hF
        refine lv_iload hx hb dL_sound_276 (lv_at hl 6 rfl) ?_
        refine lv_if_eq (tgt := 474) hx hb dL_sound_278 (by decide) (fun h115 => ?_) (fun h115 => ?_)
        · have hF := it_t h115 hF
          refine W.widen (k := 286) (n := 1712) (by omega) (by omega) ?_
          exact hR109 _ _ _ _ _ _ _ (it_exit hF hX109).symm hw hS hr8 (lv_sub hl [0, 1, 2, 3, 4, 5, 6] rfl)
        · have hF := it_f h115 hF
          refine lv_aload_n hx hb dL_sound_281 rfl (lv_at hl 0 rfl) ?_
          refine lv_iload hx hb dL_sound_282 (lv_at hl 7 rfl) ?_
          refine lv_iconst (v := 1) hx hb dL_sound_284 (by decide) ?_
          obtain ⟨r116, C118, hc117, hF⟩ := b2_t hF
          refine call_SWE hC (c_L_tryBoiler l (gP G H) (H.size - bb G) (hw.lp hn) (Nat.zero_le _) hfl v107 (1 : Int32) _ _ _ hc117) wwL_151 ⟨rfl, rfl, by decide, by decide⟩ hw hn hS hl.1 rfl (rest := []) rfl (Nat.le_of_ble_eq_true rfl) dL_sound_285 ⟨(show kc109 + 2 ≤ 304 by omega), (show ks109 + 12 ≤ 1820 by omega)⟩ (fun H locs hw hS hk => ?_)
          have hr8 := hr8.kp hn hk
          refine lv_istore (lv' := [(8, .int r116), (0, .ref (bb G + 0)), (1, .int r1), (2, .ref ra8), (3, .int v23), (4, .int v24), (5, .int v105), (6, .int v106), (7, .int v107)]) hx hb dL_sound_288 hl (by decide) rfl (fun ls hl => ?_)
          refine lv_aload_n hx hb dL_sound_290 rfl (lv_at hl 1 rfl) ?_
          refine lv_iload hx hb dL_sound_291 (lv_at hl 8 rfl) ?_
          refine lv_iconst (v := 2) hx hb dL_sound_293 (by decide) ?_
          obtain ⟨r119, C121, hc120, hF⟩ := b2_t hF
          refine call_SWE hC (c_L_tryBoiler l (gP G H) (H.size - bb G) (hw.lp hn) (Nat.zero_le _) hfl v107 (2 : Int32) _ _ _ hc120) wwL_151 ⟨rfl, rfl, by decide, by decide⟩ hw hn hS hl.1 rfl (rest := []) rfl (Nat.le_of_ble_eq_true rfl) dL_sound_294 ⟨(show (kc109 + 2) + 2 ≤ 304 by omega), (show (ks109 + 12) + 12 ≤ 1820 by omega)⟩ (fun H locs hw hS hk => ?_)
          have hr8 := hr8.kp hn hk
          refine lv_istore (lv' := [(9, .int r119), (8, .int r116), (0, .ref (bb G + 0)), (1, .int r1), (2, .ref ra8), (3, .int v23), (4, .int v24), (5, .int v105), (6, .int v106), (7, .int v107)]) hx hb dL_sound_297 hl (by decide) rfl (fun ls hl => ?_)
          refine lv_aload_n hx hb dL_sound_299 rfl (lv_at hl 2 rfl) ?_
          refine lv_iload hx hb dL_sound_300 (lv_at hl 1 rfl) ?_
          refine lv_iconst (v := 2) hx hb dL_sound_302 (by decide) ?_
          obtain ⟨r122, C124, hc123, hF⟩ := b2_t hF
          refine call_SWE hC (c_L_tryFlue l (gP G H) (H.size - bb G) (hw.lp hn) (Nat.zero_le _) hfl r116 (2 : Int32) _ _ _ hc123) wwL_135 ⟨rfl, rfl, by decide, by decide⟩ hw hn hS hl.1 rfl (rest := []) rfl (Nat.le_of_ble_eq_true rfl) dL_sound_303 ⟨(show (kc109 + 4) + 2 ≤ 304 by omega), (show (ks109 + 24) + 12 ≤ 1820 by omega)⟩ (fun H locs hw hS hk => ?_)
          have hr8 := hr8.kp hn hk
          refine lv_iconst (v := 1) hx hb dL_sound_306 (by decide) ?_
          have hJ337 : ∀ (v126 : Int32) (C127 : Mem) (H : Heap) (locs : List Loc) (ls : Array Slot), J_L_sound_337 v105 v107 r116 r119 v126 C127 = some oo109 → Wd G n C127 H → LW G s H locs → Row G n ra8 2 f28 H → lv_has ls 12 [(0, .ref (bb G + 0)), (1, .int r1), (2, .ref ra8), (3, .int v23), (4, .int v24), (5, .int v105), (7, .int v107), (8, .int r116), (9, .int r119)] → W p l e (rmX 10 173 304 1820) s m ([.ref (bb G + 0)] : List Value).toArray below meth c H locs (kc109 + 10) (ks109 + 60) (MQ below (QR G n (some (.int rR)) CR) ([.ref (bb G + 0)] : List Value).toArray s 304 1820 (frA G)) (F0 m 337 ls [.int v126]) := by
            intro v126 C127 H locs ls hF hw hS hr8 hl
            unfold J_L_sound_337 at hF
            refine lv_istore (lv' := [(10, .int v126), (0, .ref (bb G + 0)), (1, .int r1), (2, .ref ra8), (3, .int v23), (4, .int v24), (5, .int v105), (7, .int v107), (8, .int r116), (9, .int r119)]) hx hb dL_sound_337 hl (by decide) rfl (fun ls hl => ?_)
            refine lv_iload hx hb dL_sound_339 (lv_at hl 9 rfl) ?_
            refine lv_iconst (v := 1) hx hb dL_sound_341 (by decide) ?_
            have hJ389 : ∀ (v129 : Int32) (C130 : Mem) (H : Heap) (locs : List Loc) (ls : Array Slot), J_L_sound_389 v105 v107 v126 v129 C130 = some oo109 → Wd G n C130 H → LW G s H locs → Row G n ra8 2 f28 H → lv_has ls 12 [(0, .ref (bb G + 0)), (1, .int r1), (2, .ref ra8), (3, .int v23), (4, .int v24), (5, .int v105), (7, .int v107), (10, .int v126)] → W p l e (rmX 10 173 304 1820) s m ([.ref (bb G + 0)] : List Value).toArray below meth c H locs (kc109 + 12) (ks109 + 72) (MQ below (QR G n (some (.int rR)) CR) ([.ref (bb G + 0)] : List Value).toArray s 304 1820 (frA G)) (F0 m 389 ls [.int v129]) := by
              intro v129 C130 H locs ls hF hw hS hr8 hl
              unfold J_L_sound_389 at hF
              refine lv_istore (lv' := [(11, .int v129), (0, .ref (bb G + 0)), (1, .int r1), (2, .ref ra8), (3, .int v23), (4, .int v24), (5, .int v105), (7, .int v107), (10, .int v126)]) hx hb dL_sound_389 hl (by decide) rfl (fun ls hl => ?_)
              refine lv_iload hx hb dL_sound_391 (lv_at hl 0 rfl) ?_
              have hJ427 : ∀ (v132 : Int32) (C133 : Mem) (H : Heap) (locs : List Loc) (ls : Array Slot), J_L_sound_427 v107 v126 v129 v132 C133 = some oo109 → Wd G n C133 H → LW G s H locs → Row G n ra8 2 f28 H → lv_has ls 12 [(0, .ref (bb G + 0)), (1, .int r1), (2, .ref ra8), (3, .int v23), (4, .int v24), (7, .int v107), (10, .int v126), (11, .int v129)] → W p l e (rmX 10 173 304 1820) s m ([.ref (bb G + 0)] : List Value).toArray below meth c H locs (kc109 + 16) (ks109 + 96) (MQ below (QR G n (some (.int rR)) CR) ([.ref (bb G + 0)] : List Value).toArray s 304 1820 (frA G)) (F0 m 427 ls [.int v132]) := by
                intro v132 C133 H locs ls hF hw hS hr8 hl
                unfold J_L_sound_427 at hF
                refine lv_istore (lv' := [(5, .int v132), (0, .ref (bb G + 0)), (1, .int r1), (2, .ref ra8), (3, .int v23), (4, .int v24), (7, .int v107), (10, .int v126), (11, .int v129)]) hx hb dL_sound_427 hl (by decide) rfl (fun ls hl => ?_)
                refine lv_aload_n hx hb dL_sound_429 rfl (lv_at hl 1 rfl) ?_
                refine lv_iload hx hb dL_sound_430 (lv_at hl 6 rfl) ?_
                refine lv_bipush (v := 7) hx hb dL_sound_432 (by decide) ?_
                obtain ⟨r134, C136, hc135, hF⟩ := b2_t hF
                refine call_SWE hC (c_L_tryBoiler l (gP G H) (H.size - bb G) (hw.lp hn) (Nat.zero_le _) hfl v107 (7 : Int32) _ _ _ hc135) wwL_151 ⟨rfl, rfl, by decide, by decide⟩ hw hn hS hl.1 rfl (rest := []) rfl (Nat.le_of_ble_eq_true rfl) dL_sound_434 ⟨(show (kc109 + 16) + 2 ≤ 304 by omega), (show (ks109 + 96) + 12 ≤ 1820 by omega)⟩ (fun H locs hw hS hk => ?_)
                have hr8 := hr8.kp hn hk
                refine lv_iload hx hb dL_sound_437 (lv_at hl 7 rfl) ?_
                have hJ447 : ∀ (v138 : Int32) (H : Heap) (locs : List Loc) (ls : Array Slot), J_L_sound_447 v107 v129 v132 r134 C136 v138 = some oo109 → Wd G n C136 H → LW G s H locs → Row G n ra8 2 f28 H → lv_has ls 12 [(0, .ref (bb G + 0)), (1, .int r1), (2, .ref ra8), (3, .int v23), (4, .int v24), (5, .int v132), (7, .int v107), (11, .int v129)] → W p l e (rmX 10 173 304 1820) s m ([.ref (bb G + 0)] : List Value).toArray below meth c H locs (kc109 + 18) (ks109 + 108) (MQ below (QR G n (some (.int rR)) CR) ([.ref (bb G + 0)] : List Value).toArray s 304 1820 (frA G)) (F0 m 447 ls [.int v138, .int r134]) := by
                  intro v138 H locs ls hF hw hS hr8 hl
                  unfold J_L_sound_447 at hF
                  refine lv_icmp_ne (tgt := 465) hx hb dL_sound_447 (by decide) (fun h139 => ?_) (fun h139 => ?_)
                  · have hF := it_f h139 hF
                    refine lv_iconst (v := 0) hx hb dL_sound_465 (by decide) ?_
                    refine lv_istore (lv' := [(6, .int (0 : Int32)), (0, .ref (bb G + 0)), (1, .int r1), (2, .ref ra8), (3, .int v23), (4, .int v24), (5, .int v132), (7, .int v107), (11, .int v129)]) hx hb dL_sound_466 hl (by decide) rfl (fun ls hl => ?_)
                    obtain ⟨v140, ev140, hF⟩ := nm_t hF
                    refine lv_iinc (v := v140) (lv' := [(7, .int v140), (6, .int (0 : Int32)), (0, .ref (bb G + 0)), (1, .int r1), (2, .ref ra8), (3, .int v23), (4, .int v24), (5, .int v132), (11, .int v129)]) hx hb dL_sound_468 hl (k := 7) rfl (by rw [ev140]; rfl) (by decide) rfl (fun ls hl => ?_)
                    refine lv_goto (tgt := 270) hx hb dL_sound_471 (by decide) ?_
                    exact it_back hF hk109 (kc109 + 18) (ks109 + 108) _ _ _ (by omega) (by omega) hw hS hr8 (lv_sub hl [2, 3, 4, 5, 6, 7, 1, 0] rfl)
                  · have hF := it_t h139 hF
                    refine lv_aload_n hx hb dL_sound_450 rfl (lv_at hl 0 rfl) ?_
                    refine lv_iload hx hb dL_sound_451 (lv_at hl 6 rfl) ?_
                    obtain ⟨r141, C143, hc142, hF⟩ := b2_t hF
                    refine call_SWE hC (c_L_tryWhyNot l (gP G H) (H.size - bb G) (hw.lp hn) (Nat.zero_le _) hfl v107 _ _ _ hc142) wwL_179 ⟨rfl, rfl, by decide, by decide⟩ hw hn hS hl.1 rfl (rest := []) rfl (Nat.le_of_ble_eq_true rfl) dL_sound_453 ⟨(show (kc109 + 18) + 1 ≤ 304 by omega), (show (ks109 + 108) + 6 ≤ 1820 by omega)⟩ (fun H locs hw hS hk => ?_)
                    have hr8 := hr8.kp hn hk
                    refine lv_iload hx hb dL_sound_456 (lv_at hl 7 rfl) ?_
                    refine lv_icmp_ne (tgt := 465) hx hb dL_sound_458 (by decide) (fun h144 => ?_) (fun h144 => ?_)
                    · have hF := it_f h144 hF
                      refine lv_iconst (v := 0) hx hb dL_sound_465 (by decide) ?_
                      refine lv_istore (lv' := [(6, .int (0 : Int32)), (0, .ref (bb G + 0)), (1, .int r1), (2, .ref ra8), (3, .int v23), (4, .int v24), (5, .int v132), (7, .int v107), (11, .int v129)]) hx hb dL_sound_466 hl (by decide) rfl (fun ls hl => ?_)
                      obtain ⟨v145, ev145, hF⟩ := nm_t hF
                      refine lv_iinc (v := v145) (lv' := [(7, .int v145), (6, .int (0 : Int32)), (0, .ref (bb G + 0)), (1, .int r1), (2, .ref ra8), (3, .int v23), (4, .int v24), (5, .int v132), (11, .int v129)]) hx hb dL_sound_468 hl (k := 7) rfl (by rw [ev145]; rfl) (by decide) rfl (fun ls hl => ?_)
                      refine lv_goto (tgt := 270) hx hb dL_sound_471 (by decide) ?_
                      exact it_back hF hk109 (kc109 + 19) (ks109 + 114) _ _ _ (by omega) (by omega) hw hS hr8 (lv_sub hl [2, 3, 4, 5, 6, 7, 1, 0] rfl)
                    · have hF := it_t h144 hF
                      refine lv_iconst (v := 1) hx hb dL_sound_461 (by decide) ?_
                      refine lv_goto (tgt := 466) hx hb dL_sound_462 (by decide) ?_
                      refine lv_istore (lv' := [(6, .int (1 : Int32)), (0, .ref (bb G + 0)), (1, .int r1), (2, .ref ra8), (3, .int v23), (4, .int v24), (5, .int v132), (7, .int v107), (11, .int v129)]) hx hb dL_sound_466 hl (by decide) rfl (fun ls hl => ?_)
                      obtain ⟨v146, ev146, hF⟩ := nm_t hF
                      refine lv_iinc (v := v146) (lv' := [(7, .int v146), (6, .int (1 : Int32)), (0, .ref (bb G + 0)), (1, .int r1), (2, .ref ra8), (3, .int v23), (4, .int v24), (5, .int v132), (11, .int v129)]) hx hb dL_sound_468 hl (k := 7) rfl (by rw [ev146]; rfl) (by decide) rfl (fun ls hl => ?_)
                      refine lv_goto (tgt := 270) hx hb dL_sound_471 (by decide) ?_
                      exact it_back hF hk109 (kc109 + 19) (ks109 + 114) _ _ _ (by omega) (by omega) hw hS hr8 (lv_sub hl [2, 3, 4, 5, 6, 7, 1, 0] rfl)
                refine lv_if_eq (tgt := 446) hx hb dL_sound_439 (by decide) (fun h137 => ?_) (fun h137 => ?_)
                · have hF := it_t h137 hF
                  refine lv_iconst (v := 0) hx hb dL_sound_446 (by decide) ?_
                  exact hJ447 (0 : Int32) _ _ _ hF hw hS hr8 (lv_sub hl [1, 2, 3, 4, 5, 0, 6, 8] rfl)
                · have hF := it_f h137 hF
                  refine lv_iconst (v := 1) hx hb dL_sound_442 (by decide) ?_
                  refine lv_goto (tgt := 447) hx hb dL_sound_443 (by decide) ?_
                  exact hJ447 (1 : Int32) _ _ _ hF hw hS hr8 (lv_sub hl [1, 2, 3, 4, 5, 0, 6, 8] rfl)
              refine lv_if_ne (tgt := 425) hx hb dL_sound_393 (by decide) (fun h131 => ?_) (fun h131 => ?_)
              · have hF := it_f h131 hF
                refine lv_iload hx hb dL_sound_425 (lv_at hl 6 rfl) ?_
                refine W.widen (k := (kc109 + 16)) (n := (ks109 + 96)) (by omega) (by omega) ?_
                exact hJ427 v105 C130 _ _ _ hF hw hS hr8 (lv_sub hl [1, 2, 3, 4, 5, 7, 8, 0] rfl)
              · have hF := it_t h131 hF
                refine lv_iload hx hb dL_sound_396 (lv_at hl 6 rfl) ?_
                refine lv_bipush (v := -9) hx hb dL_sound_398 (by decide) ?_
                refine lv_icmp_eq (tgt := 420) hx hb dL_sound_400 (by decide) (fun h147 => ?_) (fun h147 => ?_)
                · have hF := it_t h147 hF
                  refine lv_iload hx hb dL_sound_420 (lv_at hl 7 rfl) ?_
                  refine lv_goto (tgt := 427) hx hb dL_sound_422 (by decide) ?_
                  refine W.widen (k := (kc109 + 16)) (n := (ks109 + 96)) (by omega) (by omega) ?_
                  exact hJ427 v107 C130 _ _ _ hF hw hS hr8 (lv_sub hl [1, 2, 3, 4, 5, 7, 8, 0] rfl)
                · have hF := it_f h147 hF
                  refine lv_aload_n hx hb dL_sound_403 rfl (lv_at hl 1 rfl) ?_
                  refine lv_iload hx hb dL_sound_404 (lv_at hl 7 rfl) ?_
                  refine lv_iconst (v := 4) hx hb dL_sound_406 (by decide) ?_
                  obtain ⟨r148, C150, hc149, hF⟩ := b2_t hF
                  refine call_SWE hC (c_L_tryBoiler l (gP G H) (H.size - bb G) (hw.lp hn) (Nat.zero_le _) hfl v107 (4 : Int32) _ _ _ hc149) wwL_151 ⟨rfl, rfl, by decide, by decide⟩ hw hn hS hl.1 rfl (rest := []) rfl (Nat.le_of_ble_eq_true rfl) dL_sound_407 ⟨(show (kc109 + 12) + 2 ≤ 304 by omega), (show (ks109 + 72) + 12 ≤ 1820 by omega)⟩ (fun H locs hw hS hk => ?_)
                  have hr8 := hr8.kp hn hk
                  refine lv_aload_n hx hb dL_sound_410 rfl (lv_at hl 1 rfl) ?_
                  refine lv_iload hx hb dL_sound_411 (lv_at hl 6 rfl) ?_
                  refine lv_iconst (v := 4) hx hb dL_sound_413 (by decide) ?_
                  obtain ⟨r151, C153, hc152, hF⟩ := b2_t hF
                  refine call_SWE hC (c_L_tryBoiler l (gP G H) (H.size - bb G) (hw.lp hn) (Nat.zero_le _) hfl v105 (4 : Int32) _ _ _ hc152) wwL_151 ⟨rfl, rfl, by decide, by decide⟩ hw hn hS hl.1 rfl (rest := [.int r148]) rfl (Nat.le_of_ble_eq_true rfl) dL_sound_414 ⟨(show (kc109 + 14) + 2 ≤ 304 by omega), (show (ks109 + 84) + 12 ≤ 1820 by omega)⟩ (fun H locs hw hS hk => ?_)
                  have hr8 := hr8.kp hn hk
                  refine lv_icmp_ge (tgt := 425) hx hb dL_sound_417 (by decide) (fun h154 => ?_) (fun h154 => ?_)
                  · have hF := it_t h154 hF
                    refine lv_iload hx hb dL_sound_425 (lv_at hl 6 rfl) ?_
                    exact hJ427 v105 C153 _ _ _ hF hw hS hr8 (lv_sub hl [1, 2, 3, 4, 5, 7, 8, 0] rfl)
                  · have hF := it_f h154 hF
                    refine lv_iload hx hb dL_sound_420 (lv_at hl 7 rfl) ?_
                    refine lv_goto (tgt := 427) hx hb dL_sound_422 (by decide) ?_
                    exact hJ427 v107 C153 _ _ _ hF hw hS hr8 (lv_sub hl [1, 2, 3, 4, 5, 7, 8, 0] rfl)
            refine lv_icmp_eq (tgt := 351) hx hb dL_sound_342 (by decide) (fun h128 => ?_) (fun h128 => ?_)
            · have hF := it_t h128 hF
              refine lv_iconst (v := 1) hx hb dL_sound_351 (by decide) ?_
              refine lv_goto (tgt := 389) hx hb dL_sound_352 (by decide) ?_
              refine W.widen (k := (kc109 + 12)) (n := (ks109 + 72)) (by omega) (by omega) ?_
              exact hJ389 (1 : Int32) C127 _ _ _ hF hw hS hr8 (lv_sub hl [1, 2, 3, 4, 5, 6, 7, 0] rfl)
            · have hF := it_f h128 hF
              refine lv_iload hx hb dL_sound_345 (lv_at hl 9 rfl) ?_
              refine lv_iconst (v := 2) hx hb dL_sound_347 (by decide) ?_
              refine lv_icmp_ne (tgt := 355) hx hb dL_sound_348 (by decide) (fun h155 => ?_) (fun h155 => ?_)
              · have hF := it_f h155 hF
                refine lv_iload hx hb dL_sound_355 (lv_at hl 9 rfl) ?_
                refine lv_iconst (v := 4) hx hb dL_sound_357 (by decide) ?_
                refine lv_icmp_ne (tgt := 365) hx hb dL_sound_358 (by decide) (fun h156 => ?_) (fun h156 => ?_)
                · have hF := it_f h156 hF
                  refine lv_iload hx hb dL_sound_365 (lv_at hl 0 rfl) ?_
                  refine lv_if_eq (tgt := 374) hx hb dL_sound_367 (by decide) (fun h157 => ?_) (fun h157 => ?_)
                  · have hF := it_t h157 hF
                    refine lv_aload_n hx hb dL_sound_374 rfl (lv_at hl 1 rfl) ?_
                    refine lv_iload hx hb dL_sound_375 (lv_at hl 8 rfl) ?_
                    refine lv_iconst (v := 2) hx hb dL_sound_377 (by decide) ?_
                    obtain ⟨r158, C160, hc159, hF⟩ := b2_t hF
                    refine call_SWE hC (c_L_tryFlue l (gP G H) (H.size - bb G) (hw.lp hn) (Nat.zero_le _) hfl r116 (2 : Int32) _ _ _ hc159) wwL_135 ⟨rfl, rfl, by decide, by decide⟩ hw hn hS hl.1 rfl (rest := []) rfl (Nat.le_of_ble_eq_true rfl) dL_sound_378 ⟨(show (kc109 + 10) + 2 ≤ 304 by omega), (show (ks109 + 60) + 12 ≤ 1820 by omega)⟩ (fun H locs hw hS hk => ?_)
                    have hr8 := hr8.kp hn hk
                    refine lv_if_ne (tgt := 388) hx hb dL_sound_381 (by decide) (fun h161 => ?_) (fun h161 => ?_)
                    · have hF := it_f h161 hF
                      refine lv_iconst (v := 4) hx hb dL_sound_388 (by decide) ?_
                      exact hJ389 (4 : Int32) C160 _ _ _ hF hw hS hr8 (lv_sub hl [1, 2, 3, 4, 5, 6, 7, 0] rfl)
                    · have hF := it_t h161 hF
                      refine lv_iconst (v := 3) hx hb dL_sound_384 (by decide) ?_
                      refine lv_goto (tgt := 389) hx hb dL_sound_385 (by decide) ?_
                      exact hJ389 (3 : Int32) C160 _ _ _ hF hw hS hr8 (lv_sub hl [1, 2, 3, 4, 5, 6, 7, 0] rfl)
                  · have hF := it_f h157 hF
                    refine lv_iconst (v := 0) hx hb dL_sound_370 (by decide) ?_
                    refine lv_goto (tgt := 389) hx hb dL_sound_371 (by decide) ?_
                    refine W.widen (k := (kc109 + 12)) (n := (ks109 + 72)) (by omega) (by omega) ?_
                    exact hJ389 (0 : Int32) C127 _ _ _ hF hw hS hr8 (lv_sub hl [1, 2, 3, 4, 5, 6, 7, 0] rfl)
                · have hF := it_t h156 hF
                  refine lv_iconst (v := 2) hx hb dL_sound_361 (by decide) ?_
                  refine lv_goto (tgt := 389) hx hb dL_sound_362 (by decide) ?_
                  refine W.widen (k := (kc109 + 12)) (n := (ks109 + 72)) (by omega) (by omega) ?_
                  exact hJ389 (2 : Int32) C127 _ _ _ hF hw hS hr8 (lv_sub hl [1, 2, 3, 4, 5, 6, 7, 0] rfl)
              · have hF := it_t h155 hF
                refine lv_iconst (v := 1) hx hb dL_sound_351 (by decide) ?_
                refine lv_goto (tgt := 389) hx hb dL_sound_352 (by decide) ?_
                refine W.widen (k := (kc109 + 12)) (n := (ks109 + 72)) (by omega) (by omega) ?_
                exact hJ389 (1 : Int32) C127 _ _ _ hF hw hS hr8 (lv_sub hl [1, 2, 3, 4, 5, 6, 7, 0] rfl)
          refine lv_icmp_ne (tgt := 336) hx hb dL_sound_307 (by decide) (fun h125 => ?_) (fun h125 => ?_)
          · have hF := it_f h125 hF
            refine lv_iconst (v := 0) hx hb dL_sound_336 (by decide) ?_
            refine W.widen (k := (kc109 + 10)) (n := (ks109 + 60)) (by omega) (by omega) ?_
            exact hJ337 (0 : Int32) C124 _ _ _ hF hw hS hr8 (lv_sub hl [2, 3, 4, 5, 6, 7, 9, 1, 0] rfl)
          · have hF := it_t h125 hF
            refine lv_aload_n hx hb dL_sound_310 rfl (lv_at hl 4 rfl) ?_
            refine lv_iload hx hb dL_sound_311 (lv_at hl 1 rfl) ?_
            obtain ⟨g162, hF⟩ := gi_t hF
            refine r_iald hC hr8 g162 dL_sound_313 ?_
            refine lv_aload_n hx hb dL_sound_314 rfl (lv_at hl 2 rfl) ?_
            refine lv_iload hx hb dL_sound_315 (lv_at hl 9 rfl) ?_
            refine lv_iconst (v := 0) hx hb dL_sound_317 (by decide) ?_
            obtain ⟨r163, C165, hc164, hF⟩ := b2_t hF
            refine call_SWE hC (c_L_tryBoiler l (gP G H) (H.size - bb G) (hw.lp hn) (Nat.zero_le _) hfl v107 (0 : Int32) _ _ _ hc164) wwL_151 ⟨rfl, rfl, by decide, by decide⟩ hw hn hS hl.1 rfl (rest := [.int (f28 (r116).toNatClampNeg)]) rfl (Nat.le_of_ble_eq_true rfl) dL_sound_318 ⟨(show (kc109 + 6) + 2 ≤ 304 by omega), (show (ks109 + 36) + 12 ≤ 1820 by omega)⟩ (fun H locs hw hS hk => ?_)
            have hr8 := hr8.kp hn hk
            refine lv_iadd hx hb dL_sound_321 ?_
            refine lv_aload_n hx hb dL_sound_322 rfl (lv_at hl 2 rfl) ?_
            refine lv_iload hx hb dL_sound_323 (lv_at hl 1 rfl) ?_
            refine lv_iconst (v := 0) hx hb dL_sound_325 (by decide) ?_
            obtain ⟨r166, C168, hc167, hF⟩ := b2_t hF
            refine call_SWE hC (c_L_tryFlue l (gP G H) (H.size - bb G) (hw.lp hn) (Nat.zero_le _) hfl r116 (0 : Int32) _ _ _ hc167) wwL_135 ⟨rfl, rfl, by decide, by decide⟩ hw hn hS hl.1 rfl (rest := [.int ((f28 (r116).toNatClampNeg) + r163)]) rfl (Nat.le_of_ble_eq_true rfl) dL_sound_326 ⟨(show (kc109 + 8) + 2 ≤ 304 by omega), (show (ks109 + 48) + 12 ≤ 1820 by omega)⟩ (fun H locs hw hS hk => ?_)
            have hr8 := hr8.kp hn hk
            refine lv_icmp_gt (tgt := 336) hx hb dL_sound_329 (by decide) (fun h169 => ?_) (fun h169 => ?_)
            · have hF := it_t h169 hF
              refine lv_iconst (v := 0) hx hb dL_sound_336 (by decide) ?_
              exact hJ337 (0 : Int32) C168 _ _ _ hF hw hS hr8 (lv_sub hl [2, 3, 4, 5, 6, 7, 9, 1, 0] rfl)
            · have hF := it_f h169 hF
              refine lv_iconst (v := 1) hx hb dL_sound_332 (by decide) ?_
              refine lv_goto (tgt := 337) hx hb dL_sound_333 (by decide) ?_
              exact hJ337 (1 : Int32) C168 _ _ _ hF hw hS hr8 (lv_sub hl [2, 3, 4, 5, 6, 7, 9, 1, 0] rfl)
    refine iter_soundN (P := fun (w21 : Nat) (x : Int32 × Int32 × Int32 × Int32 × Mem × (Nat → Int32)) => ∀ (kc21 ks21 : Nat) (H : Heap) (locs : List Loc) (ls : Array Slot), kc21 + 25 * w21 ≤ 172 → ks21 + 150 * w21 ≤ 1028 → Wd G n x.2.2.2.2.1 H → LW G s H locs → Row G n ra8 2 x.2.2.2.2.2 H → lv_has ls 12 [(0, .ref (bb G + 0)), (1, .int r1), (2, .ref ra8), (5, .int (-9 : Int32)), (3, .int x.1), (4, .int x.2.1), (6, .int x.2.2.1), (7, .int x.2.2.2.1)] → W p l e (rmX 10 173 304 1820) s m ([.ref (bb G + 0)] : List Value).toArray below meth c H locs kc21 ks21 (MQ below (QR G n (some (.int rR)) CR) ([.ref (bb G + 0)] : List Value).toArray s 304 1820 (frA G)) (F0 m 50 ls [])) (X := fun r => r = o21) ?_ 6 ((0 : Int32), (0 : Int32), v15, (0 : Int32), C12, (fun _ => 0)) o21 hit21 rfl 22 128 _ _ _ (by omega) (by omega) hw hS hr8 (lv_sub hl [2, 3, 4, 7, 5, 6, 1, 0] rfl)
    intro w21 x oo21 hF hk21 hX21 kc21 ks21 H locs ls hc21 hs21 hw hS hr8 hl
    obtain ⟨v16, v17, v18, v19, C20, f22⟩ := x
    have hF : S_L_sound_50 r1 v16 v17 v18 v19 C20 f22 = some oo21 := hF
    have hw : Wd G n C20 H := hw
    have hr8 : Row G n ra8 2 f22 H := hr8
    have hl : lv_has ls 12 [(0, .ref (bb G + 0)), (1, .int r1), (2, .ref ra8), (5, .int (-9 : Int32)), (3, .int v16), (4, .int v17), (6, .int v18), (7, .int v19)] := hl
    unfold S_L_sound_50 at hF
    refine lv_iload hx hb dL_sound_50 (lv_at hl 7 rfl) ?_
    refine lv_iload_n hx hb dL_sound_52 rfl (lv_at hl 1 rfl) ?_
    refine lv_icmp_ge (tgt := 267) hx hb dL_sound_53 (by decide) (fun h29 => ?_) (fun h29 => ?_)
    · have hF := it_t h29 hF
      refine W.widen (k := 172) (n := 1028) (by omega) (by omega) ?_
      exact hR21 _ _ _ _ _ _ _ _ _ (it_exit hF hX21).symm hw hS hr8 (lv_sub hl [0, 1, 2, 3, 4, 5, 6] rfl)
    · have hF := it_f h29 hF
      refine lv_iload hx hb dL_sound_56 (lv_at hl 6 rfl) ?_
      refine lv_if_eq (tgt := 267) hx hb dL_sound_58 (by decide) (fun h30 => ?_) (fun h30 => ?_)
      · have hF := it_t h30 hF
        refine W.widen (k := 172) (n := 1028) (by omega) (by omega) ?_
        exact hR21 _ _ _ _ _ _ _ _ _ (it_exit hF hX21).symm hw hS hr8 (lv_sub hl [0, 1, 2, 3, 4, 5, 6] rfl)
      · have hF := it_f h30 hF
        refine lv_aload_n hx hb dL_sound_61 rfl (lv_at hl 0 rfl) ?_
        refine lv_iload hx hb dL_sound_62 (lv_at hl 7 rfl) ?_
        refine lv_iconst (v := 2) hx hb dL_sound_64 (by decide) ?_
        obtain ⟨r31, C33, hc32, hF⟩ := b2_t hF
        refine call_SWE hC (c_L_tryBoiler l (gP G H) (H.size - bb G) (hw.lp hn) (Nat.zero_le _) hfl v19 (2 : Int32) _ _ _ hc32) wwL_151 ⟨rfl, rfl, by decide, by decide⟩ hw hn hS hl.1 rfl (rest := []) rfl (Nat.le_of_ble_eq_true rfl) dL_sound_65 ⟨(show kc21 + 2 ≤ 304 by omega), (show ks21 + 12 ≤ 1820 by omega)⟩ (fun H locs hw hS hk => ?_)
        have hr8 := hr8.kp hn hk
        refine lv_istore (lv' := [(8, .int r31), (0, .ref (bb G + 0)), (1, .int r1), (2, .ref ra8), (5, .int (-9 : Int32)), (3, .int v16), (4, .int v17), (6, .int v18), (7, .int v19)]) hx hb dL_sound_68 hl (by decide) rfl (fun ls hl => ?_)
        refine lv_aload_n hx hb dL_sound_70 rfl (lv_at hl 1 rfl) ?_
        refine lv_iload hx hb dL_sound_71 (lv_at hl 8 rfl) ?_
        refine lv_iconst (v := 3) hx hb dL_sound_73 (by decide) ?_
        obtain ⟨r34, C36, hc35, hF⟩ := b2_t hF
        refine call_SWE hC (c_L_tryBoiler l (gP G H) (H.size - bb G) (hw.lp hn) (Nat.zero_le _) hfl v19 (3 : Int32) _ _ _ hc35) wwL_151 ⟨rfl, rfl, by decide, by decide⟩ hw hn hS hl.1 rfl (rest := []) rfl (Nat.le_of_ble_eq_true rfl) dL_sound_74 ⟨(show (kc21 + 2) + 2 ≤ 304 by omega), (show (ks21 + 12) + 12 ≤ 1820 by omega)⟩ (fun H locs hw hS hk => ?_)
        have hr8 := hr8.kp hn hk
        refine lv_istore (lv' := [(9, .int r34), (8, .int r31), (0, .ref (bb G + 0)), (1, .int r1), (2, .ref ra8), (5, .int (-9 : Int32)), (3, .int v16), (4, .int v17), (6, .int v18), (7, .int v19)]) hx hb dL_sound_77 hl (by decide) rfl (fun ls hl => ?_)
        refine lv_aload_n hx hb dL_sound_79 rfl (lv_at hl 4 rfl) ?_
        refine lv_aload_n hx hb dL_sound_80 rfl (lv_at hl 2 rfl) ?_
        refine lv_iload hx hb dL_sound_81 (lv_at hl 9 rfl) ?_
        refine lv_iconst (v := 1) hx hb dL_sound_83 (by decide) ?_
        obtain ⟨r37, C39, hc38, hF⟩ := b2_t hF
        refine call_SWE hC (c_L_tryBoiler l (gP G H) (H.size - bb G) (hw.lp hn) (Nat.zero_le _) hfl v19 (1 : Int32) _ _ _ hc38) wwL_151 ⟨rfl, rfl, by decide, by decide⟩ hw hn hS hl.1 rfl (rest := [.ref ra8]) rfl (Nat.le_of_ble_eq_true rfl) dL_sound_84 ⟨(show (kc21 + 4) + 2 ≤ 304 by omega), (show (ks21 + 24) + 12 ≤ 1820 by omega)⟩ (fun H locs hw hS hk => ?_)
        have hr8 := hr8.kp hn hk
        refine lv_dup2_11 hx hb dL_sound_87 rfl rfl ?_
        obtain ⟨g40, hF⟩ := gi_t hF
        refine r_iald hC hr8 g40 dL_sound_88 ?_
        refine lv_iload hx hb dL_sound_89 (lv_at hl 1 rfl) ?_
        refine lv_iconst (v := 1) hx hb dL_sound_91 (by decide) ?_
        have hJ112 : ∀ (v42 : Int32) (C43 : Mem) (H : Heap) (locs : List Loc) (ls : Array Slot), J_L_sound_112 v16 v17 v19 f22 r31 r34 r37 v42 C43 = some oo21 → Wd G n C43 H → LW G s H locs → Row G n ra8 2 f22 H → lv_has ls 12 [(0, .ref (bb G + 0)), (1, .int r1), (2, .ref ra8), (3, .int v16), (4, .int v17), (5, .int (-9 : Int32)), (7, .int v19), (8, .int r31), (9, .int r34)] → W p l e (rmX 10 173 304 1820) s m ([.ref (bb G + 0)] : List Value).toArray below meth c H locs (kc21 + 8) (ks21 + 48) (MQ below (QR G n (some (.int rR)) CR) ([.ref (bb G + 0)] : List Value).toArray s 304 1820 (frA G)) (F0 m 112 ls [.int v42, .int (f22 (r37).toNatClampNeg), .int r37, .ref ra8]) := by
          intro v42 C43 H locs ls hF hw hS hr8 hl
          unfold J_L_sound_112 at hF
          refine lv_iadd hx hb dL_sound_112 ?_
          obtain ⟨g44, hF⟩ := gi_t hF
          refine r_iast hC hw hn hS hr8 g44 dL_sound_113 (fun H locs hw hS hr8 => ?_)
          obtain ⟨f45, ef45, hF⟩ := nm_t hF
          rw [← ef45] at hr8
          refine lv_iload_n hx hb dL_sound_114 rfl (lv_at hl 3 rfl) ?_
          refine lv_iload hx hb dL_sound_115 (lv_at hl 7 rfl) ?_
          refine lv_iconst (v := 2) hx hb dL_sound_117 (by decide) ?_
          have hJ126 : ∀ (v47 : Int32) (H : Heap) (locs : List Loc) (ls : Array Slot), J_L_sound_126 v16 v17 v19 r31 r34 C43 f45 v47 = some oo21 → Wd G n C43 H → LW G s H locs → Row G n ra8 2 f45 H → lv_has ls 12 [(0, .ref (bb G + 0)), (1, .int r1), (2, .ref ra8), (4, .int v17), (5, .int (-9 : Int32)), (7, .int v19), (8, .int r31), (9, .int r34)] → W p l e (rmX 10 173 304 1820) s m ([.ref (bb G + 0)] : List Value).toArray below meth c H locs (kc21 + 8) (ks21 + 48) (MQ below (QR G n (some (.int rR)) CR) ([.ref (bb G + 0)] : List Value).toArray s 304 1820 (frA G)) (F0 m 126 ls [.int v47, .int v16]) := by
            intro v47 H locs ls hF hw hS hr8 hl
            unfold J_L_sound_126 at hF
            refine lv_iadd hx hb dL_sound_126 ?_
            obtain ⟨v48, ev48, hF⟩ := nm_t hF
            refine lv_nmi ev48 ?_
            refine lv_istore_n (lv' := [(3, .int v48), (0, .ref (bb G + 0)), (1, .int r1), (2, .ref ra8), (4, .int v17), (5, .int (-9 : Int32)), (7, .int v19), (8, .int r31), (9, .int r34)]) hx hb dL_sound_127 rfl hl (by decide) rfl (fun ls hl => ?_)
            refine lv_iload hx hb dL_sound_128 (lv_at hl 4 rfl) ?_
            refine lv_aload_n hx hb dL_sound_130 rfl (lv_at hl 1 rfl) ?_
            refine lv_iload hx hb dL_sound_131 (lv_at hl 6 rfl) ?_
            refine lv_bipush (v := 6) hx hb dL_sound_133 (by decide) ?_
            obtain ⟨r49, C51, hc50, hF⟩ := b2_t hF
            refine call_SWE hC (c_L_tryBoiler l (gP G H) (H.size - bb G) (hw.lp hn) (Nat.zero_le _) hfl v19 (6 : Int32) _ _ _ hc50) wwL_151 ⟨rfl, rfl, by decide, by decide⟩ hw hn hS hl.1 rfl (rest := [.int v17]) rfl (Nat.le_of_ble_eq_true rfl) dL_sound_135 ⟨(show (kc21 + 8) + 2 ≤ 304 by omega), (show (ks21 + 48) + 12 ≤ 1820 by omega)⟩ (fun H locs hw hS hk => ?_)
            have hr8 := hr8.kp hn hk
            refine lv_iadd hx hb dL_sound_138 ?_
            obtain ⟨v52, ev52, hF⟩ := nm_t hF
            refine lv_nmi ev52 ?_
            refine lv_istore (lv' := [(4, .int v52), (3, .int v48), (0, .ref (bb G + 0)), (1, .int r1), (2, .ref ra8), (5, .int (-9 : Int32)), (7, .int v19), (8, .int r31), (9, .int r34)]) hx hb dL_sound_139 hl (by decide) rfl (fun ls hl => ?_)
            refine lv_iload hx hb dL_sound_141 (lv_at hl 7 rfl) ?_
            refine lv_iconst (v := 1) hx hb dL_sound_143 (by decide) ?_
            have hJ152 : ∀ (v54 : Int32) (H : Heap) (locs : List Loc) (ls : Array Slot), J_L_sound_152 v19 r31 r34 f45 v48 C51 v52 v54 = some oo21 → Wd G n C51 H → LW G s H locs → Row G n ra8 2 f45 H → lv_has ls 12 [(0, .ref (bb G + 0)), (1, .int r1), (2, .ref ra8), (3, .int v48), (4, .int v52), (5, .int (-9 : Int32)), (7, .int v19), (8, .int r31), (9, .int r34)] → W p l e (rmX 10 173 304 1820) s m ([.ref (bb G + 0)] : List Value).toArray below meth c H locs (kc21 + 10) (ks21 + 60) (MQ below (QR G n (some (.int rR)) CR) ([.ref (bb G + 0)] : List Value).toArray s 304 1820 (frA G)) (F0 m 152 ls [.int v54]) := by
              intro v54 H locs ls hF hw hS hr8 hl
              unfold J_L_sound_152 at hF
              refine lv_iload hx hb dL_sound_152 (lv_at hl 8 rfl) ?_
              have hJ162 : ∀ (v56 : Int32) (H : Heap) (locs : List Loc) (ls : Array Slot), J_L_sound_162 v19 r31 r34 f45 v48 C51 v52 v54 v56 = some oo21 → Wd G n C51 H → LW G s H locs → Row G n ra8 2 f45 H → lv_has ls 12 [(0, .ref (bb G + 0)), (1, .int r1), (2, .ref ra8), (3, .int v48), (4, .int v52), (5, .int (-9 : Int32)), (7, .int v19), (8, .int r31), (9, .int r34)] → W p l e (rmX 10 173 304 1820) s m ([.ref (bb G + 0)] : List Value).toArray below meth c H locs (kc21 + 10) (ks21 + 60) (MQ below (QR G n (some (.int rR)) CR) ([.ref (bb G + 0)] : List Value).toArray s 304 1820 (frA G)) (F0 m 162 ls [.int v56, .int v54]) := by
                intro v56 H locs ls hF hw hS hr8 hl
                unfold J_L_sound_162 at hF
                refine lv_icmp_ne (tgt := 258) hx hb dL_sound_162 (by decide) (fun h57 => ?_) (fun h57 => ?_)
                · have hF := it_f h57 hF
                  refine lv_iconst (v := 0) hx hb dL_sound_258 (by decide) ?_
                  refine lv_istore (lv' := [(6, .int (0 : Int32)), (0, .ref (bb G + 0)), (1, .int r1), (2, .ref ra8), (3, .int v48), (4, .int v52), (5, .int (-9 : Int32)), (7, .int v19), (8, .int r31), (9, .int r34)]) hx hb dL_sound_259 hl (by decide) rfl (fun ls hl => ?_)
                  obtain ⟨v58, ev58, hF⟩ := nm_t hF
                  refine lv_iinc (v := v58) (lv' := [(7, .int v58), (6, .int (0 : Int32)), (0, .ref (bb G + 0)), (1, .int r1), (2, .ref ra8), (3, .int v48), (4, .int v52), (5, .int (-9 : Int32)), (8, .int r31), (9, .int r34)]) hx hb dL_sound_261 hl (k := 7) rfl (by rw [ev58]; rfl) (by decide) rfl (fun ls hl => ?_)
                  refine lv_goto (tgt := 50) hx hb dL_sound_264 (by decide) ?_
                  exact it_back hF hk21 (kc21 + 10) (ks21 + 60) _ _ _ (by omega) (by omega) hw hS hr8 (lv_sub hl [2, 3, 4, 7, 5, 6, 1, 0] rfl)
                · have hF := it_t h57 hF
                  refine lv_iload hx hb dL_sound_165 (lv_at hl 8 rfl) ?_
                  refine lv_iconst (v := 5) hx hb dL_sound_167 (by decide) ?_
                  refine lv_icmp_gt (tgt := 258) hx hb dL_sound_168 (by decide) (fun h59 => ?_) (fun h59 => ?_)
                  · have hF := it_t h59 hF
                    refine lv_iconst (v := 0) hx hb dL_sound_258 (by decide) ?_
                    refine lv_istore (lv' := [(6, .int (0 : Int32)), (0, .ref (bb G + 0)), (1, .int r1), (2, .ref ra8), (3, .int v48), (4, .int v52), (5, .int (-9 : Int32)), (7, .int v19), (8, .int r31), (9, .int r34)]) hx hb dL_sound_259 hl (by decide) rfl (fun ls hl => ?_)
                    obtain ⟨v60, ev60, hF⟩ := nm_t hF
                    refine lv_iinc (v := v60) (lv' := [(7, .int v60), (6, .int (0 : Int32)), (0, .ref (bb G + 0)), (1, .int r1), (2, .ref ra8), (3, .int v48), (4, .int v52), (5, .int (-9 : Int32)), (8, .int r31), (9, .int r34)]) hx hb dL_sound_261 hl (k := 7) rfl (by rw [ev60]; rfl) (by decide) rfl (fun ls hl => ?_)
                    refine lv_goto (tgt := 50) hx hb dL_sound_264 (by decide) ?_
                    exact it_back hF hk21 (kc21 + 10) (ks21 + 60) _ _ _ (by omega) (by omega) hw hS hr8 (lv_sub hl [2, 3, 4, 7, 5, 6, 1, 0] rfl)
                  · have hF := it_f h59 hF
                    refine lv_aload_n hx hb dL_sound_171 rfl (lv_at hl 0 rfl) ?_
                    refine lv_iload hx hb dL_sound_172 (lv_at hl 6 rfl) ?_
                    refine lv_bipush (v := 6) hx hb dL_sound_174 (by decide) ?_
                    obtain ⟨r61, C63, hc62, hF⟩ := b2_t hF
                    refine call_SWE hC (c_L_tryBoiler l (gP G H) (H.size - bb G) (hw.lp hn) (Nat.zero_le _) hfl v19 (6 : Int32) _ _ _ hc62) wwL_151 ⟨rfl, rfl, by decide, by decide⟩ hw hn hS hl.1 rfl (rest := []) rfl (Nat.le_of_ble_eq_true rfl) dL_sound_176 ⟨(show (kc21 + 10) + 2 ≤ 304 by omega), (show (ks21 + 60) + 12 ≤ 1820 by omega)⟩ (fun H locs hw hS hk => ?_)
                    have hr8 := hr8.kp hn hk
                    refine lv_aload_n hx hb dL_sound_179 rfl (lv_at hl 0 rfl) ?_
                    refine lv_iload hx hb dL_sound_180 (lv_at hl 6 rfl) ?_
                    refine lv_iconst (v := 0) hx hb dL_sound_182 (by decide) ?_
                    obtain ⟨r64, C66, hc65, hF⟩ := b2_t hF
                    refine call_SWE hC (c_L_tryBoiler l (gP G H) (H.size - bb G) (hw.lp hn) (Nat.zero_le _) hfl v19 (0 : Int32) _ _ _ hc65) wwL_151 ⟨rfl, rfl, by decide, by decide⟩ hw hn hS hl.1 rfl (rest := [.int r61]) rfl (Nat.le_of_ble_eq_true rfl) dL_sound_183 ⟨(show (kc21 + 12) + 2 ≤ 304 by omega), (show (ks21 + 72) + 12 ≤ 1820 by omega)⟩ (fun H locs hw hS hk => ?_)
                    have hr8 := hr8.kp hn hk
                    refine lv_aload_n hx hb dL_sound_186 rfl (lv_at hl 0 rfl) ?_
                    refine lv_iload hx hb dL_sound_187 (lv_at hl 6 rfl) ?_
                    refine lv_iconst (v := 4) hx hb dL_sound_189 (by decide) ?_
                    obtain ⟨r67, C69, hc68, hF⟩ := b2_t hF
                    refine call_SWE hC (c_L_tryBoiler l (gP G H) (H.size - bb G) (hw.lp hn) (Nat.zero_le _) hfl v19 (4 : Int32) _ _ _ hc68) wwL_151 ⟨rfl, rfl, by decide, by decide⟩ hw hn hS hl.1 rfl (rest := [.int r64, .int r61]) rfl (Nat.le_of_ble_eq_true rfl) dL_sound_190 ⟨(show (kc21 + 14) + 2 ≤ 304 by omega), (show (ks21 + 84) + 12 ≤ 1820 by omega)⟩ (fun H locs hw hS hk => ?_)
                    have hr8 := hr8.kp hn hk
                    refine lv_imul hx hb dL_sound_193 ?_
                    refine lv_icmp_lt (tgt := 258) hx hb dL_sound_194 (by decide) (fun h70 => ?_) (fun h70 => ?_)
                    · have hF := it_t h70 hF
                      refine lv_iconst (v := 0) hx hb dL_sound_258 (by decide) ?_
                      refine lv_istore (lv' := [(6, .int (0 : Int32)), (0, .ref (bb G + 0)), (1, .int r1), (2, .ref ra8), (3, .int v48), (4, .int v52), (5, .int (-9 : Int32)), (7, .int v19), (8, .int r31), (9, .int r34)]) hx hb dL_sound_259 hl (by decide) rfl (fun ls hl => ?_)
                      obtain ⟨v71, ev71, hF⟩ := nm_t hF
                      refine lv_iinc (v := v71) (lv' := [(7, .int v71), (6, .int (0 : Int32)), (0, .ref (bb G + 0)), (1, .int r1), (2, .ref ra8), (3, .int v48), (4, .int v52), (5, .int (-9 : Int32)), (8, .int r31), (9, .int r34)]) hx hb dL_sound_261 hl (k := 7) rfl (by rw [ev71]; rfl) (by decide) rfl (fun ls hl => ?_)
                      refine lv_goto (tgt := 50) hx hb dL_sound_264 (by decide) ?_
                      exact it_back hF hk21 (kc21 + 16) (ks21 + 96) _ _ _ (by omega) (by omega) hw hS hr8 (lv_sub hl [2, 3, 4, 7, 5, 6, 1, 0] rfl)
                    · have hF := it_f h70 hF
                      refine lv_aload_n hx hb dL_sound_197 rfl (lv_at hl 0 rfl) ?_
                      refine lv_iload hx hb dL_sound_198 (lv_at hl 6 rfl) ?_
                      refine lv_iconst (v := 4) hx hb dL_sound_200 (by decide) ?_
                      obtain ⟨r72, C74, hc73, hF⟩ := b2_t hF
                      refine call_SWE hC (c_L_tryBoiler l (gP G H) (H.size - bb G) (hw.lp hn) (Nat.zero_le _) hfl v19 (4 : Int32) _ _ _ hc73) wwL_151 ⟨rfl, rfl, by decide, by decide⟩ hw hn hS hl.1 rfl (rest := []) rfl (Nat.le_of_ble_eq_true rfl) dL_sound_201 ⟨(show (kc21 + 16) + 2 ≤ 304 by omega), (show (ks21 + 96) + 12 ≤ 1820 by omega)⟩ (fun H locs hw hS hk => ?_)
                      have hr8 := hr8.kp hn hk
                      refine lv_aload_n hx hb dL_sound_204 rfl (lv_at hl 0 rfl) ?_
                      refine lv_bipush (v := 8) hx hb dL_sound_205 (by decide) ?_
                      obtain ⟨r75, C77, hc76, hF⟩ := b2_t hF
                      refine call_SWE hC (c_L_tryAbout l (gP G H) (H.size - bb G) (hw.lp hn) (Nat.zero_le _) hfl (8 : Int32) _ _ _ hc76) wwL_129 ⟨rfl, rfl, by decide, by decide⟩ hw hn hS hl.1 rfl (rest := [.int r72]) rfl (Nat.le_of_ble_eq_true rfl) dL_sound_207 ⟨(show (kc21 + 18) + 1 ≤ 304 by omega), (show (ks21 + 108) + 6 ≤ 1820 by omega)⟩ (fun H locs hw hS hk => ?_)
                      have hr8 := hr8.kp hn hk
                      refine lv_icmp_gt (tgt := 258) hx hb dL_sound_210 (by decide) (fun h78 => ?_) (fun h78 => ?_)
                      · have hF := it_t h78 hF
                        refine lv_iconst (v := 0) hx hb dL_sound_258 (by decide) ?_
                        refine lv_istore (lv' := [(6, .int (0 : Int32)), (0, .ref (bb G + 0)), (1, .int r1), (2, .ref ra8), (3, .int v48), (4, .int v52), (5, .int (-9 : Int32)), (7, .int v19), (8, .int r31), (9, .int r34)]) hx hb dL_sound_259 hl (by decide) rfl (fun ls hl => ?_)
                        obtain ⟨v79, ev79, hF⟩ := nm_t hF
                        refine lv_iinc (v := v79) (lv' := [(7, .int v79), (6, .int (0 : Int32)), (0, .ref (bb G + 0)), (1, .int r1), (2, .ref ra8), (3, .int v48), (4, .int v52), (5, .int (-9 : Int32)), (8, .int r31), (9, .int r34)]) hx hb dL_sound_261 hl (k := 7) rfl (by rw [ev79]; rfl) (by decide) rfl (fun ls hl => ?_)
                        refine lv_goto (tgt := 50) hx hb dL_sound_264 (by decide) ?_
                        exact it_back hF hk21 (kc21 + 19) (ks21 + 114) _ _ _ (by omega) (by omega) hw hS hr8 (lv_sub hl [2, 3, 4, 7, 5, 6, 1, 0] rfl)
                      · have hF := it_f h78 hF
                        refine lv_aload_n hx hb dL_sound_213 rfl (lv_at hl 0 rfl) ?_
                        refine lv_iload hx hb dL_sound_214 (lv_at hl 6 rfl) ?_
                        refine lv_iconst (v := 5) hx hb dL_sound_216 (by decide) ?_
                        obtain ⟨r80, C82, hc81, hF⟩ := b2_t hF
                        refine call_SWE hC (c_L_tryBoiler l (gP G H) (H.size - bb G) (hw.lp hn) (Nat.zero_le _) hfl v19 (5 : Int32) _ _ _ hc81) wwL_151 ⟨rfl, rfl, by decide, by decide⟩ hw hn hS hl.1 rfl (rest := []) rfl (Nat.le_of_ble_eq_true rfl) dL_sound_217 ⟨(show (kc21 + 19) + 2 ≤ 304 by omega), (show (ks21 + 114) + 12 ≤ 1820 by omega)⟩ (fun H locs hw hS hk => ?_)
                        have hr8 := hr8.kp hn hk
                        have hJ234 : ∀  (H : Heap) (locs : List Loc) (ls : Array Slot), J_L_sound_234 v19 f45 v48 v52 C82  = some oo21 → Wd G n C82 H → LW G s H locs → Row G n ra8 2 f45 H → lv_has ls 12 [(0, .ref (bb G + 0)), (1, .int r1), (2, .ref ra8), (3, .int v48), (4, .int v52), (5, .int (-9 : Int32)), (7, .int v19)] → W p l e (rmX 10 173 304 1820) s m ([.ref (bb G + 0)] : List Value).toArray below meth c H locs (kc21 + 21) (ks21 + 126) (MQ below (QR G n (some (.int rR)) CR) ([.ref (bb G + 0)] : List Value).toArray s 304 1820 (frA G)) (F0 m 234 ls []) := by
                          intro  H locs ls hF hw hS hr8 hl
                          unfold J_L_sound_234 at hF
                          refine lv_aload_n hx hb dL_sound_234 rfl (lv_at hl 0 rfl) ?_
                          refine lv_iload hx hb dL_sound_235 (lv_at hl 6 rfl) ?_
                          refine lv_iconst (v := 4) hx hb dL_sound_237 (by decide) ?_
                          obtain ⟨r84, C86, hc85, hF⟩ := b2_t hF
                          refine call_SWE hC (c_L_tryBoiler l (gP G H) (H.size - bb G) (hw.lp hn) (Nat.zero_le _) hfl v19 (4 : Int32) _ _ _ hc85) wwL_151 ⟨rfl, rfl, by decide, by decide⟩ hw hn hS hl.1 rfl (rest := []) rfl (Nat.le_of_ble_eq_true rfl) dL_sound_238 ⟨(show (kc21 + 21) + 2 ≤ 304 by omega), (show (ks21 + 126) + 12 ≤ 1820 by omega)⟩ (fun H locs hw hS hk => ?_)
                          have hr8 := hr8.kp hn hk
                          refine lv_if_eq (tgt := 254) hx hb dL_sound_241 (by decide) (fun h87 => ?_) (fun h87 => ?_)
                          · have hF := it_t h87 hF
                            refine lv_iconst (v := 1) hx hb dL_sound_254 (by decide) ?_
                            refine lv_goto (tgt := 259) hx hb dL_sound_255 (by decide) ?_
                            refine lv_istore (lv' := [(6, .int (1 : Int32)), (0, .ref (bb G + 0)), (1, .int r1), (2, .ref ra8), (3, .int v48), (4, .int v52), (5, .int (-9 : Int32)), (7, .int v19)]) hx hb dL_sound_259 hl (by decide) rfl (fun ls hl => ?_)
                            obtain ⟨v88, ev88, hF⟩ := nm_t hF
                            refine lv_iinc (v := v88) (lv' := [(7, .int v88), (6, .int (1 : Int32)), (0, .ref (bb G + 0)), (1, .int r1), (2, .ref ra8), (3, .int v48), (4, .int v52), (5, .int (-9 : Int32))]) hx hb dL_sound_261 hl (k := 7) rfl (by rw [ev88]; rfl) (by decide) rfl (fun ls hl => ?_)
                            refine lv_goto (tgt := 50) hx hb dL_sound_264 (by decide) ?_
                            exact it_back hF hk21 (kc21 + 23) (ks21 + 138) _ _ _ (by omega) (by omega) hw hS hr8 (lv_sub hl [2, 3, 4, 7, 5, 6, 1, 0] rfl)
                          · have hF := it_f h87 hF
                            refine lv_aload_n hx hb dL_sound_244 rfl (lv_at hl 0 rfl) ?_
                            refine lv_iload hx hb dL_sound_245 (lv_at hl 6 rfl) ?_
                            refine lv_iconst (v := 5) hx hb dL_sound_247 (by decide) ?_
                            obtain ⟨r89, C91, hc90, hF⟩ := b2_t hF
                            refine call_SWE hC (c_L_tryBoiler l (gP G H) (H.size - bb G) (hw.lp hn) (Nat.zero_le _) hfl v19 (5 : Int32) _ _ _ hc90) wwL_151 ⟨rfl, rfl, by decide, by decide⟩ hw hn hS hl.1 rfl (rest := []) rfl (Nat.le_of_ble_eq_true rfl) dL_sound_248 ⟨(show (kc21 + 23) + 2 ≤ 304 by omega), (show (ks21 + 138) + 12 ≤ 1820 by omega)⟩ (fun H locs hw hS hk => ?_)
                            have hr8 := hr8.kp hn hk
                            refine lv_if_le (tgt := 258) hx hb dL_sound_251 (by decide) (fun h92 => ?_) (fun h92 => ?_)
                            · have hF := it_t h92 hF
                              refine lv_iconst (v := 0) hx hb dL_sound_258 (by decide) ?_
                              refine lv_istore (lv' := [(6, .int (0 : Int32)), (0, .ref (bb G + 0)), (1, .int r1), (2, .ref ra8), (3, .int v48), (4, .int v52), (5, .int (-9 : Int32)), (7, .int v19)]) hx hb dL_sound_259 hl (by decide) rfl (fun ls hl => ?_)
                              obtain ⟨v93, ev93, hF⟩ := nm_t hF
                              refine lv_iinc (v := v93) (lv' := [(7, .int v93), (6, .int (0 : Int32)), (0, .ref (bb G + 0)), (1, .int r1), (2, .ref ra8), (3, .int v48), (4, .int v52), (5, .int (-9 : Int32))]) hx hb dL_sound_261 hl (k := 7) rfl (by rw [ev93]; rfl) (by decide) rfl (fun ls hl => ?_)
                              refine lv_goto (tgt := 50) hx hb dL_sound_264 (by decide) ?_
                              exact it_back hF hk21 (kc21 + 25) (ks21 + 150) _ _ _ (by omega) (by omega) hw hS hr8 (lv_sub hl [2, 3, 4, 7, 5, 6, 1, 0] rfl)
                            · have hF := it_f h92 hF
                              refine lv_iconst (v := 1) hx hb dL_sound_254 (by decide) ?_
                              refine lv_goto (tgt := 259) hx hb dL_sound_255 (by decide) ?_
                              refine lv_istore (lv' := [(6, .int (1 : Int32)), (0, .ref (bb G + 0)), (1, .int r1), (2, .ref ra8), (3, .int v48), (4, .int v52), (5, .int (-9 : Int32)), (7, .int v19)]) hx hb dL_sound_259 hl (by decide) rfl (fun ls hl => ?_)
                              obtain ⟨v94, ev94, hF⟩ := nm_t hF
                              refine lv_iinc (v := v94) (lv' := [(7, .int v94), (6, .int (1 : Int32)), (0, .ref (bb G + 0)), (1, .int r1), (2, .ref ra8), (3, .int v48), (4, .int v52), (5, .int (-9 : Int32))]) hx hb dL_sound_261 hl (k := 7) rfl (by rw [ev94]; rfl) (by decide) rfl (fun ls hl => ?_)
                              refine lv_goto (tgt := 50) hx hb dL_sound_264 (by decide) ?_
                              exact it_back hF hk21 (kc21 + 25) (ks21 + 150) _ _ _ (by omega) (by omega) hw hS hr8 (lv_sub hl [2, 3, 4, 7, 5, 6, 1, 0] rfl)
                        refine lv_if_gt (tgt := 234) hx hb dL_sound_220 (by decide) (fun h83 => ?_) (fun h83 => ?_)
                        · have hF := it_t h83 hF
                          exact hJ234  _ _ _ hF hw hS hr8 (lv_sub hl [0, 1, 2, 3, 4, 5, 6] rfl)
                        · have hF := it_f h83 hF
                          refine lv_iload hx hb dL_sound_223 (lv_at hl 7 rfl) ?_
                          refine lv_if_eq (tgt := 234) hx hb dL_sound_225 (by decide) (fun h95 => ?_) (fun h95 => ?_)
                          · have hF := it_t h95 hF
                            exact hJ234  _ _ _ hF hw hS hr8 (lv_sub hl [0, 1, 2, 3, 4, 5, 6] rfl)
                          · have hF := it_f h95 hF
                            refine lv_iload hx hb dL_sound_228 (lv_at hl 7 rfl) ?_
                            refine lv_iconst (v := 4) hx hb dL_sound_230 (by decide) ?_
                            refine lv_icmp_ne (tgt := 258) hx hb dL_sound_231 (by decide) (fun h96 => ?_) (fun h96 => ?_)
                            · have hF := it_f h96 hF
                              refine lv_iconst (v := 0) hx hb dL_sound_258 (by decide) ?_
                              refine lv_istore (lv' := [(6, .int (0 : Int32)), (0, .ref (bb G + 0)), (1, .int r1), (2, .ref ra8), (3, .int v48), (4, .int v52), (5, .int (-9 : Int32)), (7, .int v19), (8, .int r31), (9, .int r34)]) hx hb dL_sound_259 hl (by decide) rfl (fun ls hl => ?_)
                              obtain ⟨v97, ev97, hF⟩ := nm_t hF
                              refine lv_iinc (v := v97) (lv' := [(7, .int v97), (6, .int (0 : Int32)), (0, .ref (bb G + 0)), (1, .int r1), (2, .ref ra8), (3, .int v48), (4, .int v52), (5, .int (-9 : Int32)), (8, .int r31), (9, .int r34)]) hx hb dL_sound_261 hl (k := 7) rfl (by rw [ev97]; rfl) (by decide) rfl (fun ls hl => ?_)
                              refine lv_goto (tgt := 50) hx hb dL_sound_264 (by decide) ?_
                              exact it_back hF hk21 (kc21 + 21) (ks21 + 126) _ _ _ (by omega) (by omega) hw hS hr8 (lv_sub hl [2, 3, 4, 7, 5, 6, 1, 0] rfl)
                            · have hF := it_t h96 hF
                              exact hJ234  _ _ _ hF hw hS hr8 (lv_sub hl [0, 1, 2, 3, 4, 5, 6] rfl)
              refine lv_if_le (tgt := 161) hx hb dL_sound_154 (by decide) (fun h55 => ?_) (fun h55 => ?_)
              · have hF := it_t h55 hF
                refine lv_iconst (v := 0) hx hb dL_sound_161 (by decide) ?_
                exact hJ162 (0 : Int32) _ _ _ hF hw hS hr8 (lv_sub hl [0, 1, 2, 3, 4, 5, 6, 7, 8] rfl)
              · have hF := it_f h55 hF
                refine lv_iconst (v := 1) hx hb dL_sound_157 (by decide) ?_
                refine lv_goto (tgt := 162) hx hb dL_sound_158 (by decide) ?_
                exact hJ162 (1 : Int32) _ _ _ hF hw hS hr8 (lv_sub hl [0, 1, 2, 3, 4, 5, 6, 7, 8] rfl)
            refine lv_icmp_ne (tgt := 151) hx hb dL_sound_144 (by decide) (fun h53 => ?_) (fun h53 => ?_)
            · have hF := it_f h53 hF
              refine lv_iconst (v := 0) hx hb dL_sound_151 (by decide) ?_
              exact hJ152 (0 : Int32) _ _ _ hF hw hS hr8 (lv_sub hl [2, 3, 4, 1, 0, 5, 6, 7, 8] rfl)
            · have hF := it_t h53 hF
              refine lv_iconst (v := 1) hx hb dL_sound_147 (by decide) ?_
              refine lv_goto (tgt := 152) hx hb dL_sound_148 (by decide) ?_
              exact hJ152 (1 : Int32) _ _ _ hF hw hS hr8 (lv_sub hl [2, 3, 4, 1, 0, 5, 6, 7, 8] rfl)
          refine lv_icmp_ne (tgt := 125) hx hb dL_sound_118 (by decide) (fun h46 => ?_) (fun h46 => ?_)
          · have hF := it_f h46 hF
            refine lv_iconst (v := 0) hx hb dL_sound_125 (by decide) ?_
            exact hJ126 (0 : Int32) _ _ _ hF hw hS hr8 (lv_sub hl [0, 1, 2, 4, 5, 6, 7, 8] rfl)
          · have hF := it_t h46 hF
            refine lv_iconst (v := 1) hx hb dL_sound_121 (by decide) ?_
            refine lv_goto (tgt := 126) hx hb dL_sound_122 (by decide) ?_
            exact hJ126 (1 : Int32) _ _ _ hF hw hS hr8 (lv_sub hl [0, 1, 2, 4, 5, 6, 7, 8] rfl)
        refine lv_icmp_eq (tgt := 101) hx hb dL_sound_92 (by decide) (fun h41 => ?_) (fun h41 => ?_)
        · have hF := it_t h41 hF
          refine lv_aload_n hx hb dL_sound_101 rfl (lv_at hl 2 rfl) ?_
          refine lv_iload hx hb dL_sound_102 (lv_at hl 9 rfl) ?_
          refine lv_iconst (v := 0) hx hb dL_sound_104 (by decide) ?_
          obtain ⟨r98, C100, hc99, hF⟩ := b2_t hF
          refine call_SWE hC (c_L_tryBoiler l (gP G H) (H.size - bb G) (hw.lp hn) (Nat.zero_le _) hfl v19 (0 : Int32) _ _ _ hc99) wwL_151 ⟨rfl, rfl, by decide, by decide⟩ hw hn hS hl.1 rfl (rest := [.int (f22 (r37).toNatClampNeg), .int r37, .ref ra8]) rfl (Nat.le_of_ble_eq_true rfl) dL_sound_105 ⟨(show (kc21 + 6) + 2 ≤ 304 by omega), (show (ks21 + 36) + 12 ≤ 1820 by omega)⟩ (fun H locs hw hS hk => ?_)
          have hr8 := hr8.kp hn hk
          refine lv_goto (tgt := 112) hx hb dL_sound_108 (by decide) ?_
          exact hJ112 r98 C100 _ _ _ hF hw hS hr8 (lv_sub hl [2, 3, 4, 6, 7, 5, 9, 1, 0] rfl)
        · have hF := it_f h41 hF
          refine lv_iload hx hb dL_sound_95 (lv_at hl 1 rfl) ?_
          refine lv_iconst (v := 2) hx hb dL_sound_97 (by decide) ?_
          refine lv_icmp_ne (tgt := 111) hx hb dL_sound_98 (by decide) (fun h101 => ?_) (fun h101 => ?_)
          · have hF := it_f h101 hF
            refine lv_iconst (v := 0) hx hb dL_sound_111 (by decide) ?_
            refine W.widen (k := (kc21 + 8)) (n := (ks21 + 48)) (by omega) (by omega) ?_
            exact hJ112 (0 : Int32) C39 _ _ _ hF hw hS hr8 (lv_sub hl [2, 3, 4, 6, 7, 5, 9, 1, 0] rfl)
          · have hF := it_t h101 hF
            refine lv_aload_n hx hb dL_sound_101 rfl (lv_at hl 2 rfl) ?_
            refine lv_iload hx hb dL_sound_102 (lv_at hl 9 rfl) ?_
            refine lv_iconst (v := 0) hx hb dL_sound_104 (by decide) ?_
            obtain ⟨r102, C104, hc103, hF⟩ := b2_t hF
            refine call_SWE hC (c_L_tryBoiler l (gP G H) (H.size - bb G) (hw.lp hn) (Nat.zero_le _) hfl v19 (0 : Int32) _ _ _ hc103) wwL_151 ⟨rfl, rfl, by decide, by decide⟩ hw hn hS hl.1 rfl (rest := [.int (f22 (r37).toNatClampNeg), .int r37, .ref ra8]) rfl (Nat.le_of_ble_eq_true rfl) dL_sound_105 ⟨(show (kc21 + 6) + 2 ≤ 304 by omega), (show (ks21 + 36) + 12 ≤ 1820 by omega)⟩ (fun H locs hw hS hk => ?_)
            have hr8 := hr8.kp hn hk
            refine lv_goto (tgt := 112) hx hb dL_sound_108 (by decide) ?_
            exact hJ112 r102 C104 _ _ _ hF hw hS hr8 (lv_sub hl [2, 3, 4, 6, 7, 5, 9, 1, 0] rfl)
  refine lv_icmp_ne (tgt := 44) hx hb dL_sound_37 (by decide) (fun h14 => ?_) (fun h14 => ?_)
  · have hF := it_f h14 hF
    refine lv_iconst (v := 0) hx hb dL_sound_44 (by decide) ?_
    exact hJ45 (0 : Int32) _ _ _ hF hw hS hr8 (lv_sub hl [5, 4, 3, 2, 1, 0] rfl)
  · have hF := it_t h14 hF
    refine lv_iconst (v := 1) hx hb dL_sound_40 (by decide) ?_
    refine lv_goto (tgt := 45) hx hb dL_sound_41 (by decide) ?_
    exact hJ45 (1 : Int32) _ _ _ hF hw hS hr8 (lv_sub hl [5, 4, 3, 2, 1, 0] rfl)
set_option maxRecDepth 1000000 in
theorem wsL_112 : WS RL 112 yL_number cL_number 2 (some .int) 2 := ⟨(lg 554 rfl rfl), (lg 555 rfl rfl), (lg 16 rfl rfl), (lg 556 rfl rfl), ⟨by decide +kernel, by decide +kernel⟩, by decide +kernel⟩
set_option maxRecDepth 1000000 in
theorem wvL_116 : WV RL 116 yX8_clearText cX8_clearText 2 (some .int) 0 := ⟨(lg 562 rfl rfl), (lg 563 rfl rfl), (lg 564 rfl rfl), (lg 17 rfl rfl), (lg 565 rfl rfl), ⟨by decide +kernel, by decide +kernel⟩, by decide +kernel⟩
set_option maxRecDepth 1000000 in
theorem wvL_119 : WV RL 119 yX8_errorPosition cX8_errorPosition 1 (some .int) 0 := ⟨(lg 343 rfl rfl), (lg 344 rfl rfl), (lg 345 rfl rfl), (lg 17 rfl rfl), (lg 346 rfl rfl), ⟨by decide +kernel, by decide +kernel⟩, by decide +kernel⟩
set_option maxRecDepth 1000000 in
theorem wsL_122 : WS RL 122 yL_two cL_two 3 (some .boolean) 3 := ⟨(lg 581 rfl rfl), (lg 582 rfl rfl), (lg 16 rfl rfl), (lg 583 rfl rfl), ⟨by decide +kernel, by decide +kernel⟩, by decide +kernel⟩
theorem wwL_125 : WSW RL 125 yL_tryLoad cL_tryLoad 2 (some .int) [(0, 4, 5, 15)] 1 := ⟨(lg 584 (by decide +kernel) rfl), (lg 585 (by decide +kernel) rfl), (lg 16 (by decide +kernel) rfl), (lg 586 (by decide +kernel) rfl), ⟨by decide +kernel, by decide +kernel⟩, by decide +kernel⟩
set_option maxHeartbeats 4000000 in
set_option maxRecDepth 100000 in
theorem c_L_told (l : Launch) (G : GG) (b L : Nat) (xs : Nat → Int32) (hbG : b < bb G) (hfl : l.stackTraces = false) (x3 : Int32) (C D : Mem) (rR : Int32) (CR DR : Mem) (hF : F_L_told xs L x3 C D = some (rR, CR, DR)) : Ct2 l yL_told cL_told 13 (some .boolean) (rmX 11 195 211 1266) 211 1266 G b L xs C D [.ref (bb G + 0), .ref (bb G + 244), .ref b, .int x3] (some (.int rR)) CR DR := by
  refine Ct2.of (by decide) (Nat.le_of_ble_eq_true rfl) ?_
  intro p e s m below meth c ls hC hr hlk hX hw hq hl
  have hn : 244 ≤ 244 := Nat.le_refl _
  have hx := hC.1
  have hb := hC.2.1
  have hS : LW G s s.heap [] := va_S.rf
  have hl : lv_has ls 13 [(0, .ref (bb G + 0)), (1, .ref (bb G + 244)), (2, .ref b), (3, .int x3)] := hl
  unfold F_L_told at hF
  suffices key : ∀ (H : Heap) (locs : List Loc), Wd G 244 C H → LW G s H locs → Oq G D H → W p l e (rmX 11 195 211 1266) s m ([.ref (bb G + 0), .ref (bb G + 244), .ref b, .int x3] : List Value).toArray below meth c H locs 0 0 (MQ below (QR2 G (some (.int rR)) CR DR) ([.ref (bb G + 0), .ref (bb G + 244), .ref b, .int x3] : List Value).toArray s 211 1266 (frA G)) (F0 m 0 ls []) by exact key _ _ hw hS hq
  intro H locs hw hS hq
  refine lv_aload_n hx hb dL_told_0 rfl (lv_at hl 2 rfl) ?_
  refine lv_iload_n hx hb dL_told_1 rfl (lv_at hl 3 rfl) ?_
  obtain ⟨r1, C3, D4, hc2, hF⟩ := b3_t hF
  refine call_S2 hC (c_L_number l G b L xs hbG hfl x3 _ _ _ _ _ hc2) wsL_112 ⟨rfl, rfl, by decide, by decide⟩ hX hbG hw hq hS hl.1 rfl (rest := []) rfl (Nat.le_of_ble_eq_true rfl) dL_told_2 ⟨(show 0 + 0 ≤ 211 by omega), (show 0 + 0 ≤ 1266 by omega)⟩ (fun H locs hw hq hS => ?_)
  refine lv_istore (lv' := [(4, .int r1), (0, .ref (bb G + 0)), (1, .ref (bb G + 244)), (2, .ref b), (3, .int x3)]) hx hb dL_told_5 hl (by decide) rfl (fun ls hl => ?_)
  refine lv_aload_n hx hb dL_told_7 rfl (lv_at hl 3 rfl) ?_
  refine lv_iload_n hx hb dL_told_8 rfl (lv_at hl 4 rfl) ?_
  refine lv_iconst (v := 1) hx hb dL_told_9 (by decide) ?_
  refine lv_iadd hx hb dL_told_10 ?_
  obtain ⟨r5, C7, D8, hc6, hF⟩ := b3_t hF
  refine call_S2 hC (c_L_number l G b L xs hbG hfl (x3 + (1 : Int32)) _ _ _ _ _ hc6) wsL_112 ⟨rfl, rfl, by decide, by decide⟩ hX hbG hw hq hS hl.1 rfl (rest := []) rfl (Nat.le_of_ble_eq_true rfl) dL_told_11 ⟨(show 0 + 0 ≤ 211 by omega), (show 0 + 0 ≤ 1266 by omega)⟩ (fun H locs hw hq hS => ?_)
  refine lv_istore (lv' := [(5, .int r5), (4, .int r1), (0, .ref (bb G + 0)), (1, .ref (bb G + 244)), (2, .ref b), (3, .int x3)]) hx hb dL_told_14 hl (by decide) rfl (fun ls hl => ?_)
  refine lv_iconst (v := 2) hx hb dL_told_16 (by decide) ?_
  refine lv_iload hx hb dL_told_17 (lv_at hl 1 rfl) ?_
  refine lv_bipush (v := 7) hx hb dL_told_19 (by decide) ?_
  refine lv_irem hx hb dL_told_21 (by decide) ?_
  refine lv_iadd hx hb dL_told_22 ?_
  obtain ⟨v9, ev9, hF⟩ := nm_t hF
  refine lv_nmi ev9 ?_
  refine lv_istore (lv' := [(6, .int v9), (5, .int r5), (4, .int r1), (0, .ref (bb G + 0)), (1, .ref (bb G + 244)), (2, .ref b), (3, .int x3)]) hx hb dL_told_23 hl (by decide) rfl (fun ls hl => ?_)
  refine lv_iconst (v := 1) hx hb dL_told_25 (by decide) ?_
  refine lv_iload hx hb dL_told_26 (lv_at hl 2 rfl) ?_
  refine lv_bipush (v := 8) hx hb dL_told_28 (by decide) ?_
  refine lv_idiv hx hb dL_told_30 (by decide) ?_
  refine lv_iconst (v := 5) hx hb dL_told_31 (by decide) ?_
  refine lv_irem hx hb dL_told_32 (by decide) ?_
  refine lv_iadd hx hb dL_told_33 ?_
  obtain ⟨v10, ev10, hF⟩ := nm_t hF
  refine lv_nmi ev10 ?_
  refine lv_istore (lv' := [(7, .int v10), (6, .int v9), (5, .int r5), (4, .int r1), (0, .ref (bb G + 0)), (1, .ref (bb G + 244)), (2, .ref b), (3, .int x3)]) hx hb dL_told_34 hl (by decide) rfl (fun ls hl => ?_)
  refine lv_aload_n hx hb dL_told_36 rfl (lv_at hl 4 rfl) ?_
  obtain ⟨r11, C13, hc12, hF⟩ := b2_t hF
  refine call_VNE hC (c_X8_clearText l (gP G H) (H.size - bb G) (hw.lp hn) (Nat.zero_le _)  _ _ _ hc12) wvL_116 ⟨rfl, rfl, by decide, by decide⟩ hw hn hS rfl hl.1 rfl (rest := []) rfl (Nat.le_of_ble_eq_true rfl) dL_told_37 ⟨(show 0 + 0 ≤ 211 by omega), (show 0 + 0 ≤ 1266 by omega)⟩ (fun H locs hw hS hk => ?_)
  have hq := hq.kp hk
  refine lv_aload_n hx hb dL_told_40 rfl (lv_at hl 5 rfl) ?_
  obtain ⟨r14, D16, hc15, hF⟩ := b2_t hF
  refine call_VNQ hC (c_X8_clearText l (gQ G H) (H.size - (bb G + 244)) hq.lq (Nat.zero_le _)  _ _ _ hc15) wvL_116 ⟨rfl, rfl, by decide, by decide⟩ hw hq hS rfl hl.1 rfl (rest := [.int r11]) rfl (Nat.le_of_ble_eq_true rfl) dL_told_41 ⟨(show 0 + 0 ≤ 211 by omega), (show 0 + 0 ≤ 1266 by omega)⟩ (fun H locs hq hS hk => ?_)
  have hw := hw.kq hk
  have hJ129 : ∀ (v18 : Int32) (C19 : Mem) (D20 : Mem) (H : Heap) (locs : List Loc) (ls : Array Slot), J_L_told_129 xs L x3 r1 r5 v9 v10 v18 C19 D20 = some (rR, CR, DR) → Wd G 244 C19 H → LW G s H locs → Oq G D20 H → lv_has ls 13 [(0, .ref (bb G + 0)), (1, .ref (bb G + 244)), (2, .ref b), (3, .int x3), (4, .int r1), (5, .int r5), (6, .int v9), (7, .int v10)] → W p l e (rmX 11 195 211 1266) s m ([.ref (bb G + 0), .ref (bb G + 244), .ref b, .int x3] : List Value).toArray below meth c H locs 24 144 (MQ below (QR2 G (some (.int rR)) CR DR) ([.ref (bb G + 0), .ref (bb G + 244), .ref b, .int x3] : List Value).toArray s 211 1266 (frA G)) (F0 m 129 ls [.int v18]) := by
    intro v18 C19 D20 H locs ls hF hw hS hq hl
    unfold J_L_told_129 at hF
    refine lv_istore (lv' := [(8, .int v18), (0, .ref (bb G + 0)), (1, .ref (bb G + 244)), (2, .ref b), (3, .int x3), (4, .int r1), (5, .int r5), (6, .int v9), (7, .int v10)]) hx hb dL_told_129 hl (by decide) rfl (fun ls hl => ?_)
    refine lv_iconst (v := 0) hx hb dL_told_131 (by decide) ?_
    refine lv_istore (lv' := [(9, .int (0 : Int32)), (8, .int v18), (0, .ref (bb G + 0)), (1, .ref (bb G + 244)), (2, .ref b), (3, .int x3), (4, .int r1), (5, .int r5), (6, .int v9), (7, .int v10)]) hx hb dL_told_132 hl (by decide) rfl (fun ls hl => ?_)
    obtain ⟨o25, hit25, hG25⟩ := b1_t hF
    have hR25 : ∀ (v26 : Int32) (v27 : Int32) (C28 : Mem) (D29 : Mem) (H : Heap) (locs : List Loc) (ls : Array Slot), o25 = (v26, v27, C28, D29) → Wd G 244 C28 H → LW G s H locs → Oq G D29 H → lv_has ls 13 [(0, .ref (bb G + 0)), (1, .ref (bb G + 244)), (4, .int r1), (5, .int r5), (6, .int v9), (7, .int v10), (8, .int v26)] → W p l e (rmX 11 195 211 1266) s m ([.ref (bb G + 0), .ref (bb G + 244), .ref b, .int x3] : List Value).toArray below meth c H locs 120 720 (MQ below (QR2 G (some (.int rR)) CR DR) ([.ref (bb G + 0), .ref (bb G + 244), .ref b, .int x3] : List Value).toArray s 211 1266 (frA G)) (F0 m 251 ls []) := by
      intro v26 v27 C28 D29 H locs ls hE hw hS hq hl
      subst hE
      have hF := u4_t hG25
      refine lv_bipush (v := 6) hx hb dL_told_251 (by decide) ?_
      refine lv_iconst (v := 4) hx hb dL_told_253 (by decide) ?_
      refine lv_iload hx hb dL_told_254 (lv_at hl 5 rfl) ?_
      refine lv_imul hx hb dL_told_256 ?_
      refine lv_iadd hx hb dL_told_257 ?_
      obtain ⟨v70, ev70, hF⟩ := nm_t hF
      refine lv_nmi ev70 ?_
      refine lv_istore (lv' := [(9, .int v70), (0, .ref (bb G + 0)), (1, .ref (bb G + 244)), (4, .int r1), (5, .int r5), (6, .int v9), (7, .int v10), (8, .int v26)]) hx hb dL_told_258 hl (by decide) rfl (fun ls hl => ?_)
      refine lv_bipush (v := 40) hx hb dL_told_260 (by decide) ?_
      refine lv_istore (lv' := [(10, .int (40 : Int32)), (9, .int v70), (0, .ref (bb G + 0)), (1, .ref (bb G + 244)), (4, .int r1), (5, .int r5), (6, .int v9), (7, .int v10), (8, .int v26)]) hx hb dL_told_262 hl (by decide) rfl (fun ls hl => ?_)
      refine lv_iload hx hb dL_told_264 (lv_at hl 5 rfl) ?_
      refine lv_sipush (v := 128) hx hb dL_told_266 (by decide) ?_
      refine lv_idiv hx hb dL_told_269 (by decide) ?_
      refine lv_iconst (v := 3) hx hb dL_told_270 (by decide) ?_
      refine lv_irem hx hb dL_told_271 (by decide) ?_
      have hJ384 : ∀ (v72 : Int32) (v73 : Int32) (v74 : Int32) (C75 : Mem) (D76 : Mem) (H : Heap) (locs : List Loc) (ls : Array Slot), J_L_told_384 r1 v9 v10 v72 v73 v74 C75 D76 = some (rR, CR, DR) → Wd G 244 C75 H → LW G s H locs → Oq G D76 H → lv_has ls 13 [(0, .ref (bb G + 0)), (1, .ref (bb G + 244)), (4, .int r1), (6, .int v9), (7, .int v10), (8, .int v72), (9, .int v73), (10, .int v74)] → W p l e (rmX 11 195 211 1266) s m ([.ref (bb G + 0), .ref (bb G + 244), .ref b, .int x3] : List Value).toArray below meth c H locs 196 1176 (MQ below (QR2 G (some (.int rR)) CR DR) ([.ref (bb G + 0), .ref (bb G + 244), .ref b, .int x3] : List Value).toArray s 211 1266 (frA G)) (F0 m 384 ls []) := by
        intro v72 v73 v74 C75 D76 H locs ls hF hw hS hq hl
        unfold J_L_told_384 at hF
        refine lv_iload hx hb dL_told_384 (lv_at hl 5 rfl) ?_
        refine lv_if_eq (tgt := 519) hx hb dL_told_386 (by decide) (fun h77 => ?_) (fun h77 => ?_)
        · have hF := it_t h77 hF
          refine lv_iconst (v := 0) hx hb dL_told_519 (by decide) ?_
          exact m_zret2 hC hr hlk hw hq hS (by decide) (by decide) dL_told_520 (by decide) hF
        · have hF := it_f h77 hF
          refine lv_aload_n hx hb dL_told_389 rfl (lv_at hl 0 rfl) ?_
          obtain ⟨r78, C80, hc79, hF⟩ := b2_t hF
          refine call_VNE hC (c_X8_errorPosition l (gP G H) (H.size - bb G) (hw.lp hn) (Nat.zero_le _)  _ _ _ hc79) wvL_119 ⟨rfl, rfl, by decide, by decide⟩ hw hn hS rfl hl.1 rfl (rest := []) rfl (Nat.le_of_ble_eq_true rfl) dL_told_390 ⟨(show 196 + 0 ≤ 211 by omega), (show 1176 + 0 ≤ 1266 by omega)⟩ (fun H locs hw hS hk => ?_)
          have hq := hq.kp hk
          refine lv_bipush (v := -9) hx hb dL_told_393 (by decide) ?_
          refine lv_icmp_ne (tgt := 519) hx hb dL_told_395 (by decide) (fun h81 => ?_) (fun h81 => ?_)
          · have hF := it_f h81 hF
            refine lv_iconst (v := 0) hx hb dL_told_519 (by decide) ?_
            exact m_zret2 hC hr hlk hw hq hS (by decide) (by decide) dL_told_520 (by decide) hF
          · have hF := it_t h81 hF
            refine lv_aload_n hx hb dL_told_398 rfl (lv_at hl 0 rfl) ?_
            obtain ⟨r82, C84, hc83, hF⟩ := b2_t hF
            refine call_SWE hC (c_L_tryLoad l (gP G H) (H.size - bb G) (hw.lp hn) (Nat.zero_le _) hfl  _ _ _ hc83) wwL_125 ⟨rfl, rfl, by decide, by decide⟩ hw hn hS hl.1 rfl (rest := []) rfl (Nat.le_of_ble_eq_true rfl) dL_told_399 ⟨(show 196 + 1 ≤ 211 by omega), (show 1176 + 6 ≤ 1266 by omega)⟩ (fun H locs hw hS hk => ?_)
            have hq := hq.kp hk
            refine lv_iload hx hb dL_told_402 (lv_at hl 4 rfl) ?_
            refine lv_icmp_ne (tgt := 519) hx hb dL_told_404 (by decide) (fun h85 => ?_) (fun h85 => ?_)
            · have hF := it_f h85 hF
              refine lv_iconst (v := 0) hx hb dL_told_519 (by decide) ?_
              exact m_zret2 hC hr hlk hw hq hS (by decide) (by decide) dL_told_520 (by decide) hF
            · have hF := it_t h85 hF
              refine lv_aload_n hx hb dL_told_407 rfl (lv_at hl 1 rfl) ?_
              obtain ⟨r86, D88, hc87, hF⟩ := b2_t hF
              refine call_SWQ hC (c_L_tryLoad l (gQ G H) (H.size - (bb G + 244)) hq.lq (Nat.zero_le _) hfl  _ _ _ hc87) wwL_125 ⟨rfl, rfl, by decide, by decide⟩ hw hq hS hl.1 rfl (rest := []) rfl (Nat.le_of_ble_eq_true rfl) dL_told_408 ⟨(show 197 + 1 ≤ 211 by omega), (show 1182 + 6 ≤ 1266 by omega)⟩ (fun H locs hq hS hk => ?_)
              have hw := hw.kq hk
              refine lv_iload hx hb dL_told_411 (lv_at hl 4 rfl) ?_
              refine lv_icmp_ne (tgt := 519) hx hb dL_told_413 (by decide) (fun h89 => ?_) (fun h89 => ?_)
              · have hF := it_f h89 hF
                refine lv_iconst (v := 0) hx hb dL_told_519 (by decide) ?_
                exact m_zret2 hC hr hlk hw hq hS (by decide) (by decide) dL_told_520 (by decide) hF
              · have hF := it_t h89 hF
                refine lv_aload_n hx hb dL_told_416 rfl (lv_at hl 0 rfl) ?_
                refine lv_bipush (v := 6) hx hb dL_told_417 (by decide) ?_
                obtain ⟨r90, C92, hc91, hF⟩ := b2_t hF
                refine call_SWE hC (c_L_tryAbout l (gP G H) (H.size - bb G) (hw.lp hn) (Nat.zero_le _) hfl (6 : Int32) _ _ _ hc91) wwL_129 ⟨rfl, rfl, by decide, by decide⟩ hw hn hS hl.1 rfl (rest := []) rfl (Nat.le_of_ble_eq_true rfl) dL_told_419 ⟨(show 198 + 1 ≤ 211 by omega), (show 1188 + 6 ≤ 1266 by omega)⟩ (fun H locs hw hS hk => ?_)
                have hq := hq.kp hk
                refine lv_iload hx hb dL_told_422 (lv_at hl 4 rfl) ?_
                refine lv_icmp_ne (tgt := 519) hx hb dL_told_424 (by decide) (fun h93 => ?_) (fun h93 => ?_)
                · have hF := it_f h93 hF
                  refine lv_iconst (v := 0) hx hb dL_told_519 (by decide) ?_
                  exact m_zret2 hC hr hlk hw hq hS (by decide) (by decide) dL_told_520 (by decide) hF
                · have hF := it_t h93 hF
                  refine lv_aload_n hx hb dL_told_427 rfl (lv_at hl 0 rfl) ?_
                  refine lv_bipush (v := 7) hx hb dL_told_428 (by decide) ?_
                  obtain ⟨r94, C96, hc95, hF⟩ := b2_t hF
                  refine call_SWE hC (c_L_tryAbout l (gP G H) (H.size - bb G) (hw.lp hn) (Nat.zero_le _) hfl (7 : Int32) _ _ _ hc95) wwL_129 ⟨rfl, rfl, by decide, by decide⟩ hw hn hS hl.1 rfl (rest := []) rfl (Nat.le_of_ble_eq_true rfl) dL_told_430 ⟨(show 199 + 1 ≤ 211 by omega), (show 1194 + 6 ≤ 1266 by omega)⟩ (fun H locs hw hS hk => ?_)
                  have hq := hq.kp hk
                  refine lv_iload hx hb dL_told_433 (lv_at hl 3 rfl) ?_
                  refine lv_icmp_ne (tgt := 519) hx hb dL_told_435 (by decide) (fun h97 => ?_) (fun h97 => ?_)
                  · have hF := it_f h97 hF
                    refine lv_iconst (v := 0) hx hb dL_told_519 (by decide) ?_
                    exact m_zret2 hC hr hlk hw hq hS (by decide) (by decide) dL_told_520 (by decide) hF
                  · have hF := it_t h97 hF
                    refine lv_aload_n hx hb dL_told_438 rfl (lv_at hl 0 rfl) ?_
                    refine lv_iconst (v := 0) hx hb dL_told_439 (by decide) ?_
                    obtain ⟨r98, C100, hc99, hF⟩ := b2_t hF
                    refine call_SWE hC (c_L_tryLayer l (gP G H) (H.size - bb G) (hw.lp hn) (Nat.zero_le _) hfl (0 : Int32) _ _ _ hc99) wwL_132 ⟨rfl, rfl, by decide, by decide⟩ hw hn hS hl.1 rfl (rest := []) rfl (Nat.le_of_ble_eq_true rfl) dL_told_440 ⟨(show 200 + 1 ≤ 211 by omega), (show 1200 + 6 ≤ 1266 by omega)⟩ (fun H locs hw hS hk => ?_)
                    have hq := hq.kp hk
                    refine lv_iload hx hb dL_told_443 (lv_at hl 7 rfl) ?_
                    refine lv_icmp_ne (tgt := 519) hx hb dL_told_445 (by decide) (fun h101 => ?_) (fun h101 => ?_)
                    · have hF := it_f h101 hF
                      refine lv_iconst (v := 0) hx hb dL_told_519 (by decide) ?_
                      exact m_zret2 hC hr hlk hw hq hS (by decide) (by decide) dL_told_520 (by decide) hF
                    · have hF := it_t h101 hF
                      refine lv_aload_n hx hb dL_told_448 rfl (lv_at hl 0 rfl) ?_
                      refine lv_iconst (v := 0) hx hb dL_told_449 (by decide) ?_
                      refine lv_iconst (v := 0) hx hb dL_told_450 (by decide) ?_
                      obtain ⟨r102, C104, hc103, hF⟩ := b2_t hF
                      refine call_SWE hC (c_L_tryFlue l (gP G H) (H.size - bb G) (hw.lp hn) (Nat.zero_le _) hfl (0 : Int32) (0 : Int32) _ _ _ hc103) wwL_135 ⟨rfl, rfl, by decide, by decide⟩ hw hn hS hl.1 rfl (rest := []) rfl (Nat.le_of_ble_eq_true rfl) dL_told_451 ⟨(show 201 + 2 ≤ 211 by omega), (show 1206 + 12 ≤ 1266 by omega)⟩ (fun H locs hw hS hk => ?_)
                      have hq := hq.kp hk
                      refine lv_iload hx hb dL_told_454 (lv_at hl 2 rfl) ?_
                      refine lv_bipush (v := 64) hx hb dL_told_456 (by decide) ?_
                      refine lv_idiv hx hb dL_told_458 (by decide) ?_
                      refine lv_bipush (v := 100) hx hb dL_told_459 (by decide) ?_
                      refine lv_irem hx hb dL_told_461 (by decide) ?_
                      refine lv_icmp_ne (tgt := 519) hx hb dL_told_462 (by decide) (fun h105 => ?_) (fun h105 => ?_)
                      · have hF := it_f h105 hF
                        refine lv_iconst (v := 0) hx hb dL_told_519 (by decide) ?_
                        exact m_zret2 hC hr hlk hw hq hS (by decide) (by decide) dL_told_520 (by decide) hF
                      · have hF := it_t h105 hF
                        refine lv_aload_n hx hb dL_told_465 rfl (lv_at hl 0 rfl) ?_
                        obtain ⟨r106, C108, hc107, hF⟩ := b2_t hF
                        refine call_SWE hC (c_L_tryUndo l (gP G H) (H.size - bb G) (hw.lp hn) (Nat.zero_le _) hfl  _ _ _ hc107) wwL_139 ⟨rfl, rfl, by decide, by decide⟩ hw hn hS hl.1 rfl (rest := []) rfl (Nat.le_of_ble_eq_true rfl) dL_told_466 ⟨(show 203 + 1 ≤ 211 by omega), (show 1218 + 6 ≤ 1266 by omega)⟩ (fun H locs hw hS hk => ?_)
                        have hq := hq.kp hk
                        refine lv_sipush (v := -1003) hx hb dL_told_469 (by decide) ?_
                        refine lv_icmp_ne (tgt := 519) hx hb dL_told_472 (by decide) (fun h109 => ?_) (fun h109 => ?_)
                        · have hF := it_f h109 hF
                          refine lv_iconst (v := 0) hx hb dL_told_519 (by decide) ?_
                          exact m_zret2 hC hr hlk hw hq hS (by decide) (by decide) dL_told_520 (by decide) hF
                        · have hF := it_t h109 hF
                          refine lv_aload_n hx hb dL_told_475 rfl (lv_at hl 1 rfl) ?_
                          refine lv_iconst (v := 1) hx hb dL_told_476 (by decide) ?_
                          obtain ⟨r110, D112, hc111, hF⟩ := b2_t hF
                          refine call_SWQ hC (c_L_tryRestore l (gQ G H) (H.size - (bb G + 244)) hq.lq (Nat.zero_le _) hfl (1 : Int32) _ _ _ hc111) wwL_142 ⟨rfl, rfl, by decide, by decide⟩ hw hq hS hl.1 rfl (rest := []) rfl (Nat.le_of_ble_eq_true rfl) dL_told_477 ⟨(show 204 + 2 ≤ 211 by omega), (show 1224 + 12 ≤ 1266 by omega)⟩ (fun H locs hq hS hk => ?_)
                          have hw := hw.kq hk
                          refine lv_sipush (v := -1003) hx hb dL_told_480 (by decide) ?_
                          refine lv_icmp_ne (tgt := 519) hx hb dL_told_483 (by decide) (fun h113 => ?_) (fun h113 => ?_)
                          · have hF := it_f h113 hF
                            refine lv_iconst (v := 0) hx hb dL_told_519 (by decide) ?_
                            exact m_zret2 hC hr hlk hw hq hS (by decide) (by decide) dL_told_520 (by decide) hF
                          · have hF := it_t h113 hF
                            refine lv_aload_n hx hb dL_told_486 rfl (lv_at hl 0 rfl) ?_
                            refine lv_aload_n hx hb dL_told_487 rfl (lv_at hl 1 rfl) ?_
                            refine lv_bipush (v := 120) hx hb dL_told_488 (by decide) ?_
                            obtain ⟨r114, C116, D117, hc115, hF⟩ := b3_t hF
                            refine call_S2 hC (c_L_put l G b L xs hbG hfl (120 : Int32) _ _ _ _ _ hc115) wsL_108 ⟨rfl, rfl, by decide, by decide⟩ hX hbG hw hq hS hl.1 rfl (rest := []) rfl (Nat.le_of_ble_eq_true rfl) dL_told_490 ⟨(show 206 + 4 ≤ 211 by omega), (show 1236 + 24 ≤ 1266 by omega)⟩ (fun H locs hw hq hS => ?_)
                            refine lv_if_eq (tgt := 519) hx hb dL_told_493 (by decide) (fun h118 => ?_) (fun h118 => ?_)
                            · have hF := it_t h118 hF
                              refine lv_iconst (v := 0) hx hb dL_told_519 (by decide) ?_
                              exact m_zret2 hC hr hlk hw hq hS (by decide) (by decide) dL_told_520 (by decide) hF
                            · have hF := it_f h118 hF
                              refine lv_aload_n hx hb dL_told_496 rfl (lv_at hl 0 rfl) ?_
                              obtain ⟨r119, C121, hc120, hF⟩ := b2_t hF
                              refine call_VNE hC (c_X8_errorPosition l (gP G H) (H.size - bb G) (hw.lp hn) (Nat.zero_le _)  _ _ _ hc120) wvL_119 ⟨rfl, rfl, by decide, by decide⟩ hw hn hS rfl hl.1 rfl (rest := []) rfl (Nat.le_of_ble_eq_true rfl) dL_told_497 ⟨(show 210 + 0 ≤ 211 by omega), (show 1260 + 0 ≤ 1266 by omega)⟩ (fun H locs hw hS hk => ?_)
                              have hq := hq.kp hk
                              refine lv_iload hx hb dL_told_500 (lv_at hl 6 rfl) ?_
                              refine lv_icmp_ne (tgt := 519) hx hb dL_told_502 (by decide) (fun h122 => ?_) (fun h122 => ?_)
                              · have hF := it_f h122 hF
                                refine lv_iconst (v := 0) hx hb dL_told_519 (by decide) ?_
                                exact m_zret2 hC hr hlk hw hq hS (by decide) (by decide) dL_told_520 (by decide) hF
                              · have hF := it_t h122 hF
                                refine lv_aload_n hx hb dL_told_505 rfl (lv_at hl 0 rfl) ?_
                                obtain ⟨r123, C125, hc124, hF⟩ := b2_t hF
                                refine call_SWE hC (c_L_tryLoad l (gP G H) (H.size - bb G) (hw.lp hn) (Nat.zero_le _) hfl  _ _ _ hc124) wwL_125 ⟨rfl, rfl, by decide, by decide⟩ hw hn hS hl.1 rfl (rest := []) rfl (Nat.le_of_ble_eq_true rfl) dL_told_506 ⟨(show 210 + 1 ≤ 211 by omega), (show 1260 + 6 ≤ 1266 by omega)⟩ (fun H locs hw hS hk => ?_)
                                have hq := hq.kp hk
                                refine lv_sipush (v := -1003) hx hb dL_told_509 (by decide) ?_
                                refine lv_icmp_ne (tgt := 519) hx hb dL_told_512 (by decide) (fun h126 => ?_) (fun h126 => ?_)
                                · have hF := it_f h126 hF
                                  refine lv_iconst (v := 0) hx hb dL_told_519 (by decide) ?_
                                  exact m_zret2 hC hr hlk hw hq hS (by decide) (by decide) dL_told_520 (by decide) hF
                                · have hF := it_t h126 hF
                                  refine lv_iconst (v := 1) hx hb dL_told_515 (by decide) ?_
                                  refine lv_goto (tgt := 520) hx hb dL_told_516 (by decide) ?_
                                  exact m_zret2 hC hr hlk hw hq hS (by decide) (by decide) dL_told_520 (by decide) hF
      refine lv_if_le (tgt := 384) hx hb dL_told_272 (by decide) (fun h71 => ?_) (fun h71 => ?_)
      · have hF := it_t h71 hF
        refine W.widen (k := 196) (n := 1176) (by omega) (by omega) ?_
        exact hJ384 v26 v70 (40 : Int32) C28 D29 _ _ _ hF hw hS hq (lv_sub hl [2, 3, 4, 6, 7, 8, 1, 0] rfl)
      · have hF := it_f h71 hF
        refine lv_iload hx hb dL_told_275 (lv_at hl 8 rfl) ?_
        refine lv_if_eq (tgt := 384) hx hb dL_told_277 (by decide) (fun h127 => ?_) (fun h127 => ?_)
        · have hF := it_t h127 hF
          refine W.widen (k := 196) (n := 1176) (by omega) (by omega) ?_
          exact hJ384 v26 v70 (40 : Int32) C28 D29 _ _ _ hF hw hS hq (lv_sub hl [2, 3, 4, 6, 7, 8, 1, 0] rfl)
        · have hF := it_f h127 hF
          refine lv_iload hx hb dL_told_280 (lv_at hl 5 rfl) ?_
          refine lv_sipush (v := 512) hx hb dL_told_282 (by decide) ?_
          refine lv_idiv hx hb dL_told_285 (by decide) ?_
          refine lv_bipush (v := 60) hx hb dL_told_286 (by decide) ?_
          refine lv_irem hx hb dL_told_288 (by decide) ?_
          obtain ⟨v128, ev128, hF⟩ := nm_t hF
          refine lv_nmi ev128 ?_
          refine lv_istore (lv' := [(11, .int v128), (10, .int (40 : Int32)), (9, .int v70), (0, .ref (bb G + 0)), (1, .ref (bb G + 244)), (4, .int r1), (5, .int r5), (6, .int v9), (7, .int v10), (8, .int v26)]) hx hb dL_told_289 hl (by decide) rfl (fun ls hl => ?_)
          refine lv_aload_n hx hb dL_told_291 rfl (lv_at hl 3 rfl) ?_
          refine lv_aload_n hx hb dL_told_292 rfl (lv_at hl 4 rfl) ?_
          refine lv_bipush (v := 116) hx hb dL_told_293 (by decide) ?_
          obtain ⟨r129, C131, D132, hc130, hF⟩ := b3_t hF
          refine call_S2 hC (c_L_put l G b L xs hbG hfl (116 : Int32) _ _ _ _ _ hc130) wsL_108 ⟨rfl, rfl, by decide, by decide⟩ hX hbG hw hq hS hl.1 rfl (rest := []) rfl (Nat.le_of_ble_eq_true rfl) dL_told_295 ⟨(show 120 + 4 ≤ 211 by omega), (show 720 + 24 ≤ 1266 by omega)⟩ (fun H locs hw hq hS => ?_)
          refine lv_istore (lv' := [(8, .int r129), (11, .int v128), (10, .int (40 : Int32)), (9, .int v70), (0, .ref (bb G + 0)), (1, .ref (bb G + 244)), (4, .int r1), (5, .int r5), (6, .int v9), (7, .int v10)]) hx hb dL_told_298 hl (by decide) rfl (fun ls hl => ?_)
          refine lv_iload hx hb dL_told_300 (lv_at hl 1 rfl) ?_
          refine lv_istore (lv' := [(10, .int v128), (8, .int r129), (11, .int v128), (9, .int v70), (0, .ref (bb G + 0)), (1, .ref (bb G + 244)), (4, .int r1), (5, .int r5), (6, .int v9), (7, .int v10)]) hx hb dL_told_302 hl (by decide) rfl (fun ls hl => ?_)
          refine lv_iconst (v := 0) hx hb dL_told_304 (by decide) ?_
          refine lv_istore (lv' := [(12, .int (0 : Int32)), (10, .int v128), (8, .int r129), (11, .int v128), (9, .int v70), (0, .ref (bb G + 0)), (1, .ref (bb G + 244)), (4, .int r1), (5, .int r5), (6, .int v9), (7, .int v10)]) hx hb dL_told_305 hl (by decide) rfl (fun ls hl => ?_)
          obtain ⟨o138, hit138, hG138⟩ := b1_t hF
          have hR138 : ∀ (v139 : Int32) (v140 : Int32) (v141 : Int32) (C142 : Mem) (D143 : Mem) (H : Heap) (locs : List Loc) (ls : Array Slot), o138 = (v139, v140, v141, C142, D143) → Wd G 244 C142 H → LW G s H locs → Oq G D143 H → lv_has ls 13 [(10, .int v128), (9, .int v70), (0, .ref (bb G + 0)), (1, .ref (bb G + 244)), (4, .int r1), (6, .int v9), (7, .int v10), (8, .int v139)] → W p l e (rmX 11 195 211 1266) s m ([.ref (bb G + 0), .ref (bb G + 244), .ref b, .int x3] : List Value).toArray below meth c H locs 196 1176 (MQ below (QR2 G (some (.int rR)) CR DR) ([.ref (bb G + 0), .ref (bb G + 244), .ref b, .int x3] : List Value).toArray s 211 1266 (frA G)) (F0 m 373 ls []) := by
            intro v139 v140 v141 C142 D143 H locs ls hE hw hS hq hl
            subst hE
            have hF := u5_t hG138
            refine lv_iload hx hb dL_told_373 (lv_at hl 1 rfl) ?_
            refine lv_iconst (v := 1) hx hb dL_told_375 (by decide) ?_
            refine lv_iconst (v := 2) hx hb dL_told_376 (by decide) ?_
            refine lv_iload hx hb dL_told_377 (lv_at hl 5 rfl) ?_
            refine lv_imul hx hb dL_told_379 ?_
            refine lv_iadd hx hb dL_told_380 ?_
            refine lv_iadd hx hb dL_told_381 ?_
            obtain ⟨v161, ev161, hF⟩ := nm_t hF
            refine lv_nmi ev161 ?_
            refine lv_istore (lv' := [(9, .int v161), (10, .int v128), (0, .ref (bb G + 0)), (1, .ref (bb G + 244)), (4, .int r1), (6, .int v9), (7, .int v10), (8, .int v139)]) hx hb dL_told_382 hl (by decide) rfl (fun ls hl => ?_)
            exact hJ384 v139 v161 v128 C142 D143 _ _ _ hF hw hS hq (lv_sub hl [2, 3, 4, 5, 6, 7, 0, 1] rfl)
          refine iter_soundN (P := fun (w138 : Nat) (x : Int32 × Int32 × Int32 × Mem × Mem) => ∀ (kc138 ks138 : Nat) (H : Heap) (locs : List Loc) (ls : Array Slot), kc138 + 8 * w138 ≤ 196 → ks138 + 48 * w138 ≤ 1176 → Wd G 244 x.2.2.2.1 H → LW G s H locs → Oq G x.2.2.2.2 H → lv_has ls 13 [(10, .int v128), (9, .int v70), (0, .ref (bb G + 0)), (1, .ref (bb G + 244)), (4, .int r1), (5, .int r5), (6, .int v9), (7, .int v10), (8, .int x.1), (11, .int x.2.1), (12, .int x.2.2.1)] → W p l e (rmX 11 195 211 1266) s m ([.ref (bb G + 0), .ref (bb G + 244), .ref b, .int x3] : List Value).toArray below meth c H locs kc138 ks138 (MQ below (QR2 G (some (.int rR)) CR DR) ([.ref (bb G + 0), .ref (bb G + 244), .ref b, .int x3] : List Value).toArray s 211 1266 (frA G)) (F0 m 307 ls [])) (X := fun r => r = o138) ?_ 9 (r129, v128, (0 : Int32), C131, D132) o138 hit138 rfl 124 744 _ _ _ (by omega) (by omega) hw hS hq (lv_sub hl [1, 4, 5, 6, 7, 8, 9, 10, 2, 3, 0] rfl)
          intro w138 x oo138 hF hk138 hX138 kc138 ks138 H locs ls hc138 hs138 hw hS hq hl
          obtain ⟨v133, v134, v135, C136, D137⟩ := x
          have hF : S_L_told_307 r5 v9 v70 v133 v134 v135 C136 D137 = some oo138 := hF
          have hw : Wd G 244 C136 H := hw
          have hq : Oq G D137 H := hq
          have hl : lv_has ls 13 [(10, .int v128), (9, .int v70), (0, .ref (bb G + 0)), (1, .ref (bb G + 244)), (4, .int r1), (5, .int r5), (6, .int v9), (7, .int v10), (8, .int v133), (11, .int v134), (12, .int v135)] := hl
          unfold S_L_told_307 at hF
          refine lv_iload hx hb dL_told_307 (lv_at hl 10 rfl) ?_
          refine lv_iload hx hb dL_told_309 (lv_at hl 6 rfl) ?_
          refine lv_icmp_ge (tgt := 373) hx hb dL_told_311 (by decide) (fun h144 => ?_) (fun h144 => ?_)
          · have hF := it_t h144 hF
            refine W.widen (k := 196) (n := 1176) (by omega) (by omega) ?_
            exact hR138 _ _ _ _ _ _ _ _ (it_exit hF hX138).symm hw hS hq (lv_sub hl [0, 1, 2, 3, 4, 6, 7, 8] rfl)
          · have hF := it_f h144 hF
            refine lv_iload hx hb dL_told_314 (lv_at hl 8 rfl) ?_
            refine lv_if_eq (tgt := 373) hx hb dL_told_316 (by decide) (fun h145 => ?_) (fun h145 => ?_)
            · have hF := it_t h145 hF
              refine W.widen (k := 196) (n := 1176) (by omega) (by omega) ?_
              exact hR138 _ _ _ _ _ _ _ _ (it_exit hF hX138).symm hw hS hq (lv_sub hl [0, 1, 2, 3, 4, 6, 7, 8] rfl)
            · have hF := it_f h145 hF
              refine lv_aload_n hx hb dL_told_319 rfl (lv_at hl 2 rfl) ?_
              obtain ⟨r146, C148, hc147, hF⟩ := b2_t hF
              refine call_VNE hC (c_X8_errorPosition l (gP G H) (H.size - bb G) (hw.lp hn) (Nat.zero_le _)  _ _ _ hc147) wvL_119 ⟨rfl, rfl, by decide, by decide⟩ hw hn hS rfl hl.1 rfl (rest := []) rfl (Nat.le_of_ble_eq_true rfl) dL_told_320 ⟨(show kc138 + 0 ≤ 211 by omega), (show ks138 + 0 ≤ 1266 by omega)⟩ (fun H locs hw hS hk => ?_)
              have hq := hq.kp hk
              refine lv_iload hx hb dL_told_323 (lv_at hl 1 rfl) ?_
              refine lv_iconst (v := 1) hx hb dL_told_325 (by decide) ?_
              refine lv_iadd hx hb dL_told_326 ?_
              refine lv_iconst (v := 2) hx hb dL_told_327 (by decide) ?_
              refine lv_iload hx hb dL_told_328 (lv_at hl 10 rfl) ?_
              refine lv_imul hx hb dL_told_330 ?_
              refine lv_iadd hx hb dL_told_331 ?_
              have hJ350 : ∀ (v150 : Int32) (C151 : Mem) (D152 : Mem) (H : Heap) (locs : List Loc) (ls : Array Slot), J_L_told_350 r5 v134 v135 v150 C151 D152 = some oo138 → Wd G 244 C151 H → LW G s H locs → Oq G D152 H → lv_has ls 13 [(0, .ref (bb G + 0)), (1, .ref (bb G + 244)), (4, .int r1), (5, .int r5), (6, .int v9), (7, .int v10), (9, .int v70), (10, .int v128), (11, .int v134), (12, .int v135)] → W p l e (rmX 11 195 211 1266) s m ([.ref (bb G + 0), .ref (bb G + 244), .ref b, .int x3] : List Value).toArray below meth c H locs (kc138 + 8) (ks138 + 48) (MQ below (QR2 G (some (.int rR)) CR DR) ([.ref (bb G + 0), .ref (bb G + 244), .ref b, .int x3] : List Value).toArray s 211 1266 (frA G)) (F0 m 350 ls [.int v150]) := by
                intro v150 C151 D152 H locs ls hF hw hS hq hl
                unfold J_L_told_350 at hF
                refine lv_istore (lv' := [(8, .int v150), (0, .ref (bb G + 0)), (1, .ref (bb G + 244)), (4, .int r1), (5, .int r5), (6, .int v9), (7, .int v10), (9, .int v70), (10, .int v128), (11, .int v134), (12, .int v135)]) hx hb dL_told_350 hl (by decide) rfl (fun ls hl => ?_)
                refine lv_iload hx hb dL_told_352 (lv_at hl 9 rfl) ?_
                refine lv_iload hx hb dL_told_354 (lv_at hl 4 rfl) ?_
                refine lv_iconst (v := 1) hx hb dL_told_356 (by decide) ?_
                refine lv_iload hx hb dL_told_357 (lv_at hl 10 rfl) ?_
                refine lv_iadd hx hb dL_told_359 ?_
                obtain ⟨g153, hF⟩ := gz_t hF
                refine lv_idiv hx hb dL_told_360 g153 ?_
                refine lv_bipush (v := 6) hx hb dL_told_361 (by decide) ?_
                refine lv_irem hx hb dL_told_363 (by decide) ?_
                refine lv_iadd hx hb dL_told_364 ?_
                obtain ⟨v154, ev154, hF⟩ := nm_t hF
                refine lv_nmi ev154 ?_
                refine lv_istore (lv' := [(11, .int v154), (8, .int v150), (0, .ref (bb G + 0)), (1, .ref (bb G + 244)), (4, .int r1), (5, .int r5), (6, .int v9), (7, .int v10), (9, .int v70), (10, .int v128), (12, .int v135)]) hx hb dL_told_365 hl (by decide) rfl (fun ls hl => ?_)
                obtain ⟨v155, ev155, hF⟩ := nm_t hF
                refine lv_iinc (v := v155) (lv' := [(12, .int v155), (11, .int v154), (8, .int v150), (0, .ref (bb G + 0)), (1, .ref (bb G + 244)), (4, .int r1), (5, .int r5), (6, .int v9), (7, .int v10), (9, .int v70), (10, .int v128)]) hx hb dL_told_367 hl (k := 10) rfl (by rw [ev155]; rfl) (by decide) rfl (fun ls hl => ?_)
                refine lv_goto (tgt := 307) hx hb dL_told_370 (by decide) ?_
                exact it_back hF hk138 (kc138 + 8) (ks138 + 48) _ _ _ (by omega) (by omega) hw hS hq (lv_sub hl [10, 9, 3, 4, 5, 6, 7, 8, 2, 1, 0] rfl)
              refine lv_icmp_ne (tgt := 349) hx hb dL_told_332 (by decide) (fun h149 => ?_) (fun h149 => ?_)
              · have hF := it_f h149 hF
                refine lv_iconst (v := 0) hx hb dL_told_349 (by decide) ?_
                refine W.widen (k := (kc138 + 8)) (n := (ks138 + 48)) (by omega) (by omega) ?_
                exact hJ350 (0 : Int32) C148 D137 _ _ _ hF hw hS hq (lv_sub hl [2, 3, 4, 5, 6, 7, 1, 0, 9, 10] rfl)
              · have hF := it_t h149 hF
                refine lv_aload_n hx hb dL_told_335 rfl (lv_at hl 2 rfl) ?_
                refine lv_aload_n hx hb dL_told_336 rfl (lv_at hl 3 rfl) ?_
                refine lv_iload hx hb dL_told_337 (lv_at hl 9 rfl) ?_
                obtain ⟨r156, C158, D159, hc157, hF⟩ := b3_t hF
                refine call_S2 hC (c_L_two l G b L xs hbG hfl v134 _ _ _ _ _ hc157) wsL_122 ⟨rfl, rfl, by decide, by decide⟩ hX hbG hw hq hS hl.1 rfl (rest := []) rfl (Nat.le_of_ble_eq_true rfl) dL_told_339 ⟨(show kc138 + 8 ≤ 211 by omega), (show ks138 + 48 ≤ 1266 by omega)⟩ (fun H locs hw hq hS => ?_)
                refine lv_if_eq (tgt := 349) hx hb dL_told_342 (by decide) (fun h160 => ?_) (fun h160 => ?_)
                · have hF := it_t h160 hF
                  refine lv_iconst (v := 0) hx hb dL_told_349 (by decide) ?_
                  exact hJ350 (0 : Int32) C158 D159 _ _ _ hF hw hS hq (lv_sub hl [2, 3, 4, 5, 6, 7, 1, 0, 9, 10] rfl)
                · have hF := it_f h160 hF
                  refine lv_iconst (v := 1) hx hb dL_told_345 (by decide) ?_
                  refine lv_goto (tgt := 350) hx hb dL_told_346 (by decide) ?_
                  exact hJ350 (1 : Int32) C158 D159 _ _ _ hF hw hS hq (lv_sub hl [2, 3, 4, 5, 6, 7, 1, 0, 9, 10] rfl)
    refine iter_soundN (P := fun (w25 : Nat) (x : Int32 × Int32 × Mem × Mem) => ∀ (kc25 ks25 : Nat) (H : Heap) (locs : List Loc) (ls : Array Slot), kc25 + 16 * w25 ≤ 120 → ks25 + 96 * w25 ≤ 720 → Wd G 244 x.2.2.1 H → LW G s H locs → Oq G x.2.2.2 H → lv_has ls 13 [(0, .ref (bb G + 0)), (1, .ref (bb G + 244)), (2, .ref b), (3, .int x3), (4, .int r1), (5, .int r5), (6, .int v9), (7, .int v10), (8, .int x.1), (9, .int x.2.1)] → W p l e (rmX 11 195 211 1266) s m ([.ref (bb G + 0), .ref (bb G + 244), .ref b, .int x3] : List Value).toArray below meth c H locs kc25 ks25 (MQ below (QR2 G (some (.int rR)) CR DR) ([.ref (bb G + 0), .ref (bb G + 244), .ref b, .int x3] : List Value).toArray s 211 1266 (frA G)) (F0 m 134 ls [])) (X := fun r => r = o25) ?_ 6 (v18, (0 : Int32), C19, D20) o25 hit25 rfl 24 144 _ _ _ (by omega) (by omega) hw hS hq (lv_sub hl [2, 3, 4, 5, 6, 7, 8, 9, 1, 0] rfl)
    intro w25 x oo25 hF hk25 hX25 kc25 ks25 H locs ls hc25 hs25 hw hS hq hl
    obtain ⟨v21, v22, C23, D24⟩ := x
    have hF : S_L_told_134 xs L x3 v10 v21 v22 C23 D24 = some oo25 := hF
    have hw : Wd G 244 C23 H := hw
    have hq : Oq G D24 H := hq
    have hl : lv_has ls 13 [(0, .ref (bb G + 0)), (1, .ref (bb G + 244)), (2, .ref b), (3, .int x3), (4, .int r1), (5, .int r5), (6, .int v9), (7, .int v10), (8, .int v21), (9, .int v22)] := hl
    unfold S_L_told_134 at hF
    refine lv_iload hx hb dL_told_134 (lv_at hl 9 rfl) ?_
    refine lv_iload hx hb dL_told_136 (lv_at hl 7 rfl) ?_
    refine lv_icmp_ge (tgt := 251) hx hb dL_told_138 (by decide) (fun h30 => ?_) (fun h30 => ?_)
    · have hF := it_t h30 hF
      refine W.widen (k := 120) (n := 720) (by omega) (by omega) ?_
      exact hR25 _ _ _ _ _ _ _ (it_exit hF hX25).symm hw hS hq (lv_sub hl [0, 1, 4, 5, 6, 7, 8] rfl)
    · have hF := it_f h30 hF
      refine lv_iload hx hb dL_told_141 (lv_at hl 8 rfl) ?_
      refine lv_if_eq (tgt := 251) hx hb dL_told_143 (by decide) (fun h31 => ?_) (fun h31 => ?_)
      · have hF := it_t h31 hF
        refine W.widen (k := 120) (n := 720) (by omega) (by omega) ?_
        exact hR25 _ _ _ _ _ _ _ (it_exit hF hX25).symm hw hS hq (lv_sub hl [0, 1, 4, 5, 6, 7, 8] rfl)
      · have hF := it_f h31 hF
        refine lv_aload_n hx hb dL_told_146 rfl (lv_at hl 2 rfl) ?_
        refine lv_iload_n hx hb dL_told_147 rfl (lv_at hl 3 rfl) ?_
        refine lv_iconst (v := 2) hx hb dL_told_148 (by decide) ?_
        refine lv_iadd hx hb dL_told_149 ?_
        refine lv_iload hx hb dL_told_150 (lv_at hl 9 rfl) ?_
        refine lv_iadd hx hb dL_told_152 ?_
        obtain ⟨r32, C34, D35, hc33, hF⟩ := b3_t hF
        refine call_S2 hC (c_L_number l G b L xs hbG hfl ((x3 + (2 : Int32)) + v22) _ _ _ _ _ hc33) wsL_112 ⟨rfl, rfl, by decide, by decide⟩ hX hbG hw hq hS hl.1 rfl (rest := []) rfl (Nat.le_of_ble_eq_true rfl) dL_told_153 ⟨(show kc25 + 0 ≤ 211 by omega), (show ks25 + 0 ≤ 1266 by omega)⟩ (fun H locs hw hq hS => ?_)
        refine lv_istore (lv' := [(10, .int r32), (0, .ref (bb G + 0)), (1, .ref (bb G + 244)), (2, .ref b), (3, .int x3), (4, .int r1), (5, .int r5), (6, .int v9), (7, .int v10), (8, .int v21), (9, .int v22)]) hx hb dL_told_156 hl (by decide) rfl (fun ls hl => ?_)
        refine lv_aload_n hx hb dL_told_158 rfl (lv_at hl 1 rfl) ?_
        refine lv_aload_n hx hb dL_told_159 rfl (lv_at hl 2 rfl) ?_
        refine lv_bipush (v := 98) hx hb dL_told_160 (by decide) ?_
        obtain ⟨r36, C38, D39, hc37, hF⟩ := b3_t hF
        refine call_S2 hC (c_L_put l G b L xs hbG hfl (98 : Int32) _ _ _ _ _ hc37) wsL_108 ⟨rfl, rfl, by decide, by decide⟩ hX hbG hw hq hS hl.1 rfl (rest := []) rfl (Nat.le_of_ble_eq_true rfl) dL_told_162 ⟨(show kc25 + 4 ≤ 211 by omega), (show ks25 + 24 ≤ 1266 by omega)⟩ (fun H locs hw hq hS => ?_)
        refine lv_if_eq (tgt := 242) hx hb dL_told_165 (by decide) (fun h40 => ?_) (fun h40 => ?_)
        · have hF := it_t h40 hF
          refine lv_iconst (v := 0) hx hb dL_told_242 (by decide) ?_
          refine lv_istore (lv' := [(8, .int (0 : Int32)), (10, .int r32), (0, .ref (bb G + 0)), (1, .ref (bb G + 244)), (2, .ref b), (3, .int x3), (4, .int r1), (5, .int r5), (6, .int v9), (7, .int v10), (9, .int v22)]) hx hb dL_told_243 hl (by decide) rfl (fun ls hl => ?_)
          obtain ⟨v41, ev41, hF⟩ := nm_t hF
          refine lv_iinc (v := v41) (lv' := [(9, .int v41), (8, .int (0 : Int32)), (10, .int r32), (0, .ref (bb G + 0)), (1, .ref (bb G + 244)), (2, .ref b), (3, .int x3), (4, .int r1), (5, .int r5), (6, .int v9), (7, .int v10)]) hx hb dL_told_245 hl (k := 10) rfl (by rw [ev41]; rfl) (by decide) rfl (fun ls hl => ?_)
          refine lv_goto (tgt := 134) hx hb dL_told_248 (by decide) ?_
          exact it_back hF hk25 (kc25 + 4) (ks25 + 24) _ _ _ (by omega) (by omega) hw hS hq (lv_sub hl [3, 4, 5, 6, 7, 8, 9, 10, 1, 0] rfl)
        · have hF := it_f h40 hF
          refine lv_aload_n hx hb dL_told_168 rfl (lv_at hl 1 rfl) ?_
          obtain ⟨r42, C44, hc43, hF⟩ := b2_t hF
          refine call_VNE hC (c_X8_errorPosition l (gP G H) (H.size - bb G) (hw.lp hn) (Nat.zero_le _)  _ _ _ hc43) wvL_119 ⟨rfl, rfl, by decide, by decide⟩ hw hn hS rfl hl.1 rfl (rest := []) rfl (Nat.le_of_ble_eq_true rfl) dL_told_169 ⟨(show (kc25 + 4) + 0 ≤ 211 by omega), (show (ks25 + 24) + 0 ≤ 1266 by omega)⟩ (fun H locs hw hS hk => ?_)
          have hq := hq.kp hk
          refine lv_bipush (v := 7) hx hb dL_told_172 (by decide) ?_
          refine lv_iconst (v := 4) hx hb dL_told_174 (by decide) ?_
          refine lv_iload hx hb dL_told_175 (lv_at hl 10 rfl) ?_
          refine lv_imul hx hb dL_told_177 ?_
          refine lv_iadd hx hb dL_told_178 ?_
          refine lv_icmp_ne (tgt := 242) hx hb dL_told_179 (by decide) (fun h45 => ?_) (fun h45 => ?_)
          · have hF := it_f h45 hF
            refine lv_iconst (v := 0) hx hb dL_told_242 (by decide) ?_
            refine lv_istore (lv' := [(8, .int (0 : Int32)), (10, .int r32), (0, .ref (bb G + 0)), (1, .ref (bb G + 244)), (2, .ref b), (3, .int x3), (4, .int r1), (5, .int r5), (6, .int v9), (7, .int v10), (9, .int v22)]) hx hb dL_told_243 hl (by decide) rfl (fun ls hl => ?_)
            obtain ⟨v46, ev46, hF⟩ := nm_t hF
            refine lv_iinc (v := v46) (lv' := [(9, .int v46), (8, .int (0 : Int32)), (10, .int r32), (0, .ref (bb G + 0)), (1, .ref (bb G + 244)), (2, .ref b), (3, .int x3), (4, .int r1), (5, .int r5), (6, .int v9), (7, .int v10)]) hx hb dL_told_245 hl (k := 10) rfl (by rw [ev46]; rfl) (by decide) rfl (fun ls hl => ?_)
            refine lv_goto (tgt := 134) hx hb dL_told_248 (by decide) ?_
            exact it_back hF hk25 (kc25 + 4) (ks25 + 24) _ _ _ (by omega) (by omega) hw hS hq (lv_sub hl [3, 4, 5, 6, 7, 8, 9, 10, 1, 0] rfl)
          · have hF := it_t h45 hF
            refine lv_aload_n hx hb dL_told_182 rfl (lv_at hl 1 rfl) ?_
            refine lv_aload_n hx hb dL_told_183 rfl (lv_at hl 2 rfl) ?_
            refine lv_iconst (v := 1) hx hb dL_told_184 (by decide) ?_
            refine lv_iload hx hb dL_told_185 (lv_at hl 0 rfl) ?_
            refine lv_bipush (v := 30) hx hb dL_told_187 (by decide) ?_
            refine lv_irem hx hb dL_told_189 (by decide) ?_
            refine lv_iadd hx hb dL_told_190 ?_
            obtain ⟨r47, C49, D50, hc48, hF⟩ := b3_t hF
            refine call_S2 hC (c_L_two l G b L xs hbG hfl ((1 : Int32) + (r32 - r32 / (30 : Int32) * (30 : Int32))) _ _ _ _ _ hc48) wsL_122 ⟨rfl, rfl, by decide, by decide⟩ hX hbG hw hq hS hl.1 rfl (rest := []) rfl (Nat.le_of_ble_eq_true rfl) dL_told_191 ⟨(show (kc25 + 4) + 8 ≤ 211 by omega), (show (ks25 + 24) + 48 ≤ 1266 by omega)⟩ (fun H locs hw hq hS => ?_)
            refine lv_if_eq (tgt := 242) hx hb dL_told_194 (by decide) (fun h51 => ?_) (fun h51 => ?_)
            · have hF := it_t h51 hF
              refine lv_iconst (v := 0) hx hb dL_told_242 (by decide) ?_
              refine lv_istore (lv' := [(8, .int (0 : Int32)), (10, .int r32), (0, .ref (bb G + 0)), (1, .ref (bb G + 244)), (2, .ref b), (3, .int x3), (4, .int r1), (5, .int r5), (6, .int v9), (7, .int v10), (9, .int v22)]) hx hb dL_told_243 hl (by decide) rfl (fun ls hl => ?_)
              obtain ⟨v52, ev52, hF⟩ := nm_t hF
              refine lv_iinc (v := v52) (lv' := [(9, .int v52), (8, .int (0 : Int32)), (10, .int r32), (0, .ref (bb G + 0)), (1, .ref (bb G + 244)), (2, .ref b), (3, .int x3), (4, .int r1), (5, .int r5), (6, .int v9), (7, .int v10)]) hx hb dL_told_245 hl (k := 10) rfl (by rw [ev52]; rfl) (by decide) rfl (fun ls hl => ?_)
              refine lv_goto (tgt := 134) hx hb dL_told_248 (by decide) ?_
              exact it_back hF hk25 (kc25 + 12) (ks25 + 72) _ _ _ (by omega) (by omega) hw hS hq (lv_sub hl [3, 4, 5, 6, 7, 8, 9, 10, 1, 0] rfl)
            · have hF := it_f h51 hF
              refine lv_aload_n hx hb dL_told_197 rfl (lv_at hl 1 rfl) ?_
              obtain ⟨r53, C55, hc54, hF⟩ := b2_t hF
              refine call_VNE hC (c_X8_errorPosition l (gP G H) (H.size - bb G) (hw.lp hn) (Nat.zero_le _)  _ _ _ hc54) wvL_119 ⟨rfl, rfl, by decide, by decide⟩ hw hn hS rfl hl.1 rfl (rest := []) rfl (Nat.le_of_ble_eq_true rfl) dL_told_198 ⟨(show (kc25 + 12) + 0 ≤ 211 by omega), (show (ks25 + 72) + 0 ≤ 1266 by omega)⟩ (fun H locs hw hS hk => ?_)
              have hq := hq.kp hk
              refine lv_bipush (v := 9) hx hb dL_told_201 (by decide) ?_
              refine lv_iconst (v := 4) hx hb dL_told_203 (by decide) ?_
              refine lv_iload hx hb dL_told_204 (lv_at hl 10 rfl) ?_
              refine lv_imul hx hb dL_told_206 ?_
              refine lv_iadd hx hb dL_told_207 ?_
              refine lv_icmp_ne (tgt := 242) hx hb dL_told_208 (by decide) (fun h56 => ?_) (fun h56 => ?_)
              · have hF := it_f h56 hF
                refine lv_iconst (v := 0) hx hb dL_told_242 (by decide) ?_
                refine lv_istore (lv' := [(8, .int (0 : Int32)), (10, .int r32), (0, .ref (bb G + 0)), (1, .ref (bb G + 244)), (2, .ref b), (3, .int x3), (4, .int r1), (5, .int r5), (6, .int v9), (7, .int v10), (9, .int v22)]) hx hb dL_told_243 hl (by decide) rfl (fun ls hl => ?_)
                obtain ⟨v57, ev57, hF⟩ := nm_t hF
                refine lv_iinc (v := v57) (lv' := [(9, .int v57), (8, .int (0 : Int32)), (10, .int r32), (0, .ref (bb G + 0)), (1, .ref (bb G + 244)), (2, .ref b), (3, .int x3), (4, .int r1), (5, .int r5), (6, .int v9), (7, .int v10)]) hx hb dL_told_245 hl (k := 10) rfl (by rw [ev57]; rfl) (by decide) rfl (fun ls hl => ?_)
                refine lv_goto (tgt := 134) hx hb dL_told_248 (by decide) ?_
                exact it_back hF hk25 (kc25 + 12) (ks25 + 72) _ _ _ (by omega) (by omega) hw hS hq (lv_sub hl [3, 4, 5, 6, 7, 8, 9, 10, 1, 0] rfl)
              · have hF := it_t h56 hF
                refine lv_aload_n hx hb dL_told_211 rfl (lv_at hl 1 rfl) ?_
                refine lv_aload_n hx hb dL_told_212 rfl (lv_at hl 2 rfl) ?_
                refine lv_bipush (v := 48) hx hb dL_told_213 (by decide) ?_
                refine lv_iload hx hb dL_told_215 (lv_at hl 0 rfl) ?_
                refine lv_bipush (v := 32) hx hb dL_told_217 (by decide) ?_
                refine lv_idiv hx hb dL_told_219 (by decide) ?_
                refine lv_iconst (v := 2) hx hb dL_told_220 (by decide) ?_
                refine lv_irem hx hb dL_told_221 (by decide) ?_
                refine lv_iadd hx hb dL_told_222 ?_
                obtain ⟨r58, C60, D61, hc59, hF⟩ := b3_t hF
                refine call_S2 hC (c_L_put l G b L xs hbG hfl ((48 : Int32) + ((r32 / (32 : Int32)) - (r32 / (32 : Int32)) / (2 : Int32) * (2 : Int32))) _ _ _ _ _ hc59) wsL_108 ⟨rfl, rfl, by decide, by decide⟩ hX hbG hw hq hS hl.1 rfl (rest := []) rfl (Nat.le_of_ble_eq_true rfl) dL_told_223 ⟨(show (kc25 + 12) + 4 ≤ 211 by omega), (show (ks25 + 72) + 24 ≤ 1266 by omega)⟩ (fun H locs hw hq hS => ?_)
                refine lv_if_eq (tgt := 242) hx hb dL_told_226 (by decide) (fun h62 => ?_) (fun h62 => ?_)
                · have hF := it_t h62 hF
                  refine lv_iconst (v := 0) hx hb dL_told_242 (by decide) ?_
                  refine lv_istore (lv' := [(8, .int (0 : Int32)), (10, .int r32), (0, .ref (bb G + 0)), (1, .ref (bb G + 244)), (2, .ref b), (3, .int x3), (4, .int r1), (5, .int r5), (6, .int v9), (7, .int v10), (9, .int v22)]) hx hb dL_told_243 hl (by decide) rfl (fun ls hl => ?_)
                  obtain ⟨v63, ev63, hF⟩ := nm_t hF
                  refine lv_iinc (v := v63) (lv' := [(9, .int v63), (8, .int (0 : Int32)), (10, .int r32), (0, .ref (bb G + 0)), (1, .ref (bb G + 244)), (2, .ref b), (3, .int x3), (4, .int r1), (5, .int r5), (6, .int v9), (7, .int v10)]) hx hb dL_told_245 hl (k := 10) rfl (by rw [ev63]; rfl) (by decide) rfl (fun ls hl => ?_)
                  refine lv_goto (tgt := 134) hx hb dL_told_248 (by decide) ?_
                  exact it_back hF hk25 (kc25 + 16) (ks25 + 96) _ _ _ (by omega) (by omega) hw hS hq (lv_sub hl [3, 4, 5, 6, 7, 8, 9, 10, 1, 0] rfl)
                · have hF := it_f h62 hF
                  refine lv_aload_n hx hb dL_told_229 rfl (lv_at hl 1 rfl) ?_
                  obtain ⟨r64, C66, hc65, hF⟩ := b2_t hF
                  refine call_VNE hC (c_X8_errorPosition l (gP G H) (H.size - bb G) (hw.lp hn) (Nat.zero_le _)  _ _ _ hc65) wvL_119 ⟨rfl, rfl, by decide, by decide⟩ hw hn hS rfl hl.1 rfl (rest := []) rfl (Nat.le_of_ble_eq_true rfl) dL_told_230 ⟨(show (kc25 + 16) + 0 ≤ 211 by omega), (show (ks25 + 96) + 0 ≤ 1266 by omega)⟩ (fun H locs hw hS hk => ?_)
                  have hq := hq.kp hk
                  refine lv_bipush (v := -9) hx hb dL_told_233 (by decide) ?_
                  refine lv_icmp_ne (tgt := 242) hx hb dL_told_235 (by decide) (fun h67 => ?_) (fun h67 => ?_)
                  · have hF := it_f h67 hF
                    refine lv_iconst (v := 0) hx hb dL_told_242 (by decide) ?_
                    refine lv_istore (lv' := [(8, .int (0 : Int32)), (10, .int r32), (0, .ref (bb G + 0)), (1, .ref (bb G + 244)), (2, .ref b), (3, .int x3), (4, .int r1), (5, .int r5), (6, .int v9), (7, .int v10), (9, .int v22)]) hx hb dL_told_243 hl (by decide) rfl (fun ls hl => ?_)
                    obtain ⟨v68, ev68, hF⟩ := nm_t hF
                    refine lv_iinc (v := v68) (lv' := [(9, .int v68), (8, .int (0 : Int32)), (10, .int r32), (0, .ref (bb G + 0)), (1, .ref (bb G + 244)), (2, .ref b), (3, .int x3), (4, .int r1), (5, .int r5), (6, .int v9), (7, .int v10)]) hx hb dL_told_245 hl (k := 10) rfl (by rw [ev68]; rfl) (by decide) rfl (fun ls hl => ?_)
                    refine lv_goto (tgt := 134) hx hb dL_told_248 (by decide) ?_
                    exact it_back hF hk25 (kc25 + 16) (ks25 + 96) _ _ _ (by omega) (by omega) hw hS hq (lv_sub hl [3, 4, 5, 6, 7, 8, 9, 10, 1, 0] rfl)
                  · have hF := it_t h67 hF
                    refine lv_iconst (v := 1) hx hb dL_told_238 (by decide) ?_
                    refine lv_goto (tgt := 243) hx hb dL_told_239 (by decide) ?_
                    refine lv_istore (lv' := [(8, .int (1 : Int32)), (10, .int r32), (0, .ref (bb G + 0)), (1, .ref (bb G + 244)), (2, .ref b), (3, .int x3), (4, .int r1), (5, .int r5), (6, .int v9), (7, .int v10), (9, .int v22)]) hx hb dL_told_243 hl (by decide) rfl (fun ls hl => ?_)
                    obtain ⟨v69, ev69, hF⟩ := nm_t hF
                    refine lv_iinc (v := v69) (lv' := [(9, .int v69), (8, .int (1 : Int32)), (10, .int r32), (0, .ref (bb G + 0)), (1, .ref (bb G + 244)), (2, .ref b), (3, .int x3), (4, .int r1), (5, .int r5), (6, .int v9), (7, .int v10)]) hx hb dL_told_245 hl (k := 10) rfl (by rw [ev69]; rfl) (by decide) rfl (fun ls hl => ?_)
                    refine lv_goto (tgt := 134) hx hb dL_told_248 (by decide) ?_
                    exact it_back hF hk25 (kc25 + 16) (ks25 + 96) _ _ _ (by omega) (by omega) hw hS hq (lv_sub hl [3, 4, 5, 6, 7, 8, 9, 10, 1, 0] rfl)
  refine lv_icmp_ne (tgt := 128) hx hb dL_told_44 (by decide) (fun h17 => ?_) (fun h17 => ?_)
  · have hF := it_f h17 hF
    refine lv_iconst (v := 0) hx hb dL_told_128 (by decide) ?_
    refine W.widen (k := 24) (n := 144) (by omega) (by omega) ?_
    exact hJ129 (0 : Int32) C13 D16 _ _ _ hF hw hS hq (lv_sub hl [4, 5, 6, 7, 3, 2, 1, 0] rfl)
  · have hF := it_t h17 hF
    refine lv_aload_n hx hb dL_told_47 rfl (lv_at hl 4 rfl) ?_
    refine lv_aload_n hx hb dL_told_48 rfl (lv_at hl 5 rfl) ?_
    refine lv_bipush (v := 72) hx hb dL_told_49 (by decide) ?_
    obtain ⟨r162, C164, D165, hc163, hF⟩ := b3_t hF
    refine call_S2 hC (c_L_put l G b L xs hbG hfl (72 : Int32) _ _ _ _ _ hc163) wsL_108 ⟨rfl, rfl, by decide, by decide⟩ hX hbG hw hq hS hl.1 rfl (rest := []) rfl (Nat.le_of_ble_eq_true rfl) dL_told_51 ⟨(show 0 + 4 ≤ 211 by omega), (show 0 + 24 ≤ 1266 by omega)⟩ (fun H locs hw hq hS => ?_)
    refine lv_if_eq (tgt := 128) hx hb dL_told_54 (by decide) (fun h166 => ?_) (fun h166 => ?_)
    · have hF := it_t h166 hF
      refine lv_iconst (v := 0) hx hb dL_told_128 (by decide) ?_
      refine W.widen (k := 24) (n := 144) (by omega) (by omega) ?_
      exact hJ129 (0 : Int32) C164 D165 _ _ _ hF hw hS hq (lv_sub hl [4, 5, 6, 7, 3, 2, 1, 0] rfl)
    · have hF := it_f h166 hF
      refine lv_aload_n hx hb dL_told_57 rfl (lv_at hl 4 rfl) ?_
      obtain ⟨r167, C169, hc168, hF⟩ := b2_t hF
      refine call_VNE hC (c_X8_errorPosition l (gP G H) (H.size - bb G) (hw.lp hn) (Nat.zero_le _)  _ _ _ hc168) wvL_119 ⟨rfl, rfl, by decide, by decide⟩ hw hn hS rfl hl.1 rfl (rest := []) rfl (Nat.le_of_ble_eq_true rfl) dL_told_58 ⟨(show 4 + 0 ≤ 211 by omega), (show 24 + 0 ≤ 1266 by omega)⟩ (fun H locs hw hS hk => ?_)
      have hq := hq.kp hk
      refine lv_iconst (v := 1) hx hb dL_told_61 (by decide) ?_
      refine lv_icmp_ne (tgt := 128) hx hb dL_told_62 (by decide) (fun h170 => ?_) (fun h170 => ?_)
      · have hF := it_f h170 hF
        refine lv_iconst (v := 0) hx hb dL_told_128 (by decide) ?_
        refine W.widen (k := 24) (n := 144) (by omega) (by omega) ?_
        exact hJ129 (0 : Int32) C169 D165 _ _ _ hF hw hS hq (lv_sub hl [4, 5, 6, 7, 3, 2, 1, 0] rfl)
      · have hF := it_t h170 hF
        refine lv_aload_n hx hb dL_told_65 rfl (lv_at hl 4 rfl) ?_
        refine lv_aload_n hx hb dL_told_66 rfl (lv_at hl 5 rfl) ?_
        refine lv_bipush (v := 48) hx hb dL_told_67 (by decide) ?_
        refine lv_iload hx hb dL_told_69 (lv_at hl 1 rfl) ?_
        refine lv_iadd hx hb dL_told_71 ?_
        obtain ⟨r171, C173, D174, hc172, hF⟩ := b3_t hF
        refine call_S2 hC (c_L_put l G b L xs hbG hfl ((48 : Int32) + v9) _ _ _ _ _ hc172) wsL_108 ⟨rfl, rfl, by decide, by decide⟩ hX hbG hw hq hS hl.1 rfl (rest := []) rfl (Nat.le_of_ble_eq_true rfl) dL_told_72 ⟨(show 4 + 4 ≤ 211 by omega), (show 24 + 24 ≤ 1266 by omega)⟩ (fun H locs hw hq hS => ?_)
        refine lv_if_eq (tgt := 128) hx hb dL_told_75 (by decide) (fun h175 => ?_) (fun h175 => ?_)
        · have hF := it_t h175 hF
          refine lv_iconst (v := 0) hx hb dL_told_128 (by decide) ?_
          refine W.widen (k := 24) (n := 144) (by omega) (by omega) ?_
          exact hJ129 (0 : Int32) C173 D174 _ _ _ hF hw hS hq (lv_sub hl [4, 5, 6, 7, 3, 2, 1, 0] rfl)
        · have hF := it_f h175 hF
          refine lv_aload_n hx hb dL_told_78 rfl (lv_at hl 4 rfl) ?_
          refine lv_aload_n hx hb dL_told_79 rfl (lv_at hl 5 rfl) ?_
          refine lv_iload hx hb dL_told_80 (lv_at hl 3 rfl) ?_
          refine lv_bipush (v := 64) hx hb dL_told_82 (by decide) ?_
          refine lv_idiv hx hb dL_told_84 (by decide) ?_
          refine lv_bipush (v := 100) hx hb dL_told_85 (by decide) ?_
          refine lv_irem hx hb dL_told_87 (by decide) ?_
          obtain ⟨r176, C178, D179, hc177, hF⟩ := b3_t hF
          refine call_S2 hC (c_L_two l G b L xs hbG hfl ((r1 / (64 : Int32)) - (r1 / (64 : Int32)) / (100 : Int32) * (100 : Int32)) _ _ _ _ _ hc177) wsL_122 ⟨rfl, rfl, by decide, by decide⟩ hX hbG hw hq hS hl.1 rfl (rest := []) rfl (Nat.le_of_ble_eq_true rfl) dL_told_88 ⟨(show 8 + 8 ≤ 211 by omega), (show 48 + 48 ≤ 1266 by omega)⟩ (fun H locs hw hq hS => ?_)
          refine lv_if_eq (tgt := 128) hx hb dL_told_91 (by decide) (fun h180 => ?_) (fun h180 => ?_)
          · have hF := it_t h180 hF
            refine lv_iconst (v := 0) hx hb dL_told_128 (by decide) ?_
            refine W.widen (k := 24) (n := 144) (by omega) (by omega) ?_
            exact hJ129 (0 : Int32) C178 D179 _ _ _ hF hw hS hq (lv_sub hl [4, 5, 6, 7, 3, 2, 1, 0] rfl)
          · have hF := it_f h180 hF
            refine lv_aload_n hx hb dL_told_94 rfl (lv_at hl 4 rfl) ?_
            obtain ⟨r181, C183, hc182, hF⟩ := b2_t hF
            refine call_VNE hC (c_X8_errorPosition l (gP G H) (H.size - bb G) (hw.lp hn) (Nat.zero_le _)  _ _ _ hc182) wvL_119 ⟨rfl, rfl, by decide, by decide⟩ hw hn hS rfl hl.1 rfl (rest := []) rfl (Nat.le_of_ble_eq_true rfl) dL_told_95 ⟨(show 16 + 0 ≤ 211 by omega), (show 96 + 0 ≤ 1266 by omega)⟩ (fun H locs hw hS hk => ?_)
            have hq := hq.kp hk
            refine lv_iconst (v := 4) hx hb dL_told_98 (by decide) ?_
            refine lv_icmp_ne (tgt := 128) hx hb dL_told_99 (by decide) (fun h184 => ?_) (fun h184 => ?_)
            · have hF := it_f h184 hF
              refine lv_iconst (v := 0) hx hb dL_told_128 (by decide) ?_
              refine W.widen (k := 24) (n := 144) (by omega) (by omega) ?_
              exact hJ129 (0 : Int32) C183 D179 _ _ _ hF hw hS hq (lv_sub hl [4, 5, 6, 7, 3, 2, 1, 0] rfl)
            · have hF := it_t h184 hF
              refine lv_aload_n hx hb dL_told_102 rfl (lv_at hl 4 rfl) ?_
              refine lv_aload_n hx hb dL_told_103 rfl (lv_at hl 5 rfl) ?_
              refine lv_iload hx hb dL_told_104 (lv_at hl 2 rfl) ?_
              refine lv_bipush (v := 100) hx hb dL_told_106 (by decide) ?_
              refine lv_irem hx hb dL_told_108 (by decide) ?_
              obtain ⟨r185, C187, D188, hc186, hF⟩ := b3_t hF
              refine call_S2 hC (c_L_two l G b L xs hbG hfl (r5 - r5 / (100 : Int32) * (100 : Int32)) _ _ _ _ _ hc186) wsL_122 ⟨rfl, rfl, by decide, by decide⟩ hX hbG hw hq hS hl.1 rfl (rest := []) rfl (Nat.le_of_ble_eq_true rfl) dL_told_109 ⟨(show 16 + 8 ≤ 211 by omega), (show 96 + 48 ≤ 1266 by omega)⟩ (fun H locs hw hq hS => ?_)
              refine lv_if_eq (tgt := 128) hx hb dL_told_112 (by decide) (fun h189 => ?_) (fun h189 => ?_)
              · have hF := it_t h189 hF
                refine lv_iconst (v := 0) hx hb dL_told_128 (by decide) ?_
                exact hJ129 (0 : Int32) C187 D188 _ _ _ hF hw hS hq (lv_sub hl [4, 5, 6, 7, 3, 2, 1, 0] rfl)
              · have hF := it_f h189 hF
                refine lv_aload_n hx hb dL_told_115 rfl (lv_at hl 4 rfl) ?_
                obtain ⟨r190, C192, hc191, hF⟩ := b2_t hF
                refine call_VNE hC (c_X8_errorPosition l (gP G H) (H.size - bb G) (hw.lp hn) (Nat.zero_le _)  _ _ _ hc191) wvL_119 ⟨rfl, rfl, by decide, by decide⟩ hw hn hS rfl hl.1 rfl (rest := []) rfl (Nat.le_of_ble_eq_true rfl) dL_told_116 ⟨(show 24 + 0 ≤ 211 by omega), (show 144 + 0 ≤ 1266 by omega)⟩ (fun H locs hw hS hk => ?_)
                have hq := hq.kp hk
                refine lv_bipush (v := 6) hx hb dL_told_119 (by decide) ?_
                refine lv_icmp_ne (tgt := 128) hx hb dL_told_121 (by decide) (fun h193 => ?_) (fun h193 => ?_)
                · have hF := it_f h193 hF
                  refine lv_iconst (v := 0) hx hb dL_told_128 (by decide) ?_
                  exact hJ129 (0 : Int32) C192 D188 _ _ _ hF hw hS hq (lv_sub hl [4, 5, 6, 7, 3, 2, 1, 0] rfl)
                · have hF := it_t h193 hF
                  refine lv_iconst (v := 1) hx hb dL_told_124 (by decide) ?_
                  refine lv_goto (tgt := 129) hx hb dL_told_125 (by decide) ?_
                  exact hJ129 (1 : Int32) C192 D188 _ _ _ hF hw hS hq (lv_sub hl [4, 5, 6, 7, 3, 2, 1, 0] rfl)
