/-! contracts of the law's methods, by program out of the bytecode -/
set_option maxRecDepth 1000000 in
theorem wsL_214 : WS RL 214 yL_sound cL_sound 12 (some .boolean) 1 := ⟨(lg 920 rfl rfl), (lg 921 rfl rfl), (lg 16 rfl rfl), (lg 922 rfl rfl), ⟨by decide +kernel, by decide +kernel⟩, by decide +kernel⟩
set_option maxRecDepth 1000000 in
theorem wsL_218 : WS RL 218 yL_purgeFuel cL_purgeFuel 7 (some .int) 5 := ⟨(lg 932 rfl rfl), (lg 933 rfl rfl), (lg 16 rfl rfl), (lg 934 rfl rfl), ⟨by decide +kernel, by decide +kernel⟩, by decide +kernel⟩
set_option maxHeartbeats 4000000 in
set_option maxRecDepth 100000 in
theorem c_L_hands (l : Launch) (G : GG) (n : Nat) (hn : 244 ≤ n) (hn2 : 0 ≤ n) (hfl : l.stackTraces = false) (x1 : Int32) (C : Mem) (rR : Int32) (CR : Mem) (hF : F_L_hands x1 C = some (rR, CR)) : CtN l yL_hands cL_hands 25 (some .boolean) (rmX 11 204 731 4374) 731 4374 G n C [.ref (bb G + 0), .int x1] (some (.int rR)) CR := by
  refine CtN.of (by decide) (Nat.le_of_ble_eq_true rfl) ?_
  intro p e s m below meth c ls hC hr hlk hw hl
  have hx := hC.1
  have hb := hC.2.1
  have hS : LW G s s.heap [] := va_S.rf
  have hl : lv_has ls 25 [(0, .ref (bb G + 0)), (1, .int x1)] := hl
  unfold F_L_hands at hF
  suffices key : ∀ (H : Heap) (locs : List Loc), Wd G n C H → LW G s H locs → W p l e (rmX 11 204 731 4374) s m ([.ref (bb G + 0), .int x1] : List Value).toArray below meth c H locs 0 0 (MQ below (QR G n (some (.int rR)) CR) ([.ref (bb G + 0), .int x1] : List Value).toArray s 731 4374 (frA G)) (F0 m 0 ls []) by exact key _ _ hw hS
  intro H locs hw hS
  refine lv_aload_n hx hb dL_hands_0 rfl (lv_at hl 0 rfl) ?_
  refine lv_bipush (v := 6) hx hb dL_hands_1 (by decide) ?_
  obtain ⟨r1, C3, hc2, hF⟩ := b2_t hF
  refine call_SWE hC (c_L_tryAbout l (gP G H) (H.size - bb G) (hw.lp hn) (Nat.zero_le _) hfl (6 : Int32) _ _ _ hc2) wwL_129 ⟨rfl, rfl, by decide, by decide⟩ hw hn hS hl.1 rfl (rest := []) rfl (Nat.le_of_ble_eq_true rfl) dL_hands_3 ⟨(show 0 + 1 ≤ 731 by omega), (show 0 + 6 ≤ 4374 by omega)⟩ (fun H locs hw hS hk => ?_)
  refine lv_istore_n (lv' := [(2, .int r1), (0, .ref (bb G + 0)), (1, .int x1)]) hx hb dL_hands_6 rfl hl (by decide) rfl (fun ls hl => ?_)
  refine lv_aload_n hx hb dL_hands_7 rfl (lv_at hl 1 rfl) ?_
  refine lv_bipush (v := 7) hx hb dL_hands_8 (by decide) ?_
  obtain ⟨r4, C6, hc5, hF⟩ := b2_t hF
  refine call_SWE hC (c_L_tryAbout l (gP G H) (H.size - bb G) (hw.lp hn) (Nat.zero_le _) hfl (7 : Int32) _ _ _ hc5) wwL_129 ⟨rfl, rfl, by decide, by decide⟩ hw hn hS hl.1 rfl (rest := []) rfl (Nat.le_of_ble_eq_true rfl) dL_hands_10 ⟨(show 1 + 1 ≤ 731 by omega), (show 6 + 6 ≤ 4374 by omega)⟩ (fun H locs hw hS hk => ?_)
  refine lv_istore_n (lv' := [(3, .int r4), (2, .int r1), (0, .ref (bb G + 0)), (1, .int x1)]) hx hb dL_hands_13 rfl hl (by decide) rfl (fun ls hl => ?_)
  refine lv_aload_n hx hb dL_hands_14 rfl (lv_at hl 2 rfl) ?_
  refine lv_bipush (v := 8) hx hb dL_hands_15 (by decide) ?_
  obtain ⟨r7, C9, hc8, hF⟩ := b2_t hF
  refine call_SWE hC (c_L_tryAbout l (gP G H) (H.size - bb G) (hw.lp hn) (Nat.zero_le _) hfl (8 : Int32) _ _ _ hc8) wwL_129 ⟨rfl, rfl, by decide, by decide⟩ hw hn hS hl.1 rfl (rest := []) rfl (Nat.le_of_ble_eq_true rfl) dL_hands_17 ⟨(show 2 + 1 ≤ 731 by omega), (show 12 + 6 ≤ 4374 by omega)⟩ (fun H locs hw hS hk => ?_)
  refine lv_istore (lv' := [(4, .int r7), (3, .int r4), (2, .int r1), (0, .ref (bb G + 0)), (1, .int x1)]) hx hb dL_hands_20 hl (by decide) rfl (fun ls hl => ?_)
  refine lv_aload_n hx hb dL_hands_22 rfl (lv_at hl 3 rfl) ?_
  refine lv_iconst (v := 0) hx hb dL_hands_23 (by decide) ?_
  obtain ⟨r10, C12, hc11, hF⟩ := b2_t hF
  refine call_SWE hC (c_L_trySave l (gP G H) (H.size - bb G) (hw.lp hn) (Nat.zero_le _) hfl (0 : Int32) _ _ _ hc11) wwL_208 ⟨rfl, rfl, by decide, by decide⟩ hw hn hS hl.1 rfl (rest := []) rfl (Nat.le_of_ble_eq_true rfl) dL_hands_24 ⟨(show 3 + 1 ≤ 731 by omega), (show 18 + 6 ≤ 4374 by omega)⟩ (fun H locs hw hS hk => ?_)
  refine lv_iload hx hb dL_hands_27 (lv_at hl 0 rfl) ?_
  have hJ37 : ∀ (v14 : Int32) (H : Heap) (locs : List Loc) (ls : Array Slot), J_L_hands_37 x1 r1 r4 r7 C12 v14 = some (rR, CR) → Wd G n C12 H → LW G s H locs → lv_has ls 25 [(0, .ref (bb G + 0)), (1, .int x1), (2, .int r1), (3, .int r4), (4, .int r7)] → W p l e (rmX 11 204 731 4374) s m ([.ref (bb G + 0), .int x1] : List Value).toArray below meth c H locs 4 24 (MQ below (QR G n (some (.int rR)) CR) ([.ref (bb G + 0), .int x1] : List Value).toArray s 731 4374 (frA G)) (F0 m 37 ls [.int v14]) := by
    intro v14 H locs ls hF hw hS hl
    unfold J_L_hands_37 at hF
    refine lv_istore (lv' := [(5, .int v14), (0, .ref (bb G + 0)), (1, .int x1), (2, .int r1), (3, .int r4), (4, .int r7)]) hx hb dL_hands_37 hl (by decide) rfl (fun ls hl => ?_)
    refine lv_aload_n hx hb dL_hands_39 rfl (lv_at hl 1 rfl) ?_
    refine lv_iload_n hx hb dL_hands_40 rfl (lv_at hl 4 rfl) ?_
    refine lv_iconst (v := 1) hx hb dL_hands_41 (by decide) ?_
    refine lv_isub hx hb dL_hands_42 ?_
    obtain ⟨r15, C17, hc16, hF⟩ := b2_t hF
    refine call_SWE hC (c_L_tryLayer l (gP G H) (H.size - bb G) (hw.lp hn) (Nat.zero_le _) hfl (r4 - (1 : Int32)) _ _ _ hc16) wwL_132 ⟨rfl, rfl, by decide, by decide⟩ hw hn hS hl.1 rfl (rest := []) rfl (Nat.le_of_ble_eq_true rfl) dL_hands_43 ⟨(show 4 + 1 ≤ 731 by omega), (show 24 + 6 ≤ 4374 by omega)⟩ (fun H locs hw hS hk => ?_)
    refine lv_istore (lv' := [(6, .int r15), (5, .int v14), (0, .ref (bb G + 0)), (1, .int x1), (2, .int r1), (3, .int r4), (4, .int r7)]) hx hb dL_hands_46 hl (by decide) rfl (fun ls hl => ?_)
    refine lv_aload_n hx hb dL_hands_48 rfl (lv_at hl 2 rfl) ?_
    refine lv_iconst (v := 0) hx hb dL_hands_49 (by decide) ?_
    obtain ⟨r18, C20, hc19, hF⟩ := b2_t hF
    refine call_SWE hC (c_L_tryLayer l (gP G H) (H.size - bb G) (hw.lp hn) (Nat.zero_le _) hfl (0 : Int32) _ _ _ hc19) wwL_132 ⟨rfl, rfl, by decide, by decide⟩ hw hn hS hl.1 rfl (rest := []) rfl (Nat.le_of_ble_eq_true rfl) dL_hands_50 ⟨(show 5 + 1 ≤ 731 by omega), (show 30 + 6 ≤ 4374 by omega)⟩ (fun H locs hw hS hk => ?_)
    refine lv_istore (lv' := [(7, .int r18), (6, .int r15), (5, .int v14), (0, .ref (bb G + 0)), (1, .int x1), (2, .int r1), (3, .int r4), (4, .int r7)]) hx hb dL_hands_53 hl (by decide) rfl (fun ls hl => ?_)
    refine lv_iload hx hb dL_hands_55 (lv_at hl 2 rfl) ?_
    have hJ112 : ∀ (v22 : Int32) (C23 : Mem) (H : Heap) (locs : List Loc) (ls : Array Slot), J_L_hands_112 x1 r1 r7 v22 C23 = some (rR, CR) → Wd G n C23 H → LW G s H locs → lv_has ls 25 [(0, .ref (bb G + 0)), (1, .int x1), (2, .int r1), (4, .int r7)] → W p l e (rmX 11 204 731 4374) s m ([.ref (bb G + 0), .int x1] : List Value).toArray below meth c H locs 11 66 (MQ below (QR G n (some (.int rR)) CR) ([.ref (bb G + 0), .int x1] : List Value).toArray s 731 4374 (frA G)) (F0 m 112 ls [.int v22]) := by
      intro v22 C23 H locs ls hF hw hS hl
      unfold J_L_hands_112 at hF
      refine lv_istore (lv' := [(5, .int v22), (0, .ref (bb G + 0)), (1, .int x1), (2, .int r1), (4, .int r7)]) hx hb dL_hands_112 hl (by decide) rfl (fun ls hl => ?_)
      refine lv_iload_n hx hb dL_hands_114 rfl (lv_at hl 2 rfl) ?_
      refine lv_iconst (v := 2) hx hb dL_hands_115 (by decide) ?_
      refine lv_irem hx hb dL_hands_116 (by decide) ?_
      obtain ⟨v24, ev24, hF⟩ := nm_t hF
      refine lv_nmi ev24 ?_
      refine lv_istore (lv' := [(8, .int v24), (5, .int v22), (0, .ref (bb G + 0)), (1, .int x1), (2, .int r1), (4, .int r7)]) hx hb dL_hands_117 hl (by decide) rfl (fun ls hl => ?_)
      refine lv_iconst (v := 0) hx hb dL_hands_119 (by decide) ?_
      refine lv_istore (lv' := [(9, .int (0 : Int32)), (8, .int v24), (5, .int v22), (0, .ref (bb G + 0)), (1, .int x1), (2, .int r1), (4, .int r7)]) hx hb dL_hands_120 hl (by decide) rfl (fun ls hl => ?_)
      refine lv_iconst (v := 0) hx hb dL_hands_122 (by decide) ?_
      refine lv_istore (lv' := [(10, .int (0 : Int32)), (9, .int (0 : Int32)), (8, .int v24), (5, .int v22), (0, .ref (bb G + 0)), (1, .int x1), (2, .int r1), (4, .int r7)]) hx hb dL_hands_123 hl (by decide) rfl (fun ls hl => ?_)
      obtain ⟨o28, hit28, hG28⟩ := b1_t hF
      have hR28 : ∀ (v29 : Int32) (v30 : Int32) (C31 : Mem) (H : Heap) (locs : List Loc) (ls : Array Slot), o28 = (v29, v30, C31) → Wd G n C31 H → LW G s H locs → lv_has ls 25 [(8, .int v24), (5, .int v22), (0, .ref (bb G + 0)), (1, .int x1), (2, .int r1), (4, .int r7), (9, .int v29)] → W p l e (rmX 11 204 731 4374) s m ([.ref (bb G + 0), .int x1] : List Value).toArray below meth c H locs 35 210 (MQ below (QR G n (some (.int rR)) CR) ([.ref (bb G + 0), .int x1] : List Value).toArray s 731 4374 (frA G)) (F0 m 179 ls []) := by
        intro v29 v30 C31 H locs ls hE hw hS hl
        subst hE
        have hF := u3_t hG28
        refine lv_iload hx hb dL_hands_179 (lv_at hl 1 rfl) ?_
        have hJ249 : ∀ (v46 : Int32) (C47 : Mem) (H : Heap) (locs : List Loc) (ls : Array Slot), J_L_hands_249 x1 r1 r7 v46 C47 = some (rR, CR) → Wd G n C47 H → LW G s H locs → lv_has ls 25 [(0, .ref (bb G + 0)), (1, .int x1), (2, .int r1), (4, .int r7)] → W p l e (rmX 11 204 731 4374) s m ([.ref (bb G + 0), .int x1] : List Value).toArray below meth c H locs 347 2078 (MQ below (QR G n (some (.int rR)) CR) ([.ref (bb G + 0), .int x1] : List Value).toArray s 731 4374 (frA G)) (F0 m 249 ls [.int v46]) := by
          intro v46 C47 H locs ls hF hw hS hl
          unfold J_L_hands_249 at hF
          refine lv_istore (lv' := [(5, .int v46), (0, .ref (bb G + 0)), (1, .int x1), (2, .int r1), (4, .int r7)]) hx hb dL_hands_249 hl (by decide) rfl (fun ls hl => ?_)
          refine lv_iload_n hx hb dL_hands_251 rfl (lv_at hl 2 rfl) ?_
          refine lv_iconst (v := 2) hx hb dL_hands_252 (by decide) ?_
          refine lv_idiv hx hb dL_hands_253 (by decide) ?_
          refine lv_iload_n hx hb dL_hands_254 rfl (lv_at hl 3 rfl) ?_
          obtain ⟨g48, hF⟩ := gz_t hF
          refine lv_irem hx hb dL_hands_255 g48 ?_
          obtain ⟨v49, ev49, hF⟩ := nm_t hF
          refine lv_nmi ev49 ?_
          refine lv_istore (lv' := [(10, .int v49), (5, .int v46), (0, .ref (bb G + 0)), (1, .int x1), (2, .int r1), (4, .int r7)]) hx hb dL_hands_256 hl (by decide) rfl (fun ls hl => ?_)
          refine lv_aload_n hx hb dL_hands_258 rfl (lv_at hl 2 rfl) ?_
          refine lv_iload hx hb dL_hands_259 (lv_at hl 0 rfl) ?_
          refine lv_iconst (v := 2) hx hb dL_hands_261 (by decide) ?_
          obtain ⟨r50, C52, hc51, hF⟩ := b2_t hF
          refine call_SWE hC (c_L_tryBoiler l (gP G H) (H.size - bb G) (hw.lp hn) (Nat.zero_le _) hfl v49 (2 : Int32) _ _ _ hc51) wwL_151 ⟨rfl, rfl, by decide, by decide⟩ hw hn hS hl.1 rfl (rest := []) rfl (Nat.le_of_ble_eq_true rfl) dL_hands_262 ⟨(show 347 + 2 ≤ 731 by omega), (show 2078 + 12 ≤ 4374 by omega)⟩ (fun H locs hw hS hk => ?_)
          refine lv_istore (lv' := [(11, .int r50), (10, .int v49), (5, .int v46), (0, .ref (bb G + 0)), (1, .int x1), (2, .int r1), (4, .int r7)]) hx hb dL_hands_265 hl (by decide) rfl (fun ls hl => ?_)
          refine lv_iload hx hb dL_hands_267 (lv_at hl 2 rfl) ?_
          have hJ371 : ∀ (v54 : Int32) (C55 : Mem) (H : Heap) (locs : List Loc) (ls : Array Slot), J_L_hands_371 x1 r1 r7 v54 C55 = some (rR, CR) → Wd G n C55 H → LW G s H locs → lv_has ls 25 [(0, .ref (bb G + 0)), (1, .int x1), (2, .int r1), (4, .int r7)] → W p l e (rmX 11 204 731 4374) s m ([.ref (bb G + 0), .int x1] : List Value).toArray below meth c H locs 662 3964 (MQ below (QR G n (some (.int rR)) CR) ([.ref (bb G + 0), .int x1] : List Value).toArray s 731 4374 (frA G)) (F0 m 371 ls [.int v54]) := by
            intro v54 C55 H locs ls hF hw hS hl
            unfold J_L_hands_371 at hF
            refine lv_istore (lv' := [(5, .int v54), (0, .ref (bb G + 0)), (1, .int x1), (2, .int r1), (4, .int r7)]) hx hb dL_hands_371 hl (by decide) rfl (fun ls hl => ?_)
            refine lv_iconst (v := 1) hx hb dL_hands_373 (by decide) ?_
            refine lv_iload_n hx hb dL_hands_374 rfl (lv_at hl 2 rfl) ?_
            refine lv_bipush (v := 16) hx hb dL_hands_375 (by decide) ?_
            refine lv_idiv hx hb dL_hands_377 (by decide) ?_
            refine lv_bipush (v := 80) hx hb dL_hands_378 (by decide) ?_
            refine lv_irem hx hb dL_hands_380 (by decide) ?_
            refine lv_iadd hx hb dL_hands_381 ?_
            obtain ⟨v56, ev56, hF⟩ := nm_t hF
            refine lv_nmi ev56 ?_
            refine lv_istore (lv' := [(12, .int v56), (5, .int v54), (0, .ref (bb G + 0)), (1, .int x1), (2, .int r1), (4, .int r7)]) hx hb dL_hands_382 hl (by decide) rfl (fun ls hl => ?_)
            refine lv_aload_n hx hb dL_hands_384 rfl (lv_at hl 2 rfl) ?_
            refine lv_iload hx hb dL_hands_385 (lv_at hl 0 rfl) ?_
            refine lv_iconst (v := 1) hx hb dL_hands_387 (by decide) ?_
            obtain ⟨r57, C59, hc58, hF⟩ := b2_t hF
            refine call_SWE hC (c_L_trySmallestSet l (gP G H) (H.size - bb G) (hw.lp hn) (Nat.zero_le _) hfl v56 (1 : Int32) _ _ _ hc58) wwL_182 ⟨rfl, rfl, by decide, by decide⟩ hw hn hS hl.1 rfl (rest := []) rfl (Nat.le_of_ble_eq_true rfl) dL_hands_388 ⟨(show 662 + 1 ≤ 731 by omega), (show 3964 + 6 ≤ 4374 by omega)⟩ (fun H locs hw hS hk => ?_)
            refine lv_istore (lv' := [(13, .int r57), (12, .int v56), (5, .int v54), (0, .ref (bb G + 0)), (1, .int x1), (2, .int r1), (4, .int r7)]) hx hb dL_hands_391 hl (by decide) rfl (fun ls hl => ?_)
            refine lv_iconst (v := 0) hx hb dL_hands_393 (by decide) ?_
            refine lv_istore (lv' := [(14, .int (0 : Int32)), (13, .int r57), (12, .int v56), (5, .int v54), (0, .ref (bb G + 0)), (1, .int x1), (2, .int r1), (4, .int r7)]) hx hb dL_hands_394 hl (by decide) rfl (fun ls hl => ?_)
            refine lv_iconst (v := 0) hx hb dL_hands_396 (by decide) ?_
            refine lv_istore (lv' := [(15, .int (0 : Int32)), (14, .int (0 : Int32)), (13, .int r57), (12, .int v56), (5, .int v54), (0, .ref (bb G + 0)), (1, .int x1), (2, .int r1), (4, .int r7)]) hx hb dL_hands_397 hl (by decide) rfl (fun ls hl => ?_)
            refine lv_iconst (v := 2) hx hb dL_hands_399 (by decide) ?_
            refine m_newi (N := 2) hC hw hn hS aw_int (by decide) (by decide) (by decide) (show 663 + 1 ≤ 731 by omega) (show 3970 + 2 ≤ 4374 by omega) dL_hands_400 (fun H ra400 hw hS hk hr400 => ?_)
            refine lv_astore (lv' := [(16, .ref ra400), (15, .int (0 : Int32)), (14, .int (0 : Int32)), (13, .int r57), (12, .int v56), (5, .int v54), (0, .ref (bb G + 0)), (1, .int x1), (2, .int r1), (4, .int r7)]) hx hb dL_hands_402 hl (by decide) rfl (fun ls hl => ?_)
            refine lv_iconst (v := 0) hx hb dL_hands_404 (by decide) ?_
            refine lv_istore (lv' := [(17, .int (0 : Int32)), (16, .ref ra400), (15, .int (0 : Int32)), (14, .int (0 : Int32)), (13, .int r57), (12, .int v56), (5, .int v54), (0, .ref (bb G + 0)), (1, .int x1), (2, .int r1), (4, .int r7)]) hx hb dL_hands_405 hl (by decide) rfl (fun ls hl => ?_)
            obtain ⟨o64, hit64, hG64⟩ := b1_t hF
            have hR64 : ∀ (v66 : Int32) (v67 : Int32) (v68 : Int32) (C69 : Mem) (f70 : Nat → Int32) (H : Heap) (locs : List Loc) (ls : Array Slot), o64 = (v66, v67, v68, C69, f70) → Wd G n C69 H → LW G s H locs → Row G n ra400 2 f70 H → lv_has ls 25 [(16, .ref ra400), (13, .int r57), (12, .int v56), (5, .int v54), (0, .ref (bb G + 0)), (1, .int x1), (4, .int r7), (14, .int v66), (15, .int v67)] → W p l e (rmX 11 204 731 4374) s m ([.ref (bb G + 0), .int x1] : List Value).toArray below meth c H locs 700 4188 (MQ below (QR G n (some (.int rR)) CR) ([.ref (bb G + 0), .int x1] : List Value).toArray s 731 4374 (frA G)) (F0 m 472 ls []) := by
              intro v66 v67 v68 C69 f70 H locs ls hE hw hS hr400 hl
              subst hE
              have hF := u5_t hG64
              refine lv_iload hx hb dL_hands_472 (lv_at hl 3 rfl) ?_
              have hJ576 : ∀ (v91 : Int32) (C92 : Mem) (H : Heap) (locs : List Loc) (ls : Array Slot), J_L_hands_576 x1 r7 v91 C92 = some (rR, CR) → Wd G n C92 H → LW G s H locs → lv_has ls 25 [(0, .ref (bb G + 0)), (1, .int x1), (4, .int r7)] → W p l e (rmX 11 204 731 4374) s m ([.ref (bb G + 0), .int x1] : List Value).toArray below meth c H locs 705 4218 (MQ below (QR G n (some (.int rR)) CR) ([.ref (bb G + 0), .int x1] : List Value).toArray s 731 4374 (frA G)) (F0 m 576 ls [.int v91]) := by
                intro v91 C92 H locs ls hF hw hS hl
                unfold J_L_hands_576 at hF
                refine lv_istore (lv' := [(5, .int v91), (0, .ref (bb G + 0)), (1, .int x1), (4, .int r7)]) hx hb dL_hands_576 hl (by decide) rfl (fun ls hl => ?_)
                refine lv_iload_n hx hb dL_hands_578 rfl (lv_at hl 2 rfl) ?_
                refine lv_bipush (v := 64) hx hb dL_hands_579 (by decide) ?_
                refine lv_idiv hx hb dL_hands_581 (by decide) ?_
                refine lv_bipush (v := 100) hx hb dL_hands_582 (by decide) ?_
                refine lv_irem hx hb dL_hands_584 (by decide) ?_
                obtain ⟨v93, ev93, hF⟩ := nm_t hF
                refine lv_nmi ev93 ?_
                refine lv_istore (lv' := [(17, .int v93), (5, .int v91), (0, .ref (bb G + 0)), (1, .int x1), (4, .int r7)]) hx hb dL_hands_585 hl (by decide) rfl (fun ls hl => ?_)
                refine lv_iload_n hx hb dL_hands_587 rfl (lv_at hl 3 rfl) ?_
                refine lv_sipush (v := 8192) hx hb dL_hands_588 (by decide) ?_
                refine lv_idiv hx hb dL_hands_591 (by decide) ?_
                refine lv_bipush (v := 6) hx hb dL_hands_592 (by decide) ?_
                refine lv_irem hx hb dL_hands_594 (by decide) ?_
                obtain ⟨v94, ev94, hF⟩ := nm_t hF
                refine lv_nmi ev94 ?_
                refine lv_istore (lv' := [(18, .int v94), (17, .int v93), (5, .int v91), (0, .ref (bb G + 0)), (1, .int x1), (4, .int r7)]) hx hb dL_hands_595 hl (by decide) rfl (fun ls hl => ?_)
                refine lv_aload_n hx hb dL_hands_597 rfl (lv_at hl 3 rfl) ?_
                refine lv_iload hx hb dL_hands_598 (lv_at hl 1 rfl) ?_
                refine lv_iload hx hb dL_hands_600 (lv_at hl 0 rfl) ?_
                obtain ⟨r95, C97, hc96, hF⟩ := b2_t hF
                refine call_SWE hC (c_L_tryWarmAfter l (gP G H) (H.size - bb G) (hw.lp hn) (Nat.zero_le _) hfl v93 v94 _ _ _ hc96) wwL_189 ⟨rfl, rfl, by decide, by decide⟩ hw hn hS hl.1 rfl (rest := []) rfl (Nat.le_of_ble_eq_true rfl) dL_hands_602 ⟨(show 705 + 2 ≤ 731 by omega), (show 4218 + 12 ≤ 4374 by omega)⟩ (fun H locs hw hS hk => ?_)
                refine lv_istore (lv' := [(19, .int r95), (18, .int v94), (17, .int v93), (5, .int v91), (0, .ref (bb G + 0)), (1, .int x1), (4, .int r7)]) hx hb dL_hands_605 hl (by decide) rfl (fun ls hl => ?_)
                refine lv_iload hx hb dL_hands_607 (lv_at hl 3 rfl) ?_
                have hJ646 : ∀ (v99 : Int32) (C100 : Mem) (H : Heap) (locs : List Loc) (ls : Array Slot), J_L_hands_646 x1 r7 v93 v94 r95 v99 C100 = some (rR, CR) → Wd G n C100 H → LW G s H locs → lv_has ls 25 [(0, .ref (bb G + 0)), (1, .int x1), (4, .int r7), (17, .int v93), (18, .int v94), (19, .int r95)] → W p l e (rmX 11 204 731 4374) s m ([.ref (bb G + 0), .int x1] : List Value).toArray below meth c H locs 708 4236 (MQ below (QR G n (some (.int rR)) CR) ([.ref (bb G + 0), .int x1] : List Value).toArray s 731 4374 (frA G)) (F0 m 646 ls [.int v99]) := by
                  intro v99 C100 H locs ls hF hw hS hl
                  unfold J_L_hands_646 at hF
                  refine lv_istore (lv' := [(5, .int v99), (0, .ref (bb G + 0)), (1, .int x1), (4, .int r7), (17, .int v93), (18, .int v94), (19, .int r95)]) hx hb dL_hands_646 hl (by decide) rfl (fun ls hl => ?_)
                  refine lv_iload hx hb dL_hands_648 (lv_at hl 6 rfl) ?_
                  have hJ708 : ∀ (v102 : Int32) (C103 : Mem) (H : Heap) (locs : List Loc) (ls : Array Slot), J_L_hands_708 x1 r7 v93 v94 v102 C103 = some (rR, CR) → Wd G n C103 H → LW G s H locs → lv_has ls 25 [(0, .ref (bb G + 0)), (1, .int x1), (4, .int r7), (5, .int v102), (17, .int v93), (18, .int v94)] → W p l e (rmX 11 204 731 4374) s m ([.ref (bb G + 0), .int x1] : List Value).toArray below meth c H locs 714 4272 (MQ below (QR G n (some (.int rR)) CR) ([.ref (bb G + 0), .int x1] : List Value).toArray s 731 4374 (frA G)) (F0 m 708 ls []) := by
                    intro v102 C103 H locs ls hF hw hS hl
                    unfold J_L_hands_708 at hF
                    refine lv_iconst (v := 1) hx hb dL_hands_708 (by decide) ?_
                    refine lv_iload_n hx hb dL_hands_709 rfl (lv_at hl 1 rfl) ?_
                    refine lv_bipush (v := 30) hx hb dL_hands_710 (by decide) ?_
                    refine lv_irem hx hb dL_hands_712 (by decide) ?_
                    refine lv_iadd hx hb dL_hands_713 ?_
                    obtain ⟨v104, ev104, hF⟩ := nm_t hF
                    refine lv_nmi ev104 ?_
                    refine lv_istore (lv' := [(20, .int v104), (0, .ref (bb G + 0)), (1, .int x1), (4, .int r7), (5, .int v102), (17, .int v93), (18, .int v94)]) hx hb dL_hands_714 hl (by decide) rfl (fun ls hl => ?_)
                    refine lv_aload_n hx hb dL_hands_716 rfl (lv_at hl 1 rfl) ?_
                    refine lv_iload hx hb dL_hands_717 (lv_at hl 0 rfl) ?_
                    refine lv_iload hx hb dL_hands_719 (lv_at hl 6 rfl) ?_
                    obtain ⟨r105, C107, hc106, hF⟩ := b2_t hF
                    refine call_SWE hC (c_L_tryCheapestPurge l (gP G H) (H.size - bb G) (hw.lp hn) (Nat.zero_le _) hfl v104 v94 _ _ _ hc106) wwL_195 ⟨rfl, rfl, by decide, by decide⟩ hw hn hS hl.1 rfl (rest := []) rfl (Nat.le_of_ble_eq_true rfl) dL_hands_721 ⟨(show 714 + 2 ≤ 731 by omega), (show 4272 + 12 ≤ 4374 by omega)⟩ (fun H locs hw hS hk => ?_)
                    refine lv_istore (lv' := [(21, .int r105), (20, .int v104), (0, .ref (bb G + 0)), (1, .int x1), (4, .int r7), (5, .int v102), (17, .int v93), (18, .int v94)]) hx hb dL_hands_724 hl (by decide) rfl (fun ls hl => ?_)
                    refine lv_aload_n hx hb dL_hands_726 rfl (lv_at hl 2 rfl) ?_
                    refine lv_iload hx hb dL_hands_727 (lv_at hl 0 rfl) ?_
                    refine lv_iload hx hb dL_hands_729 (lv_at hl 1 rfl) ?_
                    refine lv_iload hx hb dL_hands_731 (lv_at hl 7 rfl) ?_
                    refine lv_iload hx hb dL_hands_733 (lv_at hl 4 rfl) ?_
                    obtain ⟨r108, C110, hc109, hF⟩ := b2_t hF
                    refine call_SNE hC (c_L_purgeFuel l (gP G H) (H.size - bb G) (hw.lp hn) (Nat.zero_le _) hfl r105 v104 v94 r7 _ _ _ hc109) wsL_218 ⟨rfl, rfl, by decide, by decide⟩ hw hn hS hl.1 rfl (rest := []) rfl (Nat.le_of_ble_eq_true rfl) dL_hands_735 ⟨(show 716 + 6 ≤ 731 by omega), (show 4284 + 36 ≤ 4374 by omega)⟩ (fun H locs hw hS hk => ?_)
                    refine lv_istore (lv' := [(22, .int r108), (21, .int r105), (20, .int v104), (0, .ref (bb G + 0)), (1, .int x1), (4, .int r7), (5, .int v102), (17, .int v93), (18, .int v94)]) hx hb dL_hands_738 hl (by decide) rfl (fun ls hl => ?_)
                    refine lv_aload_n hx hb dL_hands_740 rfl (lv_at hl 3 rfl) ?_
                    refine lv_iconst (v := 1) hx hb dL_hands_741 (by decide) ?_
                    refine lv_iload_n hx hb dL_hands_742 rfl (lv_at hl 4 rfl) ?_
                    refine lv_sipush (v := 128) hx hb dL_hands_743 (by decide) ?_
                    refine lv_idiv hx hb dL_hands_746 (by decide) ?_
                    refine lv_iconst (v := 5) hx hb dL_hands_747 (by decide) ?_
                    refine lv_irem hx hb dL_hands_748 (by decide) ?_
                    refine lv_iadd hx hb dL_hands_749 ?_
                    refine lv_iload hx hb dL_hands_750 (lv_at hl 2 rfl) ?_
                    refine lv_iload hx hb dL_hands_752 (lv_at hl 8 rfl) ?_
                    refine lv_iload hx hb dL_hands_754 (lv_at hl 5 rfl) ?_
                    obtain ⟨r111, C113, hc112, hF⟩ := b2_t hF
                    refine call_SNE hC (c_L_purgeFuel l (gP G H) (H.size - bb G) (hw.lp hn) (Nat.zero_le _) hfl ((1 : Int32) + ((x1 / (128 : Int32)) - (x1 / (128 : Int32)) / (5 : Int32) * (5 : Int32))) v104 v94 r7 _ _ _ hc112) wsL_218 ⟨rfl, rfl, by decide, by decide⟩ hw hn hS hl.1 rfl (rest := []) rfl (Nat.le_of_ble_eq_true rfl) dL_hands_756 ⟨(show 722 + 6 ≤ 731 by omega), (show 4320 + 36 ≤ 4374 by omega)⟩ (fun H locs hw hS hk => ?_)
                    refine lv_istore (lv' := [(23, .int r111), (22, .int r108), (21, .int r105), (20, .int v104), (0, .ref (bb G + 0)), (1, .int x1), (4, .int r7), (5, .int v102), (17, .int v93), (18, .int v94)]) hx hb dL_hands_759 hl (by decide) rfl (fun ls hl => ?_)
                    refine lv_aload_n hx hb dL_hands_761 rfl (lv_at hl 4 rfl) ?_
                    refine lv_iload hx hb dL_hands_762 (lv_at hl 3 rfl) ?_
                    refine lv_bipush (v := 10) hx hb dL_hands_764 (by decide) ?_
                    refine lv_iload hx hb dL_hands_766 (lv_at hl 8 rfl) ?_
                    refine lv_bipush (v := 71) hx hb dL_hands_768 (by decide) ?_
                    refine lv_irem hx hb dL_hands_770 (by decide) ?_
                    refine lv_iadd hx hb dL_hands_771 ?_
                    obtain ⟨r114, C116, hc115, hF⟩ := b2_t hF
                    refine call_SWE hC (c_L_tryBearable l (gP G H) (H.size - bb G) (hw.lp hn) (Nat.zero_le _) hfl v104 ((10 : Int32) + (v93 - v93 / (71 : Int32) * (71 : Int32))) _ _ _ hc115) wwL_192 ⟨rfl, rfl, by decide, by decide⟩ hw hn hS hl.1 rfl (rest := []) rfl (Nat.le_of_ble_eq_true rfl) dL_hands_772 ⟨(show 728 + 2 ≤ 731 by omega), (show 4356 + 12 ≤ 4374 by omega)⟩ (fun H locs hw hS hk => ?_)
                    refine lv_istore (lv' := [(24, .int r114), (23, .int r111), (22, .int r108), (21, .int r105), (20, .int v104), (0, .ref (bb G + 0)), (1, .int x1), (4, .int r7), (5, .int v102), (17, .int v93), (18, .int v94)]) hx hb dL_hands_775 hl (by decide) rfl (fun ls hl => ?_)
                    refine lv_iload hx hb dL_hands_777 (lv_at hl 8 rfl) ?_
                    refine lv_if_eq (tgt := 828) hx hb dL_hands_779 (by decide) (fun h117 => ?_) (fun h117 => ?_)
                    · have hF := it_t h117 hF
                      refine lv_iconst (v := 0) hx hb dL_hands_828 (by decide) ?_
                      exact m_zretN hC hr hlk hw hS (by decide) (by decide) dL_hands_829 (by decide) hF
                    · have hF := it_f h117 hF
                      refine lv_iload hx hb dL_hands_782 (lv_at hl 3 rfl) ?_
                      refine lv_iconst (v := 1) hx hb dL_hands_784 (by decide) ?_
                      refine lv_icmp_lt (tgt := 828) hx hb dL_hands_785 (by decide) (fun h118 => ?_) (fun h118 => ?_)
                      · have hF := it_t h118 hF
                        refine lv_iconst (v := 0) hx hb dL_hands_828 (by decide) ?_
                        exact m_zretN hC hr hlk hw hS (by decide) (by decide) dL_hands_829 (by decide) hF
                      · have hF := it_f h118 hF
                        refine lv_iload hx hb dL_hands_788 (lv_at hl 3 rfl) ?_
                        refine lv_iconst (v := 5) hx hb dL_hands_790 (by decide) ?_
                        refine lv_icmp_gt (tgt := 828) hx hb dL_hands_791 (by decide) (fun h119 => ?_) (fun h119 => ?_)
                        · have hF := it_t h119 hF
                          refine lv_iconst (v := 0) hx hb dL_hands_828 (by decide) ?_
                          exact m_zretN hC hr hlk hw hS (by decide) (by decide) dL_hands_829 (by decide) hF
                        · have hF := it_f h119 hF
                          refine lv_iload hx hb dL_hands_794 (lv_at hl 2 rfl) ?_
                          refine lv_iload hx hb dL_hands_796 (lv_at hl 1 rfl) ?_
                          refine lv_icmp_gt (tgt := 828) hx hb dL_hands_798 (by decide) (fun h120 => ?_) (fun h120 => ?_)
                          · have hF := it_t h120 hF
                            refine lv_iconst (v := 0) hx hb dL_hands_828 (by decide) ?_
                            exact m_zretN hC hr hlk hw hS (by decide) (by decide) dL_hands_829 (by decide) hF
                          · have hF := it_f h120 hF
                            refine lv_iload hx hb dL_hands_801 (lv_at hl 0 rfl) ?_
                            refine lv_bipush (v := -9) hx hb dL_hands_803 (by decide) ?_
                            refine lv_icmp_lt (tgt := 828) hx hb dL_hands_805 (by decide) (fun h121 => ?_) (fun h121 => ?_)
                            · have hF := it_t h121 hF
                              refine lv_iconst (v := 0) hx hb dL_hands_828 (by decide) ?_
                              exact m_zretN hC hr hlk hw hS (by decide) (by decide) dL_hands_829 (by decide) hF
                            · have hF := it_f h121 hF
                              refine lv_iload hx hb dL_hands_808 (lv_at hl 0 rfl) ?_
                              refine lv_iconst (v := 5) hx hb dL_hands_810 (by decide) ?_
                              refine lv_icmp_gt (tgt := 828) hx hb dL_hands_811 (by decide) (fun h122 => ?_) (fun h122 => ?_)
                              · have hF := it_t h122 hF
                                refine lv_iconst (v := 0) hx hb dL_hands_828 (by decide) ?_
                                exact m_zretN hC hr hlk hw hS (by decide) (by decide) dL_hands_829 (by decide) hF
                              · have hF := it_f h122 hF
                                refine lv_aload_n hx hb dL_hands_814 rfl (lv_at hl 5 rfl) ?_
                                obtain ⟨r123, C125, hc124, hF⟩ := b2_t hF
                                refine call_SWE hC (c_L_tryUndo l (gP G H) (H.size - bb G) (hw.lp hn) (Nat.zero_le _) hfl  _ _ _ hc124) wwL_139 ⟨rfl, rfl, by decide, by decide⟩ hw hn hS hl.1 rfl (rest := []) rfl (Nat.le_of_ble_eq_true rfl) dL_hands_815 ⟨(show 730 + 1 ≤ 731 by omega), (show 4368 + 6 ≤ 4374 by omega)⟩ (fun H locs hw hS hk => ?_)
                                refine lv_sipush (v := -1003) hx hb dL_hands_818 (by decide) ?_
                                refine lv_icmp_ne (tgt := 828) hx hb dL_hands_821 (by decide) (fun h126 => ?_) (fun h126 => ?_)
                                · have hF := it_f h126 hF
                                  refine lv_iconst (v := 0) hx hb dL_hands_828 (by decide) ?_
                                  exact m_zretN hC hr hlk hw hS (by decide) (by decide) dL_hands_829 (by decide) hF
                                · have hF := it_t h126 hF
                                  refine lv_iconst (v := 1) hx hb dL_hands_824 (by decide) ?_
                                  refine lv_goto (tgt := 829) hx hb dL_hands_825 (by decide) ?_
                                  exact m_zretN hC hr hlk hw hS (by decide) (by decide) dL_hands_829 (by decide) hF
                  refine lv_if_le (tgt := 708) hx hb dL_hands_650 (by decide) (fun h101 => ?_) (fun h101 => ?_)
                  · have hF := it_t h101 hF
                    refine W.widen (k := 714) (n := 4272) (by omega) (by omega) ?_
                    exact hJ708 v99 C100 _ _ _ hF hw hS (lv_sub hl [1, 2, 3, 0, 4, 5] rfl)
                  · have hF := it_f h101 hF
                    refine lv_iload hx hb dL_hands_653 (lv_at hl 6 rfl) ?_
                    refine lv_bipush (v := 97) hx hb dL_hands_655 (by decide) ?_
                    refine lv_icmp_ge (tgt := 708) hx hb dL_hands_657 (by decide) (fun h127 => ?_) (fun h127 => ?_)
                    · have hF := it_t h127 hF
                      refine W.widen (k := 714) (n := 4272) (by omega) (by omega) ?_
                      exact hJ708 v99 C100 _ _ _ hF hw hS (lv_sub hl [1, 2, 3, 0, 4, 5] rfl)
                    · have hF := it_f h127 hF
                      refine lv_iload hx hb dL_hands_660 (lv_at hl 0 rfl) ?_
                      refine lv_if_eq (tgt := 708) hx hb dL_hands_662 (by decide) (fun h128 => ?_) (fun h128 => ?_)
                      · have hF := it_t h128 hF
                        refine W.widen (k := 714) (n := 4272) (by omega) (by omega) ?_
                        exact hJ708 v99 C100 _ _ _ hF hw hS (lv_sub hl [1, 2, 3, 0, 4, 5] rfl)
                      · have hF := it_f h128 hF
                        refine lv_aload_n hx hb dL_hands_665 rfl (lv_at hl 1 rfl) ?_
                        refine lv_iload hx hb dL_hands_666 (lv_at hl 6 rfl) ?_
                        refine lv_iload hx hb dL_hands_668 (lv_at hl 5 rfl) ?_
                        refine lv_iconst (v := 0) hx hb dL_hands_670 (by decide) ?_
                        obtain ⟨r129, C131, hc130, hF⟩ := b2_t hF
                        refine call_SWE hC (c_L_tryAhead l (gP G H) (H.size - bb G) (hw.lp hn) (Nat.zero_le _) hfl r95 v94 (0 : Int32) _ _ _ hc130) wwL_185 ⟨rfl, rfl, by decide, by decide⟩ hw hn hS hl.1 rfl (rest := []) rfl (Nat.le_of_ble_eq_true rfl) dL_hands_671 ⟨(show 708 + 3 ≤ 731 by omega), (show 4236 + 18 ≤ 4374 by omega)⟩ (fun H locs hw hS hk => ?_)
                        refine lv_iload hx hb dL_hands_674 (lv_at hl 4 rfl) ?_
                        refine lv_icmp_lt (tgt := 705) hx hb dL_hands_676 (by decide) (fun h132 => ?_) (fun h132 => ?_)
                        · have hF := it_t h132 hF
                          refine lv_iconst (v := 0) hx hb dL_hands_705 (by decide) ?_
                          refine lv_istore (lv' := [(5, .int (0 : Int32)), (0, .ref (bb G + 0)), (1, .int x1), (4, .int r7), (17, .int v93), (18, .int v94), (19, .int r95)]) hx hb dL_hands_706 hl (by decide) rfl (fun ls hl => ?_)
                          refine W.widen (k := 714) (n := 4272) (by omega) (by omega) ?_
                          exact hJ708 (0 : Int32) C131 _ _ _ hF hw hS (lv_sub hl [1, 2, 3, 0, 4, 5] rfl)
                        · have hF := it_f h132 hF
                          refine lv_iload hx hb dL_hands_679 (lv_at hl 6 rfl) ?_
                          refine lv_iconst (v := 1) hx hb dL_hands_681 (by decide) ?_
                          refine lv_icmp_eq (tgt := 701) hx hb dL_hands_682 (by decide) (fun h133 => ?_) (fun h133 => ?_)
                          · have hF := it_t h133 hF
                            refine lv_iconst (v := 1) hx hb dL_hands_701 (by decide) ?_
                            refine lv_goto (tgt := 706) hx hb dL_hands_702 (by decide) ?_
                            refine lv_istore (lv' := [(5, .int (1 : Int32)), (0, .ref (bb G + 0)), (1, .int x1), (4, .int r7), (17, .int v93), (18, .int v94), (19, .int r95)]) hx hb dL_hands_706 hl (by decide) rfl (fun ls hl => ?_)
                            refine W.widen (k := 714) (n := 4272) (by omega) (by omega) ?_
                            exact hJ708 (1 : Int32) C131 _ _ _ hF hw hS (lv_sub hl [1, 2, 3, 0, 4, 5] rfl)
                          · have hF := it_f h133 hF
                            refine lv_aload_n hx hb dL_hands_685 rfl (lv_at hl 1 rfl) ?_
                            refine lv_iload hx hb dL_hands_686 (lv_at hl 6 rfl) ?_
                            refine lv_iconst (v := 1) hx hb dL_hands_688 (by decide) ?_
                            refine lv_isub hx hb dL_hands_689 ?_
                            refine lv_iload hx hb dL_hands_690 (lv_at hl 5 rfl) ?_
                            refine lv_iconst (v := 0) hx hb dL_hands_692 (by decide) ?_
                            obtain ⟨r134, C136, hc135, hF⟩ := b2_t hF
                            refine call_SWE hC (c_L_tryAhead l (gP G H) (H.size - bb G) (hw.lp hn) (Nat.zero_le _) hfl (r95 - (1 : Int32)) v94 (0 : Int32) _ _ _ hc135) wwL_185 ⟨rfl, rfl, by decide, by decide⟩ hw hn hS hl.1 rfl (rest := []) rfl (Nat.le_of_ble_eq_true rfl) dL_hands_693 ⟨(show 711 + 3 ≤ 731 by omega), (show 4254 + 18 ≤ 4374 by omega)⟩ (fun H locs hw hS hk => ?_)
                            refine lv_iload hx hb dL_hands_696 (lv_at hl 4 rfl) ?_
                            refine lv_icmp_ge (tgt := 705) hx hb dL_hands_698 (by decide) (fun h137 => ?_) (fun h137 => ?_)
                            · have hF := it_t h137 hF
                              refine lv_iconst (v := 0) hx hb dL_hands_705 (by decide) ?_
                              refine lv_istore (lv' := [(5, .int (0 : Int32)), (0, .ref (bb G + 0)), (1, .int x1), (4, .int r7), (17, .int v93), (18, .int v94), (19, .int r95)]) hx hb dL_hands_706 hl (by decide) rfl (fun ls hl => ?_)
                              exact hJ708 (0 : Int32) C136 _ _ _ hF hw hS (lv_sub hl [1, 2, 3, 0, 4, 5] rfl)
                            · have hF := it_f h137 hF
                              refine lv_iconst (v := 1) hx hb dL_hands_701 (by decide) ?_
                              refine lv_goto (tgt := 706) hx hb dL_hands_702 (by decide) ?_
                              refine lv_istore (lv' := [(5, .int (1 : Int32)), (0, .ref (bb G + 0)), (1, .int x1), (4, .int r7), (17, .int v93), (18, .int v94), (19, .int r95)]) hx hb dL_hands_706 hl (by decide) rfl (fun ls hl => ?_)
                              exact hJ708 (1 : Int32) C136 _ _ _ hF hw hS (lv_sub hl [1, 2, 3, 0, 4, 5] rfl)
                refine lv_if_eq (tgt := 645) hx hb dL_hands_609 (by decide) (fun h98 => ?_) (fun h98 => ?_)
                · have hF := it_t h98 hF
                  refine lv_iconst (v := 0) hx hb dL_hands_645 (by decide) ?_
                  refine W.widen (k := 708) (n := 4236) (by omega) (by omega) ?_
                  exact hJ646 (0 : Int32) C97 _ _ _ hF hw hS (lv_sub hl [4, 5, 6, 2, 1, 0] rfl)
                · have hF := it_f h98 hF
                  refine lv_iload hx hb dL_hands_612 (lv_at hl 0 rfl) ?_
                  have hJ622 : ∀ (v139 : Int32) (H : Heap) (locs : List Loc) (ls : Array Slot), J_L_hands_622 x1 r7 v93 v94 r95 C97 v139 = some (rR, CR) → Wd G n C97 H → LW G s H locs → lv_has ls 25 [(0, .ref (bb G + 0)), (1, .int x1), (4, .int r7), (17, .int v93), (18, .int v94), (19, .int r95)] → W p l e (rmX 11 204 731 4374) s m ([.ref (bb G + 0), .int x1] : List Value).toArray below meth c H locs 707 4230 (MQ below (QR G n (some (.int rR)) CR) ([.ref (bb G + 0), .int x1] : List Value).toArray s 731 4374 (frA G)) (F0 m 622 ls [.int v139]) := by
                    intro v139 H locs ls hF hw hS hl
                    unfold J_L_hands_622 at hF
                    refine lv_aload_n hx hb dL_hands_622 rfl (lv_at hl 0 rfl) ?_
                    refine lv_bipush (v := 9) hx hb dL_hands_623 (by decide) ?_
                    obtain ⟨r140, C142, hc141, hF⟩ := b2_t hF
                    refine call_SWE hC (c_L_tryAbout l (gP G H) (H.size - bb G) (hw.lp hn) (Nat.zero_le _) hfl (9 : Int32) _ _ _ hc141) wwL_129 ⟨rfl, rfl, by decide, by decide⟩ hw hn hS hl.1 rfl (rest := [.int v139]) rfl (Nat.le_of_ble_eq_true rfl) dL_hands_625 ⟨(show 707 + 1 ≤ 731 by omega), (show 4230 + 6 ≤ 4374 by omega)⟩ (fun H locs hw hS hk => ?_)
                    refine lv_iload hx hb dL_hands_628 (lv_at hl 3 rfl) ?_
                    have hJ638 : ∀ (v144 : Int32) (H : Heap) (locs : List Loc) (ls : Array Slot), J_L_hands_638 x1 r7 v93 v94 r95 v139 C142 v144 = some (rR, CR) → Wd G n C142 H → LW G s H locs → lv_has ls 25 [(0, .ref (bb G + 0)), (1, .int x1), (4, .int r7), (17, .int v93), (18, .int v94), (19, .int r95)] → W p l e (rmX 11 204 731 4374) s m ([.ref (bb G + 0), .int x1] : List Value).toArray below meth c H locs 708 4236 (MQ below (QR G n (some (.int rR)) CR) ([.ref (bb G + 0), .int x1] : List Value).toArray s 731 4374 (frA G)) (F0 m 638 ls [.int v144, .int v139]) := by
                      intro v144 H locs ls hF hw hS hl
                      unfold J_L_hands_638 at hF
                      refine lv_icmp_ne (tgt := 645) hx hb dL_hands_638 (by decide) (fun h145 => ?_) (fun h145 => ?_)
                      · have hF := it_f h145 hF
                        refine lv_iconst (v := 0) hx hb dL_hands_645 (by decide) ?_
                        exact hJ646 (0 : Int32) C142 _ _ _ hF hw hS (lv_sub hl [0, 1, 2, 3, 4, 5] rfl)
                      · have hF := it_t h145 hF
                        refine lv_iconst (v := 1) hx hb dL_hands_641 (by decide) ?_
                        refine lv_goto (tgt := 646) hx hb dL_hands_642 (by decide) ?_
                        exact hJ646 (1 : Int32) C142 _ _ _ hF hw hS (lv_sub hl [0, 1, 2, 3, 4, 5] rfl)
                    refine lv_icmp_lt (tgt := 637) hx hb dL_hands_630 (by decide) (fun h143 => ?_) (fun h143 => ?_)
                    · have hF := it_t h143 hF
                      refine lv_iconst (v := 0) hx hb dL_hands_637 (by decide) ?_
                      exact hJ638 (0 : Int32) _ _ _ hF hw hS (lv_sub hl [0, 1, 2, 3, 4, 5] rfl)
                    · have hF := it_f h143 hF
                      refine lv_iconst (v := 1) hx hb dL_hands_633 (by decide) ?_
                      refine lv_goto (tgt := 638) hx hb dL_hands_634 (by decide) ?_
                      exact hJ638 (1 : Int32) _ _ _ hF hw hS (lv_sub hl [0, 1, 2, 3, 4, 5] rfl)
                  refine lv_if_ne (tgt := 621) hx hb dL_hands_614 (by decide) (fun h138 => ?_) (fun h138 => ?_)
                  · have hF := it_f h138 hF
                    refine lv_iconst (v := 0) hx hb dL_hands_621 (by decide) ?_
                    exact hJ622 (0 : Int32) _ _ _ hF hw hS (lv_sub hl [4, 5, 6, 2, 1, 0] rfl)
                  · have hF := it_t h138 hF
                    refine lv_iconst (v := 1) hx hb dL_hands_617 (by decide) ?_
                    refine lv_goto (tgt := 622) hx hb dL_hands_618 (by decide) ?_
                    exact hJ622 (1 : Int32) _ _ _ hF hw hS (lv_sub hl [4, 5, 6, 2, 1, 0] rfl)
              refine lv_if_eq (tgt := 575) hx hb dL_hands_474 (by decide) (fun h90 => ?_) (fun h90 => ?_)
              · have hF := it_t h90 hF
                refine lv_iconst (v := 0) hx hb dL_hands_575 (by decide) ?_
                refine W.widen (k := 705) (n := 4218) (by omega) (by omega) ?_
                exact hJ576 (0 : Int32) C69 _ _ _ hF hw hS (lv_sub hl [4, 5, 6] rfl)
              · have hF := it_f h90 hF
                refine lv_iload hx hb dL_hands_477 (lv_at hl 1 rfl) ?_
                refine lv_bipush (v := -9) hx hb dL_hands_479 (by decide) ?_
                refine lv_icmp_ne (tgt := 521) hx hb dL_hands_481 (by decide) (fun h146 => ?_) (fun h146 => ?_)
                · have hF := it_f h146 hF
                  refine lv_aload_n hx hb dL_hands_521 rfl (lv_at hl 4 rfl) ?_
                  refine lv_iload hx hb dL_hands_522 (lv_at hl 2 rfl) ?_
                  refine lv_iconst (v := 0) hx hb dL_hands_524 (by decide) ?_
                  obtain ⟨r147, C149, hc148, hF⟩ := b2_t hF
                  refine call_SWE hC (c_L_trySmallestSet l (gP G H) (H.size - bb G) (hw.lp hn) (Nat.zero_le _) hfl v56 (0 : Int32) _ _ _ hc148) wwL_182 ⟨rfl, rfl, by decide, by decide⟩ hw hn hS hl.1 rfl (rest := []) rfl (Nat.le_of_ble_eq_true rfl) dL_hands_525 ⟨(show 700 + 1 ≤ 731 by omega), (show 4188 + 6 ≤ 4374 by omega)⟩ (fun H locs hw hS hk => ?_)
                  have hr400 := hr400.kp hn hk
                  refine lv_iload hx hb dL_hands_528 (lv_at hl 7 rfl) ?_
                  refine lv_icmp_ne (tgt := 575) hx hb dL_hands_530 (by decide) (fun h150 => ?_) (fun h150 => ?_)
                  · have hF := it_f h150 hF
                    refine lv_iconst (v := 0) hx hb dL_hands_575 (by decide) ?_
                    refine W.widen (k := 705) (n := 4218) (by omega) (by omega) ?_
                    exact hJ576 (0 : Int32) C149 _ _ _ hF hw hS (lv_sub hl [4, 5, 6] rfl)
                  · have hF := it_t h150 hF
                    refine lv_iload hx hb dL_hands_533 (lv_at hl 7 rfl) ?_
                    refine lv_iload hx hb dL_hands_535 (lv_at hl 2 rfl) ?_
                    refine lv_icmp_lt (tgt := 575) hx hb dL_hands_537 (by decide) (fun h151 => ?_) (fun h151 => ?_)
                    · have hF := it_t h151 hF
                      refine lv_iconst (v := 0) hx hb dL_hands_575 (by decide) ?_
                      refine W.widen (k := 705) (n := 4218) (by omega) (by omega) ?_
                      exact hJ576 (0 : Int32) C149 _ _ _ hF hw hS (lv_sub hl [4, 5, 6] rfl)
                    · have hF := it_f h151 hF
                      refine lv_iload hx hb dL_hands_540 (lv_at hl 8 rfl) ?_
                      refine lv_if_le (tgt := 575) hx hb dL_hands_542 (by decide) (fun h152 => ?_) (fun h152 => ?_)
                      · have hF := it_t h152 hF
                        refine lv_iconst (v := 0) hx hb dL_hands_575 (by decide) ?_
                        refine W.widen (k := 705) (n := 4218) (by omega) (by omega) ?_
                        exact hJ576 (0 : Int32) C149 _ _ _ hF hw hS (lv_sub hl [4, 5, 6] rfl)
                      · have hF := it_f h152 hF
                        refine lv_aload hx hb dL_hands_545 (lv_at hl 0 rfl) ?_
                        refine lv_iconst (v := 0) hx hb dL_hands_547 (by decide) ?_
                        refine r_iald hC hr400 (show vp_in (0 : Int32) 2 by unfold vp_in; decide) dL_hands_548 ?_
                        refine lv_aload_n hx hb dL_hands_549 rfl (lv_at hl 4 rfl) ?_
                        refine lv_iconst (v := 0) hx hb dL_hands_550 (by decide) ?_
                        refine lv_iconst (v := 0) hx hb dL_hands_551 (by decide) ?_
                        obtain ⟨r153, C155, hc154, hF⟩ := b2_t hF
                        refine call_SWE hC (c_L_tryFlue l (gP G H) (H.size - bb G) (hw.lp hn) (Nat.zero_le _) hfl (0 : Int32) (0 : Int32) _ _ _ hc154) wwL_135 ⟨rfl, rfl, by decide, by decide⟩ hw hn hS hl.1 rfl (rest := [.int (f70 ((0 : Int32)).toNatClampNeg)]) rfl (Nat.le_of_ble_eq_true rfl) dL_hands_552 ⟨(show 701 + 2 ≤ 731 by omega), (show 4194 + 12 ≤ 4374 by omega)⟩ (fun H locs hw hS hk => ?_)
                        have hr400 := hr400.kp hn hk
                        refine lv_icmp_gt (tgt := 575) hx hb dL_hands_555 (by decide) (fun h156 => ?_) (fun h156 => ?_)
                        · have hF := it_t h156 hF
                          refine lv_iconst (v := 0) hx hb dL_hands_575 (by decide) ?_
                          refine W.widen (k := 705) (n := 4218) (by omega) (by omega) ?_
                          exact hJ576 (0 : Int32) C155 _ _ _ hF hw hS (lv_sub hl [4, 5, 6] rfl)
                        · have hF := it_f h156 hF
                          refine lv_aload hx hb dL_hands_558 (lv_at hl 0 rfl) ?_
                          refine lv_iconst (v := 1) hx hb dL_hands_560 (by decide) ?_
                          refine r_iald hC hr400 (show vp_in (1 : Int32) 2 by unfold vp_in; decide) dL_hands_561 ?_
                          refine lv_aload_n hx hb dL_hands_562 rfl (lv_at hl 4 rfl) ?_
                          refine lv_iconst (v := 1) hx hb dL_hands_563 (by decide) ?_
                          refine lv_iconst (v := 0) hx hb dL_hands_564 (by decide) ?_
                          obtain ⟨r157, C159, hc158, hF⟩ := b2_t hF
                          refine call_SWE hC (c_L_tryFlue l (gP G H) (H.size - bb G) (hw.lp hn) (Nat.zero_le _) hfl (1 : Int32) (0 : Int32) _ _ _ hc158) wwL_135 ⟨rfl, rfl, by decide, by decide⟩ hw hn hS hl.1 rfl (rest := [.int (f70 ((1 : Int32)).toNatClampNeg)]) rfl (Nat.le_of_ble_eq_true rfl) dL_hands_565 ⟨(show 703 + 2 ≤ 731 by omega), (show 4206 + 12 ≤ 4374 by omega)⟩ (fun H locs hw hS hk => ?_)
                          have hr400 := hr400.kp hn hk
                          refine lv_icmp_gt (tgt := 575) hx hb dL_hands_568 (by decide) (fun h160 => ?_) (fun h160 => ?_)
                          · have hF := it_t h160 hF
                            refine lv_iconst (v := 0) hx hb dL_hands_575 (by decide) ?_
                            exact hJ576 (0 : Int32) C159 _ _ _ hF hw hS (lv_sub hl [4, 5, 6] rfl)
                          · have hF := it_f h160 hF
                            refine lv_iconst (v := 1) hx hb dL_hands_571 (by decide) ?_
                            refine lv_goto (tgt := 576) hx hb dL_hands_572 (by decide) ?_
                            exact hJ576 (1 : Int32) C159 _ _ _ hF hw hS (lv_sub hl [4, 5, 6] rfl)
                · have hF := it_t h146 hF
                  refine lv_aload_n hx hb dL_hands_484 rfl (lv_at hl 4 rfl) ?_
                  refine lv_iload hx hb dL_hands_485 (lv_at hl 2 rfl) ?_
                  refine lv_iconst (v := 0) hx hb dL_hands_487 (by decide) ?_
                  obtain ⟨r161, C163, hc162, hF⟩ := b2_t hF
                  refine call_SWE hC (c_L_trySmallestSet l (gP G H) (H.size - bb G) (hw.lp hn) (Nat.zero_le _) hfl v56 (0 : Int32) _ _ _ hc162) wwL_182 ⟨rfl, rfl, by decide, by decide⟩ hw hn hS hl.1 rfl (rest := []) rfl (Nat.le_of_ble_eq_true rfl) dL_hands_488 ⟨(show 700 + 1 ≤ 731 by omega), (show 4188 + 6 ≤ 4374 by omega)⟩ (fun H locs hw hS hk => ?_)
                  have hr400 := hr400.kp hn hk
                  refine lv_bipush (v := -9) hx hb dL_hands_491 (by decide) ?_
                  refine lv_icmp_ne (tgt := 575) hx hb dL_hands_493 (by decide) (fun h164 => ?_) (fun h164 => ?_)
                  · have hF := it_f h164 hF
                    refine lv_iconst (v := 0) hx hb dL_hands_575 (by decide) ?_
                    refine W.widen (k := 705) (n := 4218) (by omega) (by omega) ?_
                    exact hJ576 (0 : Int32) C163 _ _ _ hF hw hS (lv_sub hl [4, 5, 6] rfl)
                  · have hF := it_t h164 hF
                    refine lv_iload hx hb dL_hands_496 (lv_at hl 2 rfl) ?_
                    refine lv_sipush (v := 150) hx hb dL_hands_498 (by decide) ?_
                    refine lv_icmp_eq (tgt := 571) hx hb dL_hands_501 (by decide) (fun h165 => ?_) (fun h165 => ?_)
                    · have hF := it_t h165 hF
                      refine lv_iconst (v := 1) hx hb dL_hands_571 (by decide) ?_
                      refine lv_goto (tgt := 576) hx hb dL_hands_572 (by decide) ?_
                      refine W.widen (k := 705) (n := 4218) (by omega) (by omega) ?_
                      exact hJ576 (1 : Int32) C163 _ _ _ hF hw hS (lv_sub hl [4, 5, 6] rfl)
                    · have hF := it_f h165 hF
                      refine lv_aload_n hx hb dL_hands_504 rfl (lv_at hl 4 rfl) ?_
                      refine lv_iload hx hb dL_hands_505 (lv_at hl 2 rfl) ?_
                      refine lv_iconst (v := 1) hx hb dL_hands_507 (by decide) ?_
                      refine lv_iadd hx hb dL_hands_508 ?_
                      refine lv_iconst (v := 1) hx hb dL_hands_509 (by decide) ?_
                      obtain ⟨r166, C168, hc167, hF⟩ := b2_t hF
                      refine call_SWE hC (c_L_trySmallestSet l (gP G H) (H.size - bb G) (hw.lp hn) (Nat.zero_le _) hfl (v56 + (1 : Int32)) (1 : Int32) _ _ _ hc167) wwL_182 ⟨rfl, rfl, by decide, by decide⟩ hw hn hS hl.1 rfl (rest := []) rfl (Nat.le_of_ble_eq_true rfl) dL_hands_510 ⟨(show 701 + 1 ≤ 731 by omega), (show 4194 + 6 ≤ 4374 by omega)⟩ (fun H locs hw hS hk => ?_)
                      have hr400 := hr400.kp hn hk
                      refine lv_bipush (v := -9) hx hb dL_hands_513 (by decide) ?_
                      refine lv_icmp_ne (tgt := 575) hx hb dL_hands_515 (by decide) (fun h169 => ?_) (fun h169 => ?_)
                      · have hF := it_f h169 hF
                        refine lv_iconst (v := 0) hx hb dL_hands_575 (by decide) ?_
                        refine W.widen (k := 705) (n := 4218) (by omega) (by omega) ?_
                        exact hJ576 (0 : Int32) C168 _ _ _ hF hw hS (lv_sub hl [4, 5, 6] rfl)
                      · have hF := it_t h169 hF
                        refine lv_goto (tgt := 571) hx hb dL_hands_518 (by decide) ?_
                        refine lv_iconst (v := 1) hx hb dL_hands_571 (by decide) ?_
                        refine lv_goto (tgt := 576) hx hb dL_hands_572 (by decide) ?_
                        refine W.widen (k := 705) (n := 4218) (by omega) (by omega) ?_
                        exact hJ576 (1 : Int32) C168 _ _ _ hF hw hS (lv_sub hl [4, 5, 6] rfl)
            refine iter_soundN (P := fun (w64 : Nat) (x : Int32 × Int32 × Int32 × Mem × (Nat → Int32)) => ∀ (kc64 ks64 : Nat) (H : Heap) (locs : List Loc) (ls : Array Slot), kc64 + 6 * w64 ≤ 700 → ks64 + 36 * w64 ≤ 4188 → Wd G n x.2.2.2.1 H → LW G s H locs → Row G n ra400 2 x.2.2.2.2 H → lv_has ls 25 [(16, .ref ra400), (13, .int r57), (12, .int v56), (5, .int v54), (0, .ref (bb G + 0)), (1, .int x1), (2, .int r1), (4, .int r7), (14, .int x.1), (15, .int x.2.1), (17, .int x.2.2.1)] → W p l e (rmX 11 204 731 4374) s m ([.ref (bb G + 0), .int x1] : List Value).toArray below meth c H locs kc64 ks64 (MQ below (QR G n (some (.int rR)) CR) ([.ref (bb G + 0), .int x1] : List Value).toArray s 731 4374 (frA G)) (F0 m 407 ls [])) (X := fun r => r = o64) ?_ 6 ((0 : Int32), (0 : Int32), (0 : Int32), C59, (fun _ => 0)) o64 hit64 rfl 664 3972 _ _ _ (by omega) (by omega) hw hS hr400 (lv_sub hl [1, 4, 5, 6, 7, 8, 9, 10, 3, 2, 0] rfl)
            intro w64 x oo64 hF hk64 hX64 kc64 ks64 H locs ls hc64 hs64 hw hS hr400 hl
            obtain ⟨v60, v61, v62, C63, f65⟩ := x
            have hF : S_L_hands_407 r1 r57 v60 v61 v62 C63 f65 = some oo64 := hF
            have hw : Wd G n C63 H := hw
            have hr400 : Row G n ra400 2 f65 H := hr400
            have hl : lv_has ls 25 [(16, .ref ra400), (13, .int r57), (12, .int v56), (5, .int v54), (0, .ref (bb G + 0)), (1, .int x1), (2, .int r1), (4, .int r7), (14, .int v60), (15, .int v61), (17, .int v62)] := hl
            unfold S_L_hands_407 at hF
            refine lv_iload hx hb dL_hands_407 (lv_at hl 10 rfl) ?_
            refine lv_iload_n hx hb dL_hands_409 rfl (lv_at hl 6 rfl) ?_
            refine lv_icmp_ge (tgt := 472) hx hb dL_hands_410 (by decide) (fun h71 => ?_) (fun h71 => ?_)
            · have hF := it_t h71 hF
              refine W.widen (k := 700) (n := 4188) (by omega) (by omega) ?_
              exact hR64 _ _ _ _ _ _ _ _ (it_exit hF hX64).symm hw hS hr400 (lv_sub hl [0, 1, 2, 3, 4, 5, 7, 8, 9] rfl)
            · have hF := it_f h71 hF
              refine lv_iload hx hb dL_hands_413 (lv_at hl 1 rfl) ?_
              refine lv_bipush (v := -9) hx hb dL_hands_415 (by decide) ?_
              refine lv_icmp_eq (tgt := 472) hx hb dL_hands_417 (by decide) (fun h72 => ?_) (fun h72 => ?_)
              · have hF := it_t h72 hF
                refine W.widen (k := 700) (n := 4188) (by omega) (by omega) ?_
                exact hR64 _ _ _ _ _ _ _ _ (it_exit hF hX64).symm hw hS hr400 (lv_sub hl [0, 1, 2, 3, 4, 5, 7, 8, 9] rfl)
              · have hF := it_f h72 hF
                refine lv_iload hx hb dL_hands_420 (lv_at hl 1 rfl) ?_
                refine lv_iload hx hb dL_hands_422 (lv_at hl 10 rfl) ?_
                refine lv_ishr hx hb dL_hands_424 ?_
                refine lv_iconst (v := 1) hx hb dL_hands_425 (by decide) ?_
                refine lv_iand hx hb dL_hands_426 ?_
                refine lv_iconst (v := 1) hx hb dL_hands_427 (by decide) ?_
                refine lv_icmp_ne (tgt := 466) hx hb dL_hands_428 (by decide) (fun h73 => ?_) (fun h73 => ?_)
                · have hF := it_f h73 hF
                  obtain ⟨v74, ev74, hF⟩ := nm_t hF
                  refine lv_iinc (v := v74) (lv' := [(17, .int v74), (16, .ref ra400), (13, .int r57), (12, .int v56), (5, .int v54), (0, .ref (bb G + 0)), (1, .int x1), (2, .int r1), (4, .int r7), (14, .int v60), (15, .int v61)]) hx hb dL_hands_466 hl (k := 10) rfl (by rw [ev74]; rfl) (by decide) rfl (fun ls hl => ?_)
                  refine lv_goto (tgt := 407) hx hb dL_hands_469 (by decide) ?_
                  exact it_back hF hk64 kc64 ks64 _ _ _ (by omega) (by omega) hw hS hr400 (lv_sub hl [1, 2, 3, 4, 5, 6, 7, 8, 9, 10, 0] rfl)
                · have hF := it_t h73 hF
                  refine lv_iload hx hb dL_hands_431 (lv_at hl 8 rfl) ?_
                  refine lv_aload_n hx hb dL_hands_433 rfl (lv_at hl 4 rfl) ?_
                  refine lv_iload hx hb dL_hands_434 (lv_at hl 10 rfl) ?_
                  refine lv_iconst (v := 0) hx hb dL_hands_436 (by decide) ?_
                  obtain ⟨r75, C77, hc76, hF⟩ := b2_t hF
                  refine call_SWE hC (c_L_tryBoiler l (gP G H) (H.size - bb G) (hw.lp hn) (Nat.zero_le _) hfl v62 (0 : Int32) _ _ _ hc76) wwL_151 ⟨rfl, rfl, by decide, by decide⟩ hw hn hS hl.1 rfl (rest := [.int v60]) rfl (Nat.le_of_ble_eq_true rfl) dL_hands_437 ⟨(show kc64 + 2 ≤ 731 by omega), (show ks64 + 12 ≤ 4374 by omega)⟩ (fun H locs hw hS hk => ?_)
                  have hr400 := hr400.kp hn hk
                  refine lv_iadd hx hb dL_hands_440 ?_
                  obtain ⟨v78, ev78, hF⟩ := nm_t hF
                  refine lv_nmi ev78 ?_
                  refine lv_istore (lv' := [(14, .int v78), (16, .ref ra400), (13, .int r57), (12, .int v56), (5, .int v54), (0, .ref (bb G + 0)), (1, .int x1), (2, .int r1), (4, .int r7), (15, .int v61), (17, .int v62)]) hx hb dL_hands_441 hl (by decide) rfl (fun ls hl => ?_)
                  obtain ⟨v79, ev79, hF⟩ := nm_t hF
                  refine lv_iinc (v := v79) (lv' := [(15, .int v79), (14, .int v78), (16, .ref ra400), (13, .int r57), (12, .int v56), (5, .int v54), (0, .ref (bb G + 0)), (1, .int x1), (2, .int r1), (4, .int r7), (17, .int v62)]) hx hb dL_hands_443 hl (k := 9) rfl (by rw [ev79]; rfl) (by decide) rfl (fun ls hl => ?_)
                  refine lv_aload hx hb dL_hands_446 (lv_at hl 2 rfl) ?_
                  refine lv_aload_n hx hb dL_hands_448 rfl (lv_at hl 6 rfl) ?_
                  refine lv_iload hx hb dL_hands_449 (lv_at hl 10 rfl) ?_
                  refine lv_iconst (v := 1) hx hb dL_hands_451 (by decide) ?_
                  obtain ⟨r80, C82, hc81, hF⟩ := b2_t hF
                  refine call_SWE hC (c_L_tryBoiler l (gP G H) (H.size - bb G) (hw.lp hn) (Nat.zero_le _) hfl v62 (1 : Int32) _ _ _ hc81) wwL_151 ⟨rfl, rfl, by decide, by decide⟩ hw hn hS hl.1 rfl (rest := [.ref ra400]) rfl (Nat.le_of_ble_eq_true rfl) dL_hands_452 ⟨(show (kc64 + 2) + 2 ≤ 731 by omega), (show (ks64 + 12) + 12 ≤ 4374 by omega)⟩ (fun H locs hw hS hk => ?_)
                  have hr400 := hr400.kp hn hk
                  refine lv_dup2_11 hx hb dL_hands_455 rfl rfl ?_
                  obtain ⟨g83, hF⟩ := gi_t hF
                  refine r_iald hC hr400 g83 dL_hands_456 ?_
                  refine lv_aload_n hx hb dL_hands_457 rfl (lv_at hl 6 rfl) ?_
                  refine lv_iload hx hb dL_hands_458 (lv_at hl 10 rfl) ?_
                  refine lv_iconst (v := 0) hx hb dL_hands_460 (by decide) ?_
                  obtain ⟨r84, C86, hc85, hF⟩ := b2_t hF
                  refine call_SWE hC (c_L_tryBoiler l (gP G H) (H.size - bb G) (hw.lp hn) (Nat.zero_le _) hfl v62 (0 : Int32) _ _ _ hc85) wwL_151 ⟨rfl, rfl, by decide, by decide⟩ hw hn hS hl.1 rfl (rest := [.int (f65 (r80).toNatClampNeg), .int r80, .ref ra400]) rfl (Nat.le_of_ble_eq_true rfl) dL_hands_461 ⟨(show (kc64 + 4) + 2 ≤ 731 by omega), (show (ks64 + 24) + 12 ≤ 4374 by omega)⟩ (fun H locs hw hS hk => ?_)
                  have hr400 := hr400.kp hn hk
                  refine lv_iadd hx hb dL_hands_464 ?_
                  obtain ⟨g87, hF⟩ := gi_t hF
                  refine r_iast hC hw hn hS hr400 g87 dL_hands_465 (fun H locs hw hS hr400 => ?_)
                  obtain ⟨f88, ef88, hF⟩ := nm_t hF
                  rw [← ef88] at hr400
                  obtain ⟨v89, ev89, hF⟩ := nm_t hF
                  refine lv_iinc (v := v89) (lv' := [(17, .int v89), (15, .int v79), (14, .int v78), (16, .ref ra400), (13, .int r57), (12, .int v56), (5, .int v54), (0, .ref (bb G + 0)), (1, .int x1), (2, .int r1), (4, .int r7)]) hx hb dL_hands_466 hl (k := 10) rfl (by rw [ev89]; rfl) (by decide) rfl (fun ls hl => ?_)
                  refine lv_goto (tgt := 407) hx hb dL_hands_469 (by decide) ?_
                  exact it_back hF hk64 (kc64 + 6) (ks64 + 36) _ _ _ (by omega) (by omega) hw hS hr400 (lv_sub hl [3, 4, 5, 6, 7, 8, 9, 10, 2, 1, 0] rfl)
          refine lv_if_eq (tgt := 370) hx hb dL_hands_269 (by decide) (fun h53 => ?_) (fun h53 => ?_)
          · have hF := it_t h53 hF
            refine lv_iconst (v := 0) hx hb dL_hands_370 (by decide) ?_
            refine W.widen (k := 662) (n := 3964) (by omega) (by omega) ?_
            exact hJ371 (0 : Int32) C52 _ _ _ hF hw hS (lv_sub hl [3, 4, 5, 6] rfl)
          · have hF := it_f h53 hF
            refine lv_iload hx hb dL_hands_272 (lv_at hl 0 rfl) ?_
            refine lv_iconst (v := 4) hx hb dL_hands_274 (by decide) ?_
            have hJ349 : ∀ (C171 : Mem) (H : Heap) (locs : List Loc) (ls : Array Slot), J_L_hands_349 x1 r1 r7 C171 = some (rR, CR) → Wd G n C171 H → LW G s H locs → lv_has ls 25 [(0, .ref (bb G + 0)), (1, .int x1), (2, .int r1), (4, .int r7)] → W p l e (rmX 11 204 731 4374) s m ([.ref (bb G + 0), .int x1] : List Value).toArray below meth c H locs 356 2132 (MQ below (QR G n (some (.int rR)) CR) ([.ref (bb G + 0), .int x1] : List Value).toArray s 731 4374 (frA G)) (F0 m 349 ls []) := by
              intro C171 H locs ls hF hw hS hl
              unfold J_L_hands_349 at hF
              refine lv_aload_n hx hb dL_hands_349 rfl (lv_at hl 0 rfl) ?_
              obtain ⟨r172, C174, hc173, hF⟩ := b2_t hF
              refine call_SNE hC (c_L_sound l (gP G H) (H.size - bb G) (hw.lp hn) (Nat.zero_le _) hfl  _ _ _ hc173) wsL_214 ⟨rfl, rfl, by decide, by decide⟩ hw hn hS hl.1 rfl (rest := []) rfl (Nat.le_of_ble_eq_true rfl) dL_hands_350 ⟨(show 356 + 304 ≤ 731 by omega), (show 2132 + 1820 ≤ 4374 by omega)⟩ (fun H locs hw hS hk => ?_)
              refine lv_if_eq (tgt := 370) hx hb dL_hands_353 (by decide) (fun h175 => ?_) (fun h175 => ?_)
              · have hF := it_t h175 hF
                refine lv_iconst (v := 0) hx hb dL_hands_370 (by decide) ?_
                refine W.widen (k := 662) (n := 3964) (by omega) (by omega) ?_
                exact hJ371 (0 : Int32) C174 _ _ _ hF hw hS (lv_sub hl [0, 1, 2, 3] rfl)
              · have hF := it_f h175 hF
                refine lv_aload_n hx hb dL_hands_356 rfl (lv_at hl 0 rfl) ?_
                refine lv_iconst (v := 0) hx hb dL_hands_357 (by decide) ?_
                obtain ⟨r176, C178, hc177, hF⟩ := b2_t hF
                refine call_SWE hC (c_L_tryRestore l (gP G H) (H.size - bb G) (hw.lp hn) (Nat.zero_le _) hfl (0 : Int32) _ _ _ hc177) wwL_142 ⟨rfl, rfl, by decide, by decide⟩ hw hn hS hl.1 rfl (rest := []) rfl (Nat.le_of_ble_eq_true rfl) dL_hands_358 ⟨(show 660 + 2 ≤ 731 by omega), (show 3952 + 12 ≤ 4374 by omega)⟩ (fun H locs hw hS hk => ?_)
                refine lv_iload hx hb dL_hands_361 (lv_at hl 3 rfl) ?_
                refine lv_icmp_ne (tgt := 370) hx hb dL_hands_363 (by decide) (fun h179 => ?_) (fun h179 => ?_)
                · have hF := it_f h179 hF
                  refine lv_iconst (v := 0) hx hb dL_hands_370 (by decide) ?_
                  exact hJ371 (0 : Int32) C178 _ _ _ hF hw hS (lv_sub hl [0, 1, 2, 3] rfl)
                · have hF := it_t h179 hF
                  refine lv_iconst (v := 1) hx hb dL_hands_366 (by decide) ?_
                  refine lv_goto (tgt := 371) hx hb dL_hands_367 (by decide) ?_
                  exact hJ371 (1 : Int32) C178 _ _ _ hF hw hS (lv_sub hl [0, 1, 2, 3] rfl)
            refine lv_icmp_ne (tgt := 309) hx hb dL_hands_275 (by decide) (fun h170 => ?_) (fun h170 => ?_)
            · have hF := it_f h170 hF
              refine lv_aload_n hx hb dL_hands_309 rfl (lv_at hl 3 rfl) ?_
              refine lv_iload hx hb dL_hands_310 (lv_at hl 1 rfl) ?_
              obtain ⟨r180, C182, hc181, hF⟩ := b2_t hF
              refine call_SWE hC (c_L_tryLock l (gP G H) (H.size - bb G) (hw.lp hn) (Nat.zero_le _) hfl v49 _ _ _ hc181) wwL_170 ⟨rfl, rfl, by decide, by decide⟩ hw hn hS hl.1 rfl (rest := []) rfl (Nat.le_of_ble_eq_true rfl) dL_hands_312 ⟨(show 349 + 2 ≤ 731 by omega), (show 2090 + 12 ≤ 4374 by omega)⟩ (fun H locs hw hS hk => ?_)
              refine lv_iload hx hb dL_hands_315 (lv_at hl 0 rfl) ?_
              refine lv_icmp_ne (tgt := 370) hx hb dL_hands_317 (by decide) (fun h183 => ?_) (fun h183 => ?_)
              · have hF := it_f h183 hF
                refine lv_iconst (v := 0) hx hb dL_hands_370 (by decide) ?_
                refine W.widen (k := 662) (n := 3964) (by omega) (by omega) ?_
                exact hJ371 (0 : Int32) C182 _ _ _ hF hw hS (lv_sub hl [3, 4, 5, 6] rfl)
              · have hF := it_t h183 hF
                refine lv_aload_n hx hb dL_hands_320 rfl (lv_at hl 3 rfl) ?_
                refine lv_iload hx hb dL_hands_321 (lv_at hl 1 rfl) ?_
                obtain ⟨r184, C186, hc185, hF⟩ := b2_t hF
                refine call_SWE hC (c_L_tryWhyNot l (gP G H) (H.size - bb G) (hw.lp hn) (Nat.zero_le _) hfl v49 _ _ _ hc185) wwL_179 ⟨rfl, rfl, by decide, by decide⟩ hw hn hS hl.1 rfl (rest := []) rfl (Nat.le_of_ble_eq_true rfl) dL_hands_323 ⟨(show 351 + 1 ≤ 731 by omega), (show 2102 + 6 ≤ 4374 by omega)⟩ (fun H locs hw hS hk => ?_)
                refine lv_iconst (v := 2) hx hb dL_hands_326 (by decide) ?_
                refine lv_icmp_ne (tgt := 370) hx hb dL_hands_327 (by decide) (fun h187 => ?_) (fun h187 => ?_)
                · have hF := it_f h187 hF
                  refine lv_iconst (v := 0) hx hb dL_hands_370 (by decide) ?_
                  refine W.widen (k := 662) (n := 3964) (by omega) (by omega) ?_
                  exact hJ371 (0 : Int32) C186 _ _ _ hF hw hS (lv_sub hl [3, 4, 5, 6] rfl)
                · have hF := it_t h187 hF
                  refine lv_aload_n hx hb dL_hands_330 rfl (lv_at hl 3 rfl) ?_
                  refine lv_iload hx hb dL_hands_331 (lv_at hl 1 rfl) ?_
                  obtain ⟨r188, C190, hc189, hF⟩ := b2_t hF
                  refine call_SWE hC (c_L_tryUnlock l (gP G H) (H.size - bb G) (hw.lp hn) (Nat.zero_le _) hfl v49 _ _ _ hc189) wwL_173 ⟨rfl, rfl, by decide, by decide⟩ hw hn hS hl.1 rfl (rest := []) rfl (Nat.le_of_ble_eq_true rfl) dL_hands_333 ⟨(show 352 + 2 ≤ 731 by omega), (show 2108 + 12 ≤ 4374 by omega)⟩ (fun H locs hw hS hk => ?_)
                  refine lv_if_lt (tgt := 370) hx hb dL_hands_336 (by decide) (fun h191 => ?_) (fun h191 => ?_)
                  · have hF := it_t h191 hF
                    refine lv_iconst (v := 0) hx hb dL_hands_370 (by decide) ?_
                    refine W.widen (k := 662) (n := 3964) (by omega) (by omega) ?_
                    exact hJ371 (0 : Int32) C190 _ _ _ hF hw hS (lv_sub hl [3, 4, 5, 6] rfl)
                  · have hF := it_f h191 hF
                    refine lv_aload_n hx hb dL_hands_339 rfl (lv_at hl 3 rfl) ?_
                    refine lv_iload hx hb dL_hands_340 (lv_at hl 1 rfl) ?_
                    refine lv_iconst (v := 2) hx hb dL_hands_342 (by decide) ?_
                    obtain ⟨r192, C194, hc193, hF⟩ := b2_t hF
                    refine call_SWE hC (c_L_tryBoiler l (gP G H) (H.size - bb G) (hw.lp hn) (Nat.zero_le _) hfl v49 (2 : Int32) _ _ _ hc193) wwL_151 ⟨rfl, rfl, by decide, by decide⟩ hw hn hS hl.1 rfl (rest := []) rfl (Nat.le_of_ble_eq_true rfl) dL_hands_343 ⟨(show 354 + 2 ≤ 731 by omega), (show 2120 + 12 ≤ 4374 by omega)⟩ (fun H locs hw hS hk => ?_)
                    refine lv_if_ne (tgt := 370) hx hb dL_hands_346 (by decide) (fun h195 => ?_) (fun h195 => ?_)
                    · have hF := it_f h195 hF
                      refine lv_iconst (v := 0) hx hb dL_hands_370 (by decide) ?_
                      refine W.widen (k := 662) (n := 3964) (by omega) (by omega) ?_
                      exact hJ371 (0 : Int32) C194 _ _ _ hF hw hS (lv_sub hl [3, 4, 5, 6] rfl)
                    · have hF := it_t h195 hF
                      exact hJ349 C194 _ _ _ hF hw hS (lv_sub hl [3, 4, 5, 6] rfl)
            · have hF := it_t h170 hF
              refine lv_aload_n hx hb dL_hands_278 rfl (lv_at hl 3 rfl) ?_
              refine lv_iload hx hb dL_hands_279 (lv_at hl 1 rfl) ?_
              obtain ⟨r196, C198, hc197, hF⟩ := b2_t hF
              refine call_SWE hC (c_L_tryUnlock l (gP G H) (H.size - bb G) (hw.lp hn) (Nat.zero_le _) hfl v49 _ _ _ hc197) wwL_173 ⟨rfl, rfl, by decide, by decide⟩ hw hn hS hl.1 rfl (rest := []) rfl (Nat.le_of_ble_eq_true rfl) dL_hands_281 ⟨(show 349 + 2 ≤ 731 by omega), (show 2090 + 12 ≤ 4374 by omega)⟩ (fun H locs hw hS hk => ?_)
              refine lv_if_lt (tgt := 370) hx hb dL_hands_284 (by decide) (fun h199 => ?_) (fun h199 => ?_)
              · have hF := it_t h199 hF
                refine lv_iconst (v := 0) hx hb dL_hands_370 (by decide) ?_
                refine W.widen (k := 662) (n := 3964) (by omega) (by omega) ?_
                exact hJ371 (0 : Int32) C198 _ _ _ hF hw hS (lv_sub hl [3, 4, 5, 6] rfl)
              · have hF := it_f h199 hF
                refine lv_aload_n hx hb dL_hands_287 rfl (lv_at hl 3 rfl) ?_
                refine lv_iload hx hb dL_hands_288 (lv_at hl 1 rfl) ?_
                refine lv_iconst (v := 2) hx hb dL_hands_290 (by decide) ?_
                obtain ⟨r200, C202, hc201, hF⟩ := b2_t hF
                refine call_SWE hC (c_L_tryBoiler l (gP G H) (H.size - bb G) (hw.lp hn) (Nat.zero_le _) hfl v49 (2 : Int32) _ _ _ hc201) wwL_151 ⟨rfl, rfl, by decide, by decide⟩ hw hn hS hl.1 rfl (rest := []) rfl (Nat.le_of_ble_eq_true rfl) dL_hands_291 ⟨(show 351 + 2 ≤ 731 by omega), (show 2102 + 12 ≤ 4374 by omega)⟩ (fun H locs hw hS hk => ?_)
                refine lv_if_ne (tgt := 370) hx hb dL_hands_294 (by decide) (fun h203 => ?_) (fun h203 => ?_)
                · have hF := it_f h203 hF
                  refine lv_iconst (v := 0) hx hb dL_hands_370 (by decide) ?_
                  refine W.widen (k := 662) (n := 3964) (by omega) (by omega) ?_
                  exact hJ371 (0 : Int32) C202 _ _ _ hF hw hS (lv_sub hl [3, 4, 5, 6] rfl)
                · have hF := it_t h203 hF
                  refine lv_aload_n hx hb dL_hands_297 rfl (lv_at hl 3 rfl) ?_
                  refine lv_iload hx hb dL_hands_298 (lv_at hl 1 rfl) ?_
                  obtain ⟨r204, C206, hc205, hF⟩ := b2_t hF
                  refine call_SWE hC (c_L_tryLock l (gP G H) (H.size - bb G) (hw.lp hn) (Nat.zero_le _) hfl v49 _ _ _ hc205) wwL_170 ⟨rfl, rfl, by decide, by decide⟩ hw hn hS hl.1 rfl (rest := []) rfl (Nat.le_of_ble_eq_true rfl) dL_hands_300 ⟨(show 353 + 2 ≤ 731 by omega), (show 2114 + 12 ≤ 4374 by omega)⟩ (fun H locs hw hS hk => ?_)
                  refine lv_if_ne (tgt := 370) hx hb dL_hands_303 (by decide) (fun h207 => ?_) (fun h207 => ?_)
                  · have hF := it_f h207 hF
                    refine lv_iconst (v := 0) hx hb dL_hands_370 (by decide) ?_
                    refine W.widen (k := 662) (n := 3964) (by omega) (by omega) ?_
                    exact hJ371 (0 : Int32) C206 _ _ _ hF hw hS (lv_sub hl [3, 4, 5, 6] rfl)
                  · have hF := it_t h207 hF
                    refine lv_goto (tgt := 349) hx hb dL_hands_306 (by decide) ?_
                    refine W.widen (k := 356) (n := 2132) (by omega) (by omega) ?_
                    exact hJ349 C206 _ _ _ hF hw hS (lv_sub hl [3, 4, 5, 6] rfl)
        refine lv_if_eq (tgt := 248) hx hb dL_hands_181 (by decide) (fun h45 => ?_) (fun h45 => ?_)
        · have hF := it_t h45 hF
          refine lv_iconst (v := 0) hx hb dL_hands_248 (by decide) ?_
          refine W.widen (k := 347) (n := 2078) (by omega) (by omega) ?_
          exact hJ249 (0 : Int32) C31 _ _ _ hF hw hS (lv_sub hl [2, 3, 4, 5] rfl)
        · have hF := it_f h45 hF
          refine lv_aload_n hx hb dL_hands_184 rfl (lv_at hl 2 rfl) ?_
          refine lv_iload hx hb dL_hands_185 (lv_at hl 0 rfl) ?_
          refine lv_iconst (v := 0) hx hb dL_hands_187 (by decide) ?_
          obtain ⟨r208, C210, hc209, hF⟩ := b2_t hF
          refine call_SWE hC (c_L_trySetFlue l (gP G H) (H.size - bb G) (hw.lp hn) (Nat.zero_le _) hfl v24 (0 : Int32) _ _ _ hc209) wwL_163 ⟨rfl, rfl, by decide, by decide⟩ hw hn hS hl.1 rfl (rest := []) rfl (Nat.le_of_ble_eq_true rfl) dL_hands_188 ⟨(show 35 + 1 ≤ 731 by omega), (show 210 + 6 ≤ 4374 by omega)⟩ (fun H locs hw hS hk => ?_)
          refine lv_iload hx hb dL_hands_191 (lv_at hl 6 rfl) ?_
          refine lv_icmp_ne (tgt := 248) hx hb dL_hands_193 (by decide) (fun h211 => ?_) (fun h211 => ?_)
          · have hF := it_f h211 hF
            refine lv_iconst (v := 0) hx hb dL_hands_248 (by decide) ?_
            refine W.widen (k := 347) (n := 2078) (by omega) (by omega) ?_
            exact hJ249 (0 : Int32) C210 _ _ _ hF hw hS (lv_sub hl [2, 3, 4, 5] rfl)
          · have hF := it_t h211 hF
            refine lv_aload_n hx hb dL_hands_196 rfl (lv_at hl 2 rfl) ?_
            refine lv_iload hx hb dL_hands_197 (lv_at hl 0 rfl) ?_
            refine lv_iconst (v := 1) hx hb dL_hands_199 (by decide) ?_
            obtain ⟨r212, C214, hc213, hF⟩ := b2_t hF
            refine call_SWE hC (c_L_tryFlue l (gP G H) (H.size - bb G) (hw.lp hn) (Nat.zero_le _) hfl v24 (1 : Int32) _ _ _ hc213) wwL_135 ⟨rfl, rfl, by decide, by decide⟩ hw hn hS hl.1 rfl (rest := []) rfl (Nat.le_of_ble_eq_true rfl) dL_hands_200 ⟨(show 36 + 2 ≤ 731 by omega), (show 216 + 12 ≤ 4374 by omega)⟩ (fun H locs hw hS hk => ?_)
            refine lv_if_ne (tgt := 248) hx hb dL_hands_203 (by decide) (fun h215 => ?_) (fun h215 => ?_)
            · have hF := it_f h215 hF
              refine lv_iconst (v := 0) hx hb dL_hands_248 (by decide) ?_
              refine W.widen (k := 347) (n := 2078) (by omega) (by omega) ?_
              exact hJ249 (0 : Int32) C214 _ _ _ hF hw hS (lv_sub hl [2, 3, 4, 5] rfl)
            · have hF := it_t h215 hF
              refine lv_aload_n hx hb dL_hands_206 rfl (lv_at hl 2 rfl) ?_
              refine lv_iload hx hb dL_hands_207 (lv_at hl 0 rfl) ?_
              refine lv_iconst (v := 1) hx hb dL_hands_209 (by decide) ?_
              obtain ⟨r216, C218, hc217, hF⟩ := b2_t hF
              refine call_SWE hC (c_L_trySetFlue l (gP G H) (H.size - bb G) (hw.lp hn) (Nat.zero_le _) hfl v24 (1 : Int32) _ _ _ hc217) wwL_163 ⟨rfl, rfl, by decide, by decide⟩ hw hn hS hl.1 rfl (rest := []) rfl (Nat.le_of_ble_eq_true rfl) dL_hands_210 ⟨(show 38 + 1 ≤ 731 by omega), (show 228 + 6 ≤ 4374 by omega)⟩ (fun H locs hw hS hk => ?_)
              refine lv_if_ne (tgt := 248) hx hb dL_hands_213 (by decide) (fun h219 => ?_) (fun h219 => ?_)
              · have hF := it_f h219 hF
                refine lv_iconst (v := 0) hx hb dL_hands_248 (by decide) ?_
                refine W.widen (k := 347) (n := 2078) (by omega) (by omega) ?_
                exact hJ249 (0 : Int32) C218 _ _ _ hF hw hS (lv_sub hl [2, 3, 4, 5] rfl)
              · have hF := it_t h219 hF
                refine lv_aload_n hx hb dL_hands_216 rfl (lv_at hl 2 rfl) ?_
                refine lv_iload hx hb dL_hands_217 (lv_at hl 0 rfl) ?_
                refine lv_iconst (v := 2) hx hb dL_hands_219 (by decide) ?_
                obtain ⟨r220, C222, hc221, hF⟩ := b2_t hF
                refine call_SWE hC (c_L_tryFlue l (gP G H) (H.size - bb G) (hw.lp hn) (Nat.zero_le _) hfl v24 (2 : Int32) _ _ _ hc221) wwL_135 ⟨rfl, rfl, by decide, by decide⟩ hw hn hS hl.1 rfl (rest := []) rfl (Nat.le_of_ble_eq_true rfl) dL_hands_220 ⟨(show 39 + 2 ≤ 731 by omega), (show 234 + 12 ≤ 4374 by omega)⟩ (fun H locs hw hS hk => ?_)
                refine lv_iconst (v := 1) hx hb dL_hands_223 (by decide) ?_
                refine lv_icmp_ne (tgt := 248) hx hb dL_hands_224 (by decide) (fun h223 => ?_) (fun h223 => ?_)
                · have hF := it_f h223 hF
                  refine lv_iconst (v := 0) hx hb dL_hands_248 (by decide) ?_
                  refine W.widen (k := 347) (n := 2078) (by omega) (by omega) ?_
                  exact hJ249 (0 : Int32) C222 _ _ _ hF hw hS (lv_sub hl [2, 3, 4, 5] rfl)
                · have hF := it_t h223 hF
                  refine lv_aload_n hx hb dL_hands_227 rfl (lv_at hl 2 rfl) ?_
                  obtain ⟨r224, C226, hc225, hF⟩ := b2_t hF
                  refine call_SNE hC (c_L_sound l (gP G H) (H.size - bb G) (hw.lp hn) (Nat.zero_le _) hfl  _ _ _ hc225) wsL_214 ⟨rfl, rfl, by decide, by decide⟩ hw hn hS hl.1 rfl (rest := []) rfl (Nat.le_of_ble_eq_true rfl) dL_hands_228 ⟨(show 41 + 304 ≤ 731 by omega), (show 246 + 1820 ≤ 4374 by omega)⟩ (fun H locs hw hS hk => ?_)
                  refine lv_if_eq (tgt := 248) hx hb dL_hands_231 (by decide) (fun h227 => ?_) (fun h227 => ?_)
                  · have hF := it_t h227 hF
                    refine lv_iconst (v := 0) hx hb dL_hands_248 (by decide) ?_
                    refine W.widen (k := 347) (n := 2078) (by omega) (by omega) ?_
                    exact hJ249 (0 : Int32) C226 _ _ _ hF hw hS (lv_sub hl [2, 3, 4, 5] rfl)
                  · have hF := it_f h227 hF
                    refine lv_aload_n hx hb dL_hands_234 rfl (lv_at hl 2 rfl) ?_
                    refine lv_iconst (v := 0) hx hb dL_hands_235 (by decide) ?_
                    obtain ⟨r228, C230, hc229, hF⟩ := b2_t hF
                    refine call_SWE hC (c_L_tryRestore l (gP G H) (H.size - bb G) (hw.lp hn) (Nat.zero_le _) hfl (0 : Int32) _ _ _ hc229) wwL_142 ⟨rfl, rfl, by decide, by decide⟩ hw hn hS hl.1 rfl (rest := []) rfl (Nat.le_of_ble_eq_true rfl) dL_hands_236 ⟨(show 345 + 2 ≤ 731 by omega), (show 2066 + 12 ≤ 4374 by omega)⟩ (fun H locs hw hS hk => ?_)
                    refine lv_iload hx hb dL_hands_239 (lv_at hl 5 rfl) ?_
                    refine lv_icmp_ne (tgt := 248) hx hb dL_hands_241 (by decide) (fun h231 => ?_) (fun h231 => ?_)
                    · have hF := it_f h231 hF
                      refine lv_iconst (v := 0) hx hb dL_hands_248 (by decide) ?_
                      exact hJ249 (0 : Int32) C230 _ _ _ hF hw hS (lv_sub hl [2, 3, 4, 5] rfl)
                    · have hF := it_t h231 hF
                      refine lv_iconst (v := 1) hx hb dL_hands_244 (by decide) ?_
                      refine lv_goto (tgt := 249) hx hb dL_hands_245 (by decide) ?_
                      exact hJ249 (1 : Int32) C230 _ _ _ hF hw hS (lv_sub hl [2, 3, 4, 5] rfl)
      refine iter_soundN (P := fun (w28 : Nat) (x : Int32 × Int32 × Mem) => ∀ (kc28 ks28 : Nat) (H : Heap) (locs : List Loc) (ls : Array Slot), kc28 + 4 * w28 ≤ 35 → ks28 + 24 * w28 ≤ 210 → Wd G n x.2.2 H → LW G s H locs → lv_has ls 25 [(8, .int v24), (5, .int v22), (0, .ref (bb G + 0)), (1, .int x1), (2, .int r1), (4, .int r7), (9, .int x.1), (10, .int x.2.1)] → W p l e (rmX 11 204 731 4374) s m ([.ref (bb G + 0), .int x1] : List Value).toArray below meth c H locs kc28 ks28 (MQ below (QR G n (some (.int rR)) CR) ([.ref (bb G + 0), .int x1] : List Value).toArray s 731 4374 (frA G)) (F0 m 125 ls [])) (X := fun r => r = o28) ?_ 6 ((0 : Int32), (0 : Int32), C23) o28 hit28 rfl 11 66 _ _ _ (by omega) (by omega) hw hS (lv_sub hl [2, 3, 4, 5, 6, 7, 1, 0] rfl)
      intro w28 x oo28 hF hk28 hX28 kc28 ks28 H locs ls hc28 hs28 hw hS hl
      obtain ⟨v25, v26, C27⟩ := x
      have hF : S_L_hands_125 r1 v24 v25 v26 C27 = some oo28 := hF
      have hw : Wd G n C27 H := hw
      have hl : lv_has ls 25 [(8, .int v24), (5, .int v22), (0, .ref (bb G + 0)), (1, .int x1), (2, .int r1), (4, .int r7), (9, .int v25), (10, .int v26)] := hl
      unfold S_L_hands_125 at hF
      refine lv_iload hx hb dL_hands_125 (lv_at hl 7 rfl) ?_
      refine lv_iload_n hx hb dL_hands_127 rfl (lv_at hl 4 rfl) ?_
      refine lv_icmp_ge (tgt := 179) hx hb dL_hands_128 (by decide) (fun h32 => ?_) (fun h32 => ?_)
      · have hF := it_t h32 hF
        refine W.widen (k := 35) (n := 210) (by omega) (by omega) ?_
        exact hR28 _ _ _ _ _ _ (it_exit hF hX28).symm hw hS (lv_sub hl [0, 1, 2, 3, 4, 5, 6] rfl)
      · have hF := it_f h32 hF
        refine lv_aload_n hx hb dL_hands_131 rfl (lv_at hl 2 rfl) ?_
        refine lv_iload hx hb dL_hands_132 (lv_at hl 7 rfl) ?_
        refine lv_iconst (v := 2) hx hb dL_hands_134 (by decide) ?_
        obtain ⟨r33, C35, hc34, hF⟩ := b2_t hF
        refine call_SWE hC (c_L_tryBoiler l (gP G H) (H.size - bb G) (hw.lp hn) (Nat.zero_le _) hfl v26 (2 : Int32) _ _ _ hc34) wwL_151 ⟨rfl, rfl, by decide, by decide⟩ hw hn hS hl.1 rfl (rest := []) rfl (Nat.le_of_ble_eq_true rfl) dL_hands_135 ⟨(show kc28 + 2 ≤ 731 by omega), (show ks28 + 12 ≤ 4374 by omega)⟩ (fun H locs hw hS hk => ?_)
        refine lv_istore (lv' := [(11, .int r33), (8, .int v24), (5, .int v22), (0, .ref (bb G + 0)), (1, .int x1), (2, .int r1), (4, .int r7), (9, .int v25), (10, .int v26)]) hx hb dL_hands_138 hl (by decide) rfl (fun ls hl => ?_)
        refine lv_iload hx hb dL_hands_140 (lv_at hl 7 rfl) ?_
        refine lv_aload_n hx hb dL_hands_142 rfl (lv_at hl 3 rfl) ?_
        refine lv_iload hx hb dL_hands_143 (lv_at hl 8 rfl) ?_
        refine lv_iconst (v := 1) hx hb dL_hands_145 (by decide) ?_
        obtain ⟨r36, C38, hc37, hF⟩ := b2_t hF
        refine call_SWE hC (c_L_tryBoiler l (gP G H) (H.size - bb G) (hw.lp hn) (Nat.zero_le _) hfl v26 (1 : Int32) _ _ _ hc37) wwL_151 ⟨rfl, rfl, by decide, by decide⟩ hw hn hS hl.1 rfl (rest := [.int v25]) rfl (Nat.le_of_ble_eq_true rfl) dL_hands_146 ⟨(show (kc28 + 2) + 2 ≤ 731 by omega), (show (ks28 + 12) + 12 ≤ 4374 by omega)⟩ (fun H locs hw hS hk => ?_)
        refine lv_iload hx hb dL_hands_149 (lv_at hl 1 rfl) ?_
        have hJ170 : ∀ (v40 : Int32) (H : Heap) (locs : List Loc) (ls : Array Slot), J_L_hands_170 v25 v26 C38 v40 = some oo28 → Wd G n C38 H → LW G s H locs → lv_has ls 25 [(0, .ref (bb G + 0)), (1, .int x1), (2, .int r1), (4, .int r7), (5, .int v22), (8, .int v24), (10, .int v26)] → W p l e (rmX 11 204 731 4374) s m ([.ref (bb G + 0), .int x1] : List Value).toArray below meth c H locs (kc28 + 4) (ks28 + 24) (MQ below (QR G n (some (.int rR)) CR) ([.ref (bb G + 0), .int x1] : List Value).toArray s 731 4374 (frA G)) (F0 m 170 ls [.int v40, .int v25]) := by
          intro v40 H locs ls hF hw hS hl
          unfold J_L_hands_170 at hF
          refine lv_iadd hx hb dL_hands_170 ?_
          obtain ⟨v41, ev41, hF⟩ := nm_t hF
          refine lv_nmi ev41 ?_
          refine lv_istore (lv' := [(9, .int v41), (0, .ref (bb G + 0)), (1, .int x1), (2, .int r1), (4, .int r7), (5, .int v22), (8, .int v24), (10, .int v26)]) hx hb dL_hands_171 hl (by decide) rfl (fun ls hl => ?_)
          obtain ⟨v42, ev42, hF⟩ := nm_t hF
          refine lv_iinc (v := v42) (lv' := [(10, .int v42), (9, .int v41), (0, .ref (bb G + 0)), (1, .int x1), (2, .int r1), (4, .int r7), (5, .int v22), (8, .int v24)]) hx hb dL_hands_173 hl (k := 7) rfl (by rw [ev42]; rfl) (by decide) rfl (fun ls hl => ?_)
          refine lv_goto (tgt := 125) hx hb dL_hands_176 (by decide) ?_
          exact it_back hF hk28 (kc28 + 4) (ks28 + 24) _ _ _ (by omega) (by omega) hw hS (lv_sub hl [7, 6, 2, 3, 4, 5, 1, 0] rfl)
        refine lv_icmp_ne (tgt := 169) hx hb dL_hands_151 (by decide) (fun h39 => ?_) (fun h39 => ?_)
        · have hF := it_f h39 hF
          refine lv_iconst (v := 0) hx hb dL_hands_169 (by decide) ?_
          exact hJ170 (0 : Int32) _ _ _ hF hw hS (lv_sub hl [3, 4, 5, 6, 2, 1, 8] rfl)
        · have hF := it_t h39 hF
          refine lv_iload hx hb dL_hands_154 (lv_at hl 0 rfl) ?_
          refine lv_if_le (tgt := 169) hx hb dL_hands_156 (by decide) (fun h43 => ?_) (fun h43 => ?_)
          · have hF := it_t h43 hF
            refine lv_iconst (v := 0) hx hb dL_hands_169 (by decide) ?_
            exact hJ170 (0 : Int32) _ _ _ hF hw hS (lv_sub hl [3, 4, 5, 6, 2, 1, 8] rfl)
          · have hF := it_f h43 hF
            refine lv_iload hx hb dL_hands_159 (lv_at hl 0 rfl) ?_
            refine lv_iconst (v := 4) hx hb dL_hands_161 (by decide) ?_
            refine lv_icmp_ge (tgt := 169) hx hb dL_hands_162 (by decide) (fun h44 => ?_) (fun h44 => ?_)
            · have hF := it_t h44 hF
              refine lv_iconst (v := 0) hx hb dL_hands_169 (by decide) ?_
              exact hJ170 (0 : Int32) _ _ _ hF hw hS (lv_sub hl [3, 4, 5, 6, 2, 1, 8] rfl)
            · have hF := it_f h44 hF
              refine lv_iconst (v := 1) hx hb dL_hands_165 (by decide) ?_
              refine lv_goto (tgt := 170) hx hb dL_hands_166 (by decide) ?_
              exact hJ170 (1 : Int32) _ _ _ hF hw hS (lv_sub hl [3, 4, 5, 6, 2, 1, 8] rfl)
    refine lv_if_eq (tgt := 111) hx hb dL_hands_57 (by decide) (fun h21 => ?_) (fun h21 => ?_)
    · have hF := it_t h21 hF
      refine lv_iconst (v := 0) hx hb dL_hands_111 (by decide) ?_
      refine W.widen (k := 11) (n := 66) (by omega) (by omega) ?_
      exact hJ112 (0 : Int32) C20 _ _ _ hF hw hS (lv_sub hl [3, 4, 5, 7] rfl)
    · have hF := it_f h21 hF
      refine lv_aload_n hx hb dL_hands_60 rfl (lv_at hl 3 rfl) ?_
      refine lv_iconst (v := 1) hx hb dL_hands_61 (by decide) ?_
      obtain ⟨r232, C234, hc233, hF⟩ := b2_t hF
      refine call_SWE hC (c_L_tryDraw l (gP G H) (H.size - bb G) (hw.lp hn) (Nat.zero_le _) hfl (1 : Int32) _ _ _ hc233) wwL_157 ⟨rfl, rfl, by decide, by decide⟩ hw hn hS hl.1 rfl (rest := []) rfl (Nat.le_of_ble_eq_true rfl) dL_hands_62 ⟨(show 6 + 1 ≤ 731 by omega), (show 36 + 6 ≤ 4374 by omega)⟩ (fun H locs hw hS hk => ?_)
      refine lv_iload hx hb dL_hands_65 (lv_at hl 1 rfl) ?_
      refine lv_icmp_ne (tgt := 111) hx hb dL_hands_67 (by decide) (fun h235 => ?_) (fun h235 => ?_)
      · have hF := it_f h235 hF
        refine lv_iconst (v := 0) hx hb dL_hands_111 (by decide) ?_
        refine W.widen (k := 11) (n := 66) (by omega) (by omega) ?_
        exact hJ112 (0 : Int32) C234 _ _ _ hF hw hS (lv_sub hl [3, 4, 5, 7] rfl)
      · have hF := it_t h235 hF
        refine lv_aload_n hx hb dL_hands_70 rfl (lv_at hl 3 rfl) ?_
        refine lv_iconst (v := 0) hx hb dL_hands_71 (by decide) ?_
        obtain ⟨r236, C238, hc237, hF⟩ := b2_t hF
        refine call_SWE hC (c_L_tryLayer l (gP G H) (H.size - bb G) (hw.lp hn) (Nat.zero_le _) hfl (0 : Int32) _ _ _ hc237) wwL_132 ⟨rfl, rfl, by decide, by decide⟩ hw hn hS hl.1 rfl (rest := []) rfl (Nat.le_of_ble_eq_true rfl) dL_hands_72 ⟨(show 7 + 1 ≤ 731 by omega), (show 42 + 6 ≤ 4374 by omega)⟩ (fun H locs hw hS hk => ?_)
        refine lv_bipush (v := 10) hx hb dL_hands_75 (by decide) ?_
        refine lv_icmp_ne (tgt := 111) hx hb dL_hands_77 (by decide) (fun h239 => ?_) (fun h239 => ?_)
        · have hF := it_f h239 hF
          refine lv_iconst (v := 0) hx hb dL_hands_111 (by decide) ?_
          refine W.widen (k := 11) (n := 66) (by omega) (by omega) ?_
          exact hJ112 (0 : Int32) C238 _ _ _ hF hw hS (lv_sub hl [3, 4, 5, 7] rfl)
        · have hF := it_t h239 hF
          refine lv_aload_n hx hb dL_hands_80 rfl (lv_at hl 3 rfl) ?_
          refine lv_iconst (v := 1) hx hb dL_hands_81 (by decide) ?_
          obtain ⟨r240, C242, hc241, hF⟩ := b2_t hF
          refine call_SWE hC (c_L_tryLayer l (gP G H) (H.size - bb G) (hw.lp hn) (Nat.zero_le _) hfl (1 : Int32) _ _ _ hc241) wwL_132 ⟨rfl, rfl, by decide, by decide⟩ hw hn hS hl.1 rfl (rest := []) rfl (Nat.le_of_ble_eq_true rfl) dL_hands_82 ⟨(show 8 + 1 ≤ 731 by omega), (show 48 + 6 ≤ 4374 by omega)⟩ (fun H locs hw hS hk => ?_)
          refine lv_iload hx hb dL_hands_85 (lv_at hl 0 rfl) ?_
          refine lv_icmp_ne (tgt := 111) hx hb dL_hands_87 (by decide) (fun h243 => ?_) (fun h243 => ?_)
          · have hF := it_f h243 hF
            refine lv_iconst (v := 0) hx hb dL_hands_111 (by decide) ?_
            refine W.widen (k := 11) (n := 66) (by omega) (by omega) ?_
            exact hJ112 (0 : Int32) C242 _ _ _ hF hw hS (lv_sub hl [3, 4, 5, 7] rfl)
          · have hF := it_t h243 hF
            refine lv_aload_n hx hb dL_hands_90 rfl (lv_at hl 3 rfl) ?_
            obtain ⟨r244, C246, hc245, hF⟩ := b2_t hF
            refine call_SWE hC (c_L_tryUndo l (gP G H) (H.size - bb G) (hw.lp hn) (Nat.zero_le _) hfl  _ _ _ hc245) wwL_139 ⟨rfl, rfl, by decide, by decide⟩ hw hn hS hl.1 rfl (rest := []) rfl (Nat.le_of_ble_eq_true rfl) dL_hands_91 ⟨(show 9 + 1 ≤ 731 by omega), (show 54 + 6 ≤ 4374 by omega)⟩ (fun H locs hw hS hk => ?_)
            refine lv_if_lt (tgt := 111) hx hb dL_hands_94 (by decide) (fun h247 => ?_) (fun h247 => ?_)
            · have hF := it_t h247 hF
              refine lv_iconst (v := 0) hx hb dL_hands_111 (by decide) ?_
              refine W.widen (k := 11) (n := 66) (by omega) (by omega) ?_
              exact hJ112 (0 : Int32) C246 _ _ _ hF hw hS (lv_sub hl [3, 4, 5, 7] rfl)
            · have hF := it_f h247 hF
              refine lv_aload_n hx hb dL_hands_97 rfl (lv_at hl 3 rfl) ?_
              refine lv_iconst (v := 0) hx hb dL_hands_98 (by decide) ?_
              obtain ⟨r248, C250, hc249, hF⟩ := b2_t hF
              refine call_SWE hC (c_L_tryLayer l (gP G H) (H.size - bb G) (hw.lp hn) (Nat.zero_le _) hfl (0 : Int32) _ _ _ hc249) wwL_132 ⟨rfl, rfl, by decide, by decide⟩ hw hn hS hl.1 rfl (rest := []) rfl (Nat.le_of_ble_eq_true rfl) dL_hands_99 ⟨(show 10 + 1 ≤ 731 by omega), (show 60 + 6 ≤ 4374 by omega)⟩ (fun H locs hw hS hk => ?_)
              refine lv_iload hx hb dL_hands_102 (lv_at hl 0 rfl) ?_
              refine lv_icmp_ne (tgt := 111) hx hb dL_hands_104 (by decide) (fun h251 => ?_) (fun h251 => ?_)
              · have hF := it_f h251 hF
                refine lv_iconst (v := 0) hx hb dL_hands_111 (by decide) ?_
                exact hJ112 (0 : Int32) C250 _ _ _ hF hw hS (lv_sub hl [3, 4, 5, 7] rfl)
              · have hF := it_t h251 hF
                refine lv_iconst (v := 1) hx hb dL_hands_107 (by decide) ?_
                refine lv_goto (tgt := 112) hx hb dL_hands_108 (by decide) ?_
                exact hJ112 (1 : Int32) C250 _ _ _ hF hw hS (lv_sub hl [3, 4, 5, 7] rfl)
  refine lv_icmp_ne (tgt := 36) hx hb dL_hands_29 (by decide) (fun h13 => ?_) (fun h13 => ?_)
  · have hF := it_f h13 hF
    refine lv_iconst (v := 0) hx hb dL_hands_36 (by decide) ?_
    exact hJ37 (0 : Int32) _ _ _ hF hw hS (lv_sub hl [3, 4, 2, 1, 0] rfl)
  · have hF := it_t h13 hF
    refine lv_iconst (v := 1) hx hb dL_hands_32 (by decide) ?_
    refine lv_goto (tgt := 37) hx hb dL_hands_33 (by decide) ?_
    exact hJ37 (1 : Int32) _ _ _ hF hw hS (lv_sub hl [3, 4, 2, 1, 0] rfl)
