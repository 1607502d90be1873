/-! contracts of the law's methods, by program out of the bytecode -/
theorem kcL_222 : Cond.constantLong RL 222 137 ∈ lw_g := lg 938 (by decide +kernel) rfl
theorem kcL_224 : Cond.constantLong RL 224 70000 ∈ lw_g := lg 939 (by decide +kernel) rfl
theorem kcL_226 : Cond.constantLong RL 226 70001 ∈ lw_g := lg 940 (by decide +kernel) rfl
theorem kcL_228 : Cond.constantLong RL 228 80000 ∈ lw_g := lg 941 (by decide +kernel) rfl
theorem kcL_230 : Cond.constantLong RL 230 1000 ∈ lw_g := lg 942 (by decide +kernel) rfl
theorem kcL_232 : Cond.constantLong RL 232 80005 ∈ lw_g := lg 943 (by decide +kernel) rfl
theorem kcL_234 : Cond.constantLong RL 234 90000 ∈ lw_g := lg 944 (by decide +kernel) rfl
theorem kcL_236 : Cond.constantLong RL 236 50000 ∈ lw_g := lg 945 (by decide +kernel) rfl
theorem kcL_238 : Cond.constantLong RL 238 60000 ∈ lw_g := lg 946 (by decide +kernel) rfl
theorem kcL_240 : Cond.constantLong RL 240 10000 ∈ lw_g := lg 947 (by decide +kernel) rfl
theorem kcL_242 : Cond.constantLong RL 242 10097 ∈ lw_g := lg 948 (by decide +kernel) rfl
theorem kcL_244 : Cond.constantLong RL 244 16001 ∈ lw_g := lg 949 (by decide +kernel) rfl
theorem kcL_246 : Cond.constantLong RL 246 20000 ∈ lw_g := lg 950 (by decide +kernel) rfl
theorem kcL_248 : Cond.constantLong RL 248 20021 ∈ lw_g := lg 951 (by decide +kernel) rfl
theorem kcL_250 : Cond.constantLong RL 250 2002070000 ∈ lw_g := lg 952 (by decide +kernel) rfl
theorem kcL_252 : Cond.constantLong RL 252 30039 ∈ lw_g := lg 953 (by decide +kernel) rfl
theorem kcL_254 : Cond.constantLong RL 254 30040 ∈ lw_g := lg 954 (by decide +kernel) rfl
theorem kcL_256 : Cond.constantLong RL 256 42000 ∈ lw_g := lg 955 (by decide +kernel) rfl
theorem kcL_258 : Cond.constantLong RL 258 40002 ∈ lw_g := lg 956 (by decide +kernel) rfl
theorem kcL_260 : Cond.constantLong RL 260 41001 ∈ lw_g := lg 957 (by decide +kernel) rfl
set_option maxHeartbeats 4000000 in
set_option maxRecDepth 100000 in
theorem c_L_scripts (l : Launch) (G : GG) (n : Nat) (hn : 244 ≤ n) (hn2 : 0 ≤ n) (hfl : l.stackTraces = false) (x1 : Int32) (C : Mem) (rR : Int32) (CR : Mem) (hF : F_L_scripts x1 C = some (rR, CR)) : CtN l yL_scripts cL_scripts 9 (some .boolean) (rmX 9 194 47 282) 47 282 G n C [.ref (bb G + 0), .int x1] (some (.int rR)) CR := by
  refine CtN.of (by decide) (Nat.le_of_ble_eq_true rfl) ?_
  intro p e s m below meth c ls hC hr hlk hw hl
  have hx := hC.1
  have hb := hC.2.1
  have hS : LW G s s.heap [] := va_S.rf
  have hl : lv_has ls 9 [(0, .ref (bb G + 0)), (1, .int x1)] := hl
  unfold F_L_scripts at hF
  suffices key : ∀ (H : Heap) (locs : List Loc), Wd G n C H → LW G s H locs → W p l e (rmX 9 194 47 282) s m ([.ref (bb G + 0), .int x1] : List Value).toArray below meth c H locs 0 0 (MQ below (QR G n (some (.int rR)) CR) ([.ref (bb G + 0), .int x1] : List Value).toArray s 47 282 (frA G)) (F0 m 0 ls []) by exact key _ _ hw hS
  intro H locs hw hS
  refine lv_aload_n hx hb dL_scripts_0 rfl (lv_at hl 0 rfl) ?_
  refine lv_bipush (v := 9) hx hb dL_scripts_1 (by decide) ?_
  obtain ⟨r1, C3, hc2, hF⟩ := b2_t hF
  refine call_SWE hC (c_L_tryAbout l (gP G H) (H.size - bb G) (hw.lp hn) (Nat.zero_le _) hfl (9 : Int32) _ _ _ hc2) wwL_129 ⟨rfl, rfl, by decide, by decide⟩ hw hn hS hl.1 rfl (rest := []) rfl (Nat.le_of_ble_eq_true rfl) dL_scripts_3 ⟨(show 0 + 1 ≤ 47 by omega), (show 0 + 6 ≤ 282 by omega)⟩ (fun H locs hw hS hk => ?_)
  refine lv_istore_n (lv' := [(2, .int r1), (0, .ref (bb G + 0)), (1, .int x1)]) hx hb dL_scripts_6 rfl hl (by decide) rfl (fun ls hl => ?_)
  refine lv_aload_n hx hb dL_scripts_7 rfl (lv_at hl 1 rfl) ?_
  refine lv_bipush (v := 6) hx hb dL_scripts_8 (by decide) ?_
  obtain ⟨r4, C6, hc5, hF⟩ := b2_t hF
  refine call_SWE hC (c_L_tryAbout l (gP G H) (H.size - bb G) (hw.lp hn) (Nat.zero_le _) hfl (6 : Int32) _ _ _ hc5) wwL_129 ⟨rfl, rfl, by decide, by decide⟩ hw hn hS hl.1 rfl (rest := []) rfl (Nat.le_of_ble_eq_true rfl) dL_scripts_10 ⟨(show 1 + 1 ≤ 47 by omega), (show 6 + 6 ≤ 282 by omega)⟩ (fun H locs hw hS hk => ?_)
  refine lv_istore_n (lv' := [(3, .int r4), (2, .int r1), (0, .ref (bb G + 0)), (1, .int x1)]) hx hb dL_scripts_13 rfl hl (by decide) rfl (fun ls hl => ?_)
  refine lv_iload_n hx hb dL_scripts_14 rfl (lv_at hl 3 rfl) ?_
  refine lv_iload_n hx hb dL_scripts_15 rfl (lv_at hl 0 rfl) ?_
  obtain ⟨g7, hF⟩ := gz_t hF
  refine lv_irem hx hb dL_scripts_16 g7 ?_
  obtain ⟨v8, ev8, hF⟩ := nm_t hF
  refine lv_nmi ev8 ?_
  refine lv_istore (lv' := [(4, .int v8), (3, .int r4), (2, .int r1), (0, .ref (bb G + 0)), (1, .int x1)]) hx hb dL_scripts_17 hl (by decide) rfl (fun ls hl => ?_)
  refine lv_aload_n hx hb dL_scripts_19 rfl (lv_at hl 3 rfl) ?_
  refine lv_iload hx hb dL_scripts_20 (lv_at hl 0 rfl) ?_
  refine lv_iconst (v := 2) hx hb dL_scripts_22 (by decide) ?_
  obtain ⟨r9, C11, hc10, hF⟩ := b2_t hF
  refine call_SWE hC (c_L_tryBoiler l (gP G H) (H.size - bb G) (hw.lp hn) (Nat.zero_le _) hfl v8 (2 : Int32) _ _ _ hc10) wwL_151 ⟨rfl, rfl, by decide, by decide⟩ hw hn hS hl.1 rfl (rest := []) rfl (Nat.le_of_ble_eq_true rfl) dL_scripts_23 ⟨(show 2 + 2 ≤ 47 by omega), (show 12 + 12 ≤ 282 by omega)⟩ (fun H locs hw hS hk => ?_)
  refine lv_istore (lv' := [(5, .int r9), (4, .int v8), (3, .int r4), (2, .int r1), (0, .ref (bb G + 0)), (1, .int x1)]) hx hb dL_scripts_26 hl (by decide) rfl (fun ls hl => ?_)
  refine lv_aload_n hx hb dL_scripts_28 rfl (lv_at hl 4 rfl) ?_
  refine lv_bipush (v := 14) hx hb dL_scripts_29 (by decide) ?_
  obtain ⟨r12, C14, hc13, hF⟩ := b2_t hF
  refine call_SWE hC (c_L_tryAbout l (gP G H) (H.size - bb G) (hw.lp hn) (Nat.zero_le _) hfl (14 : Int32) _ _ _ hc13) wwL_129 ⟨rfl, rfl, by decide, by decide⟩ hw hn hS hl.1 rfl (rest := []) rfl (Nat.le_of_ble_eq_true rfl) dL_scripts_31 ⟨(show 4 + 1 ≤ 47 by omega), (show 24 + 6 ≤ 282 by omega)⟩ (fun H locs hw hS hk => ?_)
  refine lv_istore (lv' := [(6, .int r12), (5, .int r9), (4, .int v8), (3, .int r4), (2, .int r1), (0, .ref (bb G + 0)), (1, .int x1)]) hx hb dL_scripts_34 hl (by decide) rfl (fun ls hl => ?_)
  refine lv_aload_n hx hb dL_scripts_36 rfl (lv_at hl 5 rfl) ?_
  refine lv_iload_n hx hb dL_scripts_37 rfl (lv_at hl 6 rfl) ?_
  refine lv_i2l (v := (x1).toInt64) hx hb dL_scripts_38 rfl ?_
  refine lv_ldc2 (v := 137) hx hb hC.2.2.2.1 (hC.2.2.2.2.1 _ kcL_222) dL_scripts_39 ?_
  refine lv_lmul hx hb dL_scripts_42 ?_
  refine lv_bipush (v := 20) hx hb dL_scripts_43 (by decide) ?_
  obtain ⟨r15, C17, hc16, hF⟩ := b2_t hF
  refine call_SWE hC (c_L_trySimulate l (gP G H) (H.size - bb G) (hw.lp hn) (Nat.zero_le _) hfl (((x1).toInt64) * (137 : Int64)) (20 : Int32) _ _ _ hc16) wwL_204 ⟨rfl, rfl, by decide, by decide⟩ hw hn hS hl.1 rfl (rest := []) rfl (Nat.le_of_ble_eq_true rfl) dL_scripts_45 ⟨(show 5 + 1 ≤ 47 by omega), (show 30 + 6 ≤ 282 by omega)⟩ (fun H locs hw hS hk => ?_)
  refine lv_istore (lv' := [(7, .int r15), (6, .int r12), (5, .int r9), (4, .int v8), (3, .int r4), (2, .int r1), (0, .ref (bb G + 0)), (1, .int x1)]) hx hb dL_scripts_48 hl (by decide) rfl (fun ls hl => ?_)
  refine lv_aload_n hx hb dL_scripts_50 rfl (lv_at hl 6 rfl) ?_
  refine lv_iconst (v := 1) hx hb dL_scripts_51 (by decide) ?_
  refine lv_ldc2 (v := 70000) hx hb hC.2.2.2.1 (hC.2.2.2.2.1 _ kcL_224) dL_scripts_52 ?_
  refine lv_iload_n hx hb dL_scripts_55 rfl (lv_at hl 5 rfl) ?_
  refine lv_i2l (v := (r1).toInt64) hx hb dL_scripts_56 rfl ?_
  refine lv_ladd hx hb dL_scripts_57 ?_
  obtain ⟨r18, C20, hc19, hF⟩ := b2_t hF
  refine call_SWE hC (c_L_tryScript l (gP G H) (H.size - bb G) (hw.lp hn) (Nat.zero_le _) hfl (1 : Int32) ((70000 : Int64) + ((r1).toInt64)) _ _ _ hc19) wwL_198 ⟨rfl, rfl, by decide, by decide⟩ hw hn hS hl.1 rfl (rest := []) rfl (Nat.le_of_ble_eq_true rfl) dL_scripts_58 ⟨(show 6 + 2 ≤ 47 by omega), (show 36 + 12 ≤ 282 by omega)⟩ (fun H locs hw hS hk => ?_)
  refine lv_bipush (v := -9) hx hb dL_scripts_61 (by decide) ?_
  have hJ254 : ∀ (v22 : Int32) (C23 : Mem) (H : Heap) (locs : List Loc) (ls : Array Slot), J_L_scripts_254 x1 r4 r15 v22 C23 = some (rR, CR) → Wd G n C23 H → LW G s H locs → lv_has ls 9 [(0, .ref (bb G + 0)), (1, .int x1), (3, .int r4), (7, .int r15)] → W p l e (rmX 9 194 47 282) s m ([.ref (bb G + 0), .int x1] : List Value).toArray below meth c H locs 26 156 (MQ below (QR G n (some (.int rR)) CR) ([.ref (bb G + 0), .int x1] : List Value).toArray s 47 282 (frA G)) (F0 m 254 ls [.int v22]) := by
    intro v22 C23 H locs ls hF hw hS hl
    unfold J_L_scripts_254 at hF
    refine lv_istore (lv' := [(8, .int v22), (0, .ref (bb G + 0)), (1, .int x1), (3, .int r4), (7, .int r15)]) hx hb dL_scripts_254 hl (by decide) rfl (fun ls hl => ?_)
    refine lv_iload hx hb dL_scripts_256 (lv_at hl 0 rfl) ?_
    refine lv_if_eq (tgt := 408) hx hb dL_scripts_258 (by decide) (fun h24 => ?_) (fun h24 => ?_)
    · have hF := it_t h24 hF
      refine lv_iconst (v := 0) hx hb dL_scripts_408 (by decide) ?_
      exact m_zretN hC hr hlk hw hS (by decide) (by decide) dL_scripts_409 (by decide) hF
    · have hF := it_f h24 hF
      refine lv_aload_n hx hb dL_scripts_261 rfl (lv_at hl 1 rfl) ?_
      refine lv_iconst (v := 1) hx hb dL_scripts_262 (by decide) ?_
      refine lv_ldc2 (v := 20000) hx hb hC.2.2.2.1 (hC.2.2.2.2.1 _ kcL_246) dL_scripts_263 ?_
      obtain ⟨r25, C27, hc26, hF⟩ := b2_t hF
      refine call_SWE hC (c_L_tryScript l (gP G H) (H.size - bb G) (hw.lp hn) (Nat.zero_le _) hfl (1 : Int32) (20000 : Int64) _ _ _ hc26) wwL_198 ⟨rfl, rfl, by decide, by decide⟩ hw hn hS hl.1 rfl (rest := []) rfl (Nat.le_of_ble_eq_true rfl) dL_scripts_266 ⟨(show 26 + 2 ≤ 47 by omega), (show 156 + 12 ≤ 282 by omega)⟩ (fun H locs hw hS hk => ?_)
      refine lv_if_ne (tgt := 408) hx hb dL_scripts_269 (by decide) (fun h28 => ?_) (fun h28 => ?_)
      · have hF := it_f h28 hF
        refine lv_iconst (v := 0) hx hb dL_scripts_408 (by decide) ?_
        exact m_zretN hC hr hlk hw hS (by decide) (by decide) dL_scripts_409 (by decide) hF
      · have hF := it_t h28 hF
        refine lv_aload_n hx hb dL_scripts_272 rfl (lv_at hl 1 rfl) ?_
        refine lv_iconst (v := 1) hx hb dL_scripts_273 (by decide) ?_
        refine lv_ldc2 (v := 20021) hx hb hC.2.2.2.1 (hC.2.2.2.2.1 _ kcL_248) dL_scripts_274 ?_
        obtain ⟨r29, C31, hc30, hF⟩ := b2_t hF
        refine call_SWE hC (c_L_tryScript l (gP G H) (H.size - bb G) (hw.lp hn) (Nat.zero_le _) hfl (1 : Int32) (20021 : Int64) _ _ _ hc30) wwL_198 ⟨rfl, rfl, by decide, by decide⟩ hw hn hS hl.1 rfl (rest := []) rfl (Nat.le_of_ble_eq_true rfl) dL_scripts_277 ⟨(show 28 + 2 ≤ 47 by omega), (show 168 + 12 ≤ 282 by omega)⟩ (fun H locs hw hS hk => ?_)
        refine lv_if_ne (tgt := 408) hx hb dL_scripts_280 (by decide) (fun h32 => ?_) (fun h32 => ?_)
        · have hF := it_f h32 hF
          refine lv_iconst (v := 0) hx hb dL_scripts_408 (by decide) ?_
          exact m_zretN hC hr hlk hw hS (by decide) (by decide) dL_scripts_409 (by decide) hF
        · have hF := it_t h32 hF
          refine lv_aload_n hx hb dL_scripts_283 rfl (lv_at hl 1 rfl) ?_
          refine lv_iconst (v := 2) hx hb dL_scripts_284 (by decide) ?_
          refine lv_ldc2 (v := 2002070000) hx hb hC.2.2.2.1 (hC.2.2.2.2.1 _ kcL_250) dL_scripts_285 ?_
          obtain ⟨r33, C35, hc34, hF⟩ := b2_t hF
          refine call_SWE hC (c_L_tryScript l (gP G H) (H.size - bb G) (hw.lp hn) (Nat.zero_le _) hfl (2 : Int32) (2002070000 : Int64) _ _ _ hc34) wwL_198 ⟨rfl, rfl, by decide, by decide⟩ hw hn hS hl.1 rfl (rest := []) rfl (Nat.le_of_ble_eq_true rfl) dL_scripts_288 ⟨(show 30 + 2 ≤ 47 by omega), (show 180 + 12 ≤ 282 by omega)⟩ (fun H locs hw hS hk => ?_)
          refine lv_bipush (v := -9) hx hb dL_scripts_291 (by decide) ?_
          refine lv_icmp_ne (tgt := 408) hx hb dL_scripts_293 (by decide) (fun h36 => ?_) (fun h36 => ?_)
          · have hF := it_f h36 hF
            refine lv_iconst (v := 0) hx hb dL_scripts_408 (by decide) ?_
            exact m_zretN hC hr hlk hw hS (by decide) (by decide) dL_scripts_409 (by decide) hF
          · have hF := it_t h36 hF
            refine lv_aload_n hx hb dL_scripts_296 rfl (lv_at hl 1 rfl) ?_
            refine lv_iconst (v := 1) hx hb dL_scripts_297 (by decide) ?_
            refine lv_ldc2 (v := 30039) hx hb hC.2.2.2.1 (hC.2.2.2.2.1 _ kcL_252) dL_scripts_298 ?_
            obtain ⟨r37, C39, hc38, hF⟩ := b2_t hF
            refine call_SWE hC (c_L_tryScript l (gP G H) (H.size - bb G) (hw.lp hn) (Nat.zero_le _) hfl (1 : Int32) (30039 : Int64) _ _ _ hc38) wwL_198 ⟨rfl, rfl, by decide, by decide⟩ hw hn hS hl.1 rfl (rest := []) rfl (Nat.le_of_ble_eq_true rfl) dL_scripts_301 ⟨(show 32 + 2 ≤ 47 by omega), (show 192 + 12 ≤ 282 by omega)⟩ (fun H locs hw hS hk => ?_)
            refine lv_if_ne (tgt := 408) hx hb dL_scripts_304 (by decide) (fun h40 => ?_) (fun h40 => ?_)
            · have hF := it_f h40 hF
              refine lv_iconst (v := 0) hx hb dL_scripts_408 (by decide) ?_
              exact m_zretN hC hr hlk hw hS (by decide) (by decide) dL_scripts_409 (by decide) hF
            · have hF := it_t h40 hF
              refine lv_aload_n hx hb dL_scripts_307 rfl (lv_at hl 1 rfl) ?_
              refine lv_iconst (v := 1) hx hb dL_scripts_308 (by decide) ?_
              refine lv_ldc2 (v := 30040) hx hb hC.2.2.2.1 (hC.2.2.2.2.1 _ kcL_254) dL_scripts_309 ?_
              obtain ⟨r41, C43, hc42, hF⟩ := b2_t hF
              refine call_SWE hC (c_L_tryScript l (gP G H) (H.size - bb G) (hw.lp hn) (Nat.zero_le _) hfl (1 : Int32) (30040 : Int64) _ _ _ hc42) wwL_198 ⟨rfl, rfl, by decide, by decide⟩ hw hn hS hl.1 rfl (rest := []) rfl (Nat.le_of_ble_eq_true rfl) dL_scripts_312 ⟨(show 34 + 2 ≤ 47 by omega), (show 204 + 12 ≤ 282 by omega)⟩ (fun H locs hw hS hk => ?_)
              refine lv_bipush (v := -9) hx hb dL_scripts_315 (by decide) ?_
              refine lv_icmp_ne (tgt := 408) hx hb dL_scripts_317 (by decide) (fun h44 => ?_) (fun h44 => ?_)
              · have hF := it_f h44 hF
                refine lv_iconst (v := 0) hx hb dL_scripts_408 (by decide) ?_
                exact m_zretN hC hr hlk hw hS (by decide) (by decide) dL_scripts_409 (by decide) hF
              · have hF := it_t h44 hF
                refine lv_aload_n hx hb dL_scripts_320 rfl (lv_at hl 1 rfl) ?_
                refine lv_iconst (v := 1) hx hb dL_scripts_321 (by decide) ?_
                refine lv_ldc2 (v := 42000) hx hb hC.2.2.2.1 (hC.2.2.2.2.1 _ kcL_256) dL_scripts_322 ?_
                obtain ⟨r45, C47, hc46, hF⟩ := b2_t hF
                refine call_SWE hC (c_L_tryScript l (gP G H) (H.size - bb G) (hw.lp hn) (Nat.zero_le _) hfl (1 : Int32) (42000 : Int64) _ _ _ hc46) wwL_198 ⟨rfl, rfl, by decide, by decide⟩ hw hn hS hl.1 rfl (rest := []) rfl (Nat.le_of_ble_eq_true rfl) dL_scripts_325 ⟨(show 36 + 2 ≤ 47 by omega), (show 216 + 12 ≤ 282 by omega)⟩ (fun H locs hw hS hk => ?_)
                refine lv_if_ne (tgt := 408) hx hb dL_scripts_328 (by decide) (fun h48 => ?_) (fun h48 => ?_)
                · have hF := it_f h48 hF
                  refine lv_iconst (v := 0) hx hb dL_scripts_408 (by decide) ?_
                  exact m_zretN hC hr hlk hw hS (by decide) (by decide) dL_scripts_409 (by decide) hF
                · have hF := it_t h48 hF
                  refine lv_aload_n hx hb dL_scripts_331 rfl (lv_at hl 1 rfl) ?_
                  refine lv_iconst (v := 1) hx hb dL_scripts_332 (by decide) ?_
                  refine lv_ldc2 (v := 40002) hx hb hC.2.2.2.1 (hC.2.2.2.2.1 _ kcL_258) dL_scripts_333 ?_
                  obtain ⟨r49, C51, hc50, hF⟩ := b2_t hF
                  refine call_SWE hC (c_L_tryScript l (gP G H) (H.size - bb G) (hw.lp hn) (Nat.zero_le _) hfl (1 : Int32) (40002 : Int64) _ _ _ hc50) wwL_198 ⟨rfl, rfl, by decide, by decide⟩ hw hn hS hl.1 rfl (rest := []) rfl (Nat.le_of_ble_eq_true rfl) dL_scripts_336 ⟨(show 38 + 2 ≤ 47 by omega), (show 228 + 12 ≤ 282 by omega)⟩ (fun H locs hw hS hk => ?_)
                  refine lv_if_ne (tgt := 408) hx hb dL_scripts_339 (by decide) (fun h52 => ?_) (fun h52 => ?_)
                  · have hF := it_f h52 hF
                    refine lv_iconst (v := 0) hx hb dL_scripts_408 (by decide) ?_
                    exact m_zretN hC hr hlk hw hS (by decide) (by decide) dL_scripts_409 (by decide) hF
                  · have hF := it_t h52 hF
                    refine lv_aload_n hx hb dL_scripts_342 rfl (lv_at hl 1 rfl) ?_
                    refine lv_iconst (v := 1) hx hb dL_scripts_343 (by decide) ?_
                    refine lv_ldc2 (v := 41001) hx hb hC.2.2.2.1 (hC.2.2.2.2.1 _ kcL_260) dL_scripts_344 ?_
                    obtain ⟨r53, C55, hc54, hF⟩ := b2_t hF
                    refine call_SWE hC (c_L_tryScript l (gP G H) (H.size - bb G) (hw.lp hn) (Nat.zero_le _) hfl (1 : Int32) (41001 : Int64) _ _ _ hc54) wwL_198 ⟨rfl, rfl, by decide, by decide⟩ hw hn hS hl.1 rfl (rest := []) rfl (Nat.le_of_ble_eq_true rfl) dL_scripts_347 ⟨(show 40 + 2 ≤ 47 by omega), (show 240 + 12 ≤ 282 by omega)⟩ (fun H locs hw hS hk => ?_)
                    refine lv_bipush (v := -9) hx hb dL_scripts_350 (by decide) ?_
                    refine lv_icmp_ne (tgt := 408) hx hb dL_scripts_352 (by decide) (fun h56 => ?_) (fun h56 => ?_)
                    · have hF := it_f h56 hF
                      refine lv_iconst (v := 0) hx hb dL_scripts_408 (by decide) ?_
                      exact m_zretN hC hr hlk hw hS (by decide) (by decide) dL_scripts_409 (by decide) hF
                    · have hF := it_t h56 hF
                      refine lv_aload_n hx hb dL_scripts_355 rfl (lv_at hl 1 rfl) ?_
                      refine lv_iconst (v := 1) hx hb dL_scripts_356 (by decide) ?_
                      refine lv_ldc2 (v := 50000) hx hb hC.2.2.2.1 (hC.2.2.2.2.1 _ kcL_236) dL_scripts_357 ?_
                      refine lv_ldc2 (v := 1000) hx hb hC.2.2.2.1 (hC.2.2.2.2.1 _ kcL_230) dL_scripts_360 ?_
                      refine lv_iload_n hx hb dL_scripts_363 rfl (lv_at hl 3 rfl) ?_
                      refine lv_i2l (v := (r4).toInt64) hx hb dL_scripts_364 rfl ?_
                      refine lv_lmul hx hb dL_scripts_365 ?_
                      refine lv_ladd hx hb dL_scripts_366 ?_
                      obtain ⟨r57, C59, hc58, hF⟩ := b2_t hF
                      refine call_SWE hC (c_L_tryScript l (gP G H) (H.size - bb G) (hw.lp hn) (Nat.zero_le _) hfl (1 : Int32) ((50000 : Int64) + ((1000 : Int64) * ((r4).toInt64))) _ _ _ hc58) wwL_198 ⟨rfl, rfl, by decide, by decide⟩ hw hn hS hl.1 rfl (rest := []) rfl (Nat.le_of_ble_eq_true rfl) dL_scripts_367 ⟨(show 42 + 2 ≤ 47 by omega), (show 252 + 12 ≤ 282 by omega)⟩ (fun H locs hw hS hk => ?_)
                      refine lv_if_ne (tgt := 408) hx hb dL_scripts_370 (by decide) (fun h60 => ?_) (fun h60 => ?_)
                      · have hF := it_f h60 hF
                        refine lv_iconst (v := 0) hx hb dL_scripts_408 (by decide) ?_
                        exact m_zretN hC hr hlk hw hS (by decide) (by decide) dL_scripts_409 (by decide) hF
                      · have hF := it_t h60 hF
                        refine lv_aload_n hx hb dL_scripts_373 rfl (lv_at hl 1 rfl) ?_
                        refine lv_iconst (v := 1) hx hb dL_scripts_374 (by decide) ?_
                        refine lv_lconst (v := 0) hx hb dL_scripts_375 (by decide) ?_
                        obtain ⟨r61, C63, hc62, hF⟩ := b2_t hF
                        refine call_SWE hC (c_L_tryScript l (gP G H) (H.size - bb G) (hw.lp hn) (Nat.zero_le _) hfl (1 : Int32) (0 : Int64) _ _ _ hc62) wwL_198 ⟨rfl, rfl, by decide, by decide⟩ hw hn hS hl.1 rfl (rest := []) rfl (Nat.le_of_ble_eq_true rfl) dL_scripts_376 ⟨(show 44 + 2 ≤ 47 by omega), (show 264 + 12 ≤ 282 by omega)⟩ (fun H locs hw hS hk => ?_)
                        refine lv_if_ne (tgt := 408) hx hb dL_scripts_379 (by decide) (fun h64 => ?_) (fun h64 => ?_)
                        · have hF := it_f h64 hF
                          refine lv_iconst (v := 0) hx hb dL_scripts_408 (by decide) ?_
                          exact m_zretN hC hr hlk hw hS (by decide) (by decide) dL_scripts_409 (by decide) hF
                        · have hF := it_t h64 hF
                          refine lv_iload hx hb dL_scripts_382 (lv_at hl 4 rfl) ?_
                          refine lv_if_lt (tgt := 408) hx hb dL_scripts_384 (by decide) (fun h65 => ?_) (fun h65 => ?_)
                          · have hF := it_t h65 hF
                            refine lv_iconst (v := 0) hx hb dL_scripts_408 (by decide) ?_
                            exact m_zretN hC hr hlk hw hS (by decide) (by decide) dL_scripts_409 (by decide) hF
                          · have hF := it_f h65 hF
                            refine lv_iload hx hb dL_scripts_387 (lv_at hl 4 rfl) ?_
                            refine lv_aload_n hx hb dL_scripts_389 rfl (lv_at hl 1 rfl) ?_
                            refine lv_iload_n hx hb dL_scripts_390 rfl (lv_at hl 2 rfl) ?_
                            refine lv_i2l (v := (x1).toInt64) hx hb dL_scripts_391 rfl ?_
                            refine lv_ldc2 (v := 137) hx hb hC.2.2.2.1 (hC.2.2.2.2.1 _ kcL_222) dL_scripts_392 ?_
                            refine lv_lmul hx hb dL_scripts_395 ?_
                            refine lv_bipush (v := 20) hx hb dL_scripts_396 (by decide) ?_
                            obtain ⟨r66, C68, hc67, hF⟩ := b2_t hF
                            refine call_SWE hC (c_L_trySimulate l (gP G H) (H.size - bb G) (hw.lp hn) (Nat.zero_le _) hfl (((x1).toInt64) * (137 : Int64)) (20 : Int32) _ _ _ hc67) wwL_204 ⟨rfl, rfl, by decide, by decide⟩ hw hn hS hl.1 rfl (rest := [.int r15]) rfl (Nat.le_of_ble_eq_true rfl) dL_scripts_398 ⟨(show 46 + 1 ≤ 47 by omega), (show 276 + 6 ≤ 282 by omega)⟩ (fun H locs hw hS hk => ?_)
                            refine lv_icmp_ne (tgt := 408) hx hb dL_scripts_401 (by decide) (fun h69 => ?_) (fun h69 => ?_)
                            · have hF := it_f h69 hF
                              refine lv_iconst (v := 0) hx hb dL_scripts_408 (by decide) ?_
                              exact m_zretN hC hr hlk hw hS (by decide) (by decide) dL_scripts_409 (by decide) hF
                            · have hF := it_t h69 hF
                              refine lv_iconst (v := 1) hx hb dL_scripts_404 (by decide) ?_
                              refine lv_goto (tgt := 409) hx hb dL_scripts_405 (by decide) ?_
                              exact m_zretN hC hr hlk hw hS (by decide) (by decide) dL_scripts_409 (by decide) hF
  refine lv_icmp_ne (tgt := 253) hx hb dL_scripts_63 (by decide) (fun h21 => ?_) (fun h21 => ?_)
  · have hF := it_f h21 hF
    refine lv_iconst (v := 0) hx hb dL_scripts_253 (by decide) ?_
    refine W.widen (k := 26) (n := 156) (by omega) (by omega) ?_
    exact hJ254 (0 : Int32) C20 _ _ _ hF hw hS (lv_sub hl [6, 7, 4, 0] rfl)
  · have hF := it_t h21 hF
    refine lv_iload_n hx hb dL_scripts_66 rfl (lv_at hl 5 rfl) ?_
    refine lv_bipush (v := 99) hx hb dL_scripts_67 (by decide) ?_
    have hJ86 : ∀ (C71 : Mem) (H : Heap) (locs : List Loc) (ls : Array Slot), J_L_scripts_86 x1 r4 v8 r9 r12 r15 C71 = some (rR, CR) → Wd G n C71 H → LW G s H locs → lv_has ls 9 [(0, .ref (bb G + 0)), (1, .int x1), (3, .int r4), (4, .int v8), (5, .int r9), (6, .int r12), (7, .int r15)] → W p l e (rmX 9 194 47 282) s m ([.ref (bb G + 0), .int x1] : List Value).toArray below meth c H locs 10 60 (MQ below (QR G n (some (.int rR)) CR) ([.ref (bb G + 0), .int x1] : List Value).toArray s 47 282 (frA G)) (F0 m 86 ls []) := by
      intro C71 H locs ls hF hw hS hl
      unfold J_L_scripts_86 at hF
      refine lv_aload_n hx hb dL_scripts_86 rfl (lv_at hl 0 rfl) ?_
      refine lv_iconst (v := 1) hx hb dL_scripts_87 (by decide) ?_
      refine lv_ldc2 (v := 80000) hx hb hC.2.2.2.1 (hC.2.2.2.2.1 _ kcL_228) dL_scripts_88 ?_
      refine lv_ldc2 (v := 1000) hx hb hC.2.2.2.1 (hC.2.2.2.2.1 _ kcL_230) dL_scripts_91 ?_
      refine lv_iload hx hb dL_scripts_94 (lv_at hl 3 rfl) ?_
      refine lv_i2l (v := (v8).toInt64) hx hb dL_scripts_96 rfl ?_
      refine lv_lmul hx hb dL_scripts_97 ?_
      refine lv_ladd hx hb dL_scripts_98 ?_
      refine lv_iload hx hb dL_scripts_99 (lv_at hl 4 rfl) ?_
      refine lv_i2l (v := (r9).toInt64) hx hb dL_scripts_101 rfl ?_
      refine lv_ladd hx hb dL_scripts_102 ?_
      obtain ⟨r72, C74, hc73, hF⟩ := b2_t hF
      refine call_SWE hC (c_L_tryScript l (gP G H) (H.size - bb G) (hw.lp hn) (Nat.zero_le _) hfl (1 : Int32) (((80000 : Int64) + ((1000 : Int64) * ((v8).toInt64))) + ((r9).toInt64)) _ _ _ hc73) wwL_198 ⟨rfl, rfl, by decide, by decide⟩ hw hn hS hl.1 rfl (rest := []) rfl (Nat.le_of_ble_eq_true rfl) dL_scripts_103 ⟨(show 10 + 2 ≤ 47 by omega), (show 60 + 12 ≤ 282 by omega)⟩ (fun H locs hw hS hk => ?_)
      refine lv_bipush (v := -9) hx hb dL_scripts_106 (by decide) ?_
      refine lv_icmp_ne (tgt := 253) hx hb dL_scripts_108 (by decide) (fun h75 => ?_) (fun h75 => ?_)
      · have hF := it_f h75 hF
        refine lv_iconst (v := 0) hx hb dL_scripts_253 (by decide) ?_
        refine W.widen (k := 26) (n := 156) (by omega) (by omega) ?_
        exact hJ254 (0 : Int32) C74 _ _ _ hF hw hS (lv_sub hl [0, 1, 2, 6] rfl)
      · have hF := it_t h75 hF
        refine lv_aload_n hx hb dL_scripts_111 rfl (lv_at hl 0 rfl) ?_
        refine lv_iconst (v := 1) hx hb dL_scripts_112 (by decide) ?_
        refine lv_ldc2 (v := 80005) hx hb hC.2.2.2.1 (hC.2.2.2.2.1 _ kcL_232) dL_scripts_113 ?_
        refine lv_ldc2 (v := 1000) hx hb hC.2.2.2.1 (hC.2.2.2.2.1 _ kcL_230) dL_scripts_116 ?_
        refine lv_iload hx hb dL_scripts_119 (lv_at hl 3 rfl) ?_
        refine lv_i2l (v := (v8).toInt64) hx hb dL_scripts_121 rfl ?_
        refine lv_lmul hx hb dL_scripts_122 ?_
        refine lv_ladd hx hb dL_scripts_123 ?_
        obtain ⟨r76, C78, hc77, hF⟩ := b2_t hF
        refine call_SWE hC (c_L_tryScript l (gP G H) (H.size - bb G) (hw.lp hn) (Nat.zero_le _) hfl (1 : Int32) ((80005 : Int64) + ((1000 : Int64) * ((v8).toInt64))) _ _ _ hc77) wwL_198 ⟨rfl, rfl, by decide, by decide⟩ hw hn hS hl.1 rfl (rest := []) rfl (Nat.le_of_ble_eq_true rfl) dL_scripts_124 ⟨(show 12 + 2 ≤ 47 by omega), (show 72 + 12 ≤ 282 by omega)⟩ (fun H locs hw hS hk => ?_)
        refine lv_if_ne (tgt := 253) hx hb dL_scripts_127 (by decide) (fun h79 => ?_) (fun h79 => ?_)
        · have hF := it_f h79 hF
          refine lv_iconst (v := 0) hx hb dL_scripts_253 (by decide) ?_
          refine W.widen (k := 26) (n := 156) (by omega) (by omega) ?_
          exact hJ254 (0 : Int32) C78 _ _ _ hF hw hS (lv_sub hl [0, 1, 2, 6] rfl)
        · have hF := it_t h79 hF
          refine lv_iload hx hb dL_scripts_130 (lv_at hl 5 rfl) ?_
          refine lv_bipush (v := 9) hx hb dL_scripts_132 (by decide) ?_
          have hJ154 : ∀ (C81 : Mem) (H : Heap) (locs : List Loc) (ls : Array Slot), J_L_scripts_154 x1 r4 v8 r9 r15 C81 = some (rR, CR) → Wd G n C81 H → LW G s H locs → lv_has ls 9 [(0, .ref (bb G + 0)), (1, .int x1), (3, .int r4), (4, .int v8), (5, .int r9), (7, .int r15)] → W p l e (rmX 9 194 47 282) s m ([.ref (bb G + 0), .int x1] : List Value).toArray below meth c H locs 16 96 (MQ below (QR G n (some (.int rR)) CR) ([.ref (bb G + 0), .int x1] : List Value).toArray s 47 282 (frA G)) (F0 m 154 ls []) := by
            intro C81 H locs ls hF hw hS hl
            unfold J_L_scripts_154 at hF
            refine lv_aload_n hx hb dL_scripts_154 rfl (lv_at hl 0 rfl) ?_
            refine lv_iconst (v := 1) hx hb dL_scripts_155 (by decide) ?_
            refine lv_ldc2 (v := 50000) hx hb hC.2.2.2.1 (hC.2.2.2.2.1 _ kcL_236) dL_scripts_156 ?_
            refine lv_ldc2 (v := 1000) hx hb hC.2.2.2.1 (hC.2.2.2.2.1 _ kcL_230) dL_scripts_159 ?_
            refine lv_iload hx hb dL_scripts_162 (lv_at hl 3 rfl) ?_
            refine lv_i2l (v := (v8).toInt64) hx hb dL_scripts_164 rfl ?_
            refine lv_lmul hx hb dL_scripts_165 ?_
            refine lv_ladd hx hb dL_scripts_166 ?_
            obtain ⟨r82, C84, hc83, hF⟩ := b2_t hF
            refine call_SWE hC (c_L_tryScript l (gP G H) (H.size - bb G) (hw.lp hn) (Nat.zero_le _) hfl (1 : Int32) ((50000 : Int64) + ((1000 : Int64) * ((v8).toInt64))) _ _ _ hc83) wwL_198 ⟨rfl, rfl, by decide, by decide⟩ hw hn hS hl.1 rfl (rest := []) rfl (Nat.le_of_ble_eq_true rfl) dL_scripts_167 ⟨(show 16 + 2 ≤ 47 by omega), (show 96 + 12 ≤ 282 by omega)⟩ (fun H locs hw hS hk => ?_)
            refine lv_iload hx hb dL_scripts_170 (lv_at hl 4 rfl) ?_
            refine lv_iconst (v := 4) hx hb dL_scripts_172 (by decide) ?_
            have hJ182 : ∀ (v86 : Int32) (H : Heap) (locs : List Loc) (ls : Array Slot), J_L_scripts_182 x1 r4 v8 r9 r15 r82 C84 v86 = some (rR, CR) → Wd G n C84 H → LW G s H locs → lv_has ls 9 [(0, .ref (bb G + 0)), (1, .int x1), (3, .int r4), (4, .int v8), (5, .int r9), (7, .int r15)] → W p l e (rmX 9 194 47 282) s m ([.ref (bb G + 0), .int x1] : List Value).toArray below meth c H locs 18 108 (MQ below (QR G n (some (.int rR)) CR) ([.ref (bb G + 0), .int x1] : List Value).toArray s 47 282 (frA G)) (F0 m 182 ls [.int v86, .int r82]) := by
              intro v86 H locs ls hF hw hS hl
              unfold J_L_scripts_182 at hF
              refine lv_icmp_ne (tgt := 253) hx hb dL_scripts_182 (by decide) (fun h87 => ?_) (fun h87 => ?_)
              · have hF := it_f h87 hF
                refine lv_iconst (v := 0) hx hb dL_scripts_253 (by decide) ?_
                refine W.widen (k := 26) (n := 156) (by omega) (by omega) ?_
                exact hJ254 (0 : Int32) C84 _ _ _ hF hw hS (lv_sub hl [0, 1, 2, 5] rfl)
              · have hF := it_t h87 hF
                refine lv_aload_n hx hb dL_scripts_185 rfl (lv_at hl 0 rfl) ?_
                refine lv_iconst (v := 1) hx hb dL_scripts_186 (by decide) ?_
                refine lv_ldc2 (v := 60000) hx hb hC.2.2.2.1 (hC.2.2.2.2.1 _ kcL_238) dL_scripts_187 ?_
                refine lv_ldc2 (v := 1000) hx hb hC.2.2.2.1 (hC.2.2.2.2.1 _ kcL_230) dL_scripts_190 ?_
                refine lv_iload hx hb dL_scripts_193 (lv_at hl 3 rfl) ?_
                refine lv_i2l (v := (v8).toInt64) hx hb dL_scripts_195 rfl ?_
                refine lv_lmul hx hb dL_scripts_196 ?_
                refine lv_ladd hx hb dL_scripts_197 ?_
                obtain ⟨r88, C90, hc89, hF⟩ := b2_t hF
                refine call_SWE hC (c_L_tryScript l (gP G H) (H.size - bb G) (hw.lp hn) (Nat.zero_le _) hfl (1 : Int32) ((60000 : Int64) + ((1000 : Int64) * ((v8).toInt64))) _ _ _ hc89) wwL_198 ⟨rfl, rfl, by decide, by decide⟩ hw hn hS hl.1 rfl (rest := []) rfl (Nat.le_of_ble_eq_true rfl) dL_scripts_198 ⟨(show 18 + 2 ≤ 47 by omega), (show 108 + 12 ≤ 282 by omega)⟩ (fun H locs hw hS hk => ?_)
                refine lv_iload hx hb dL_scripts_201 (lv_at hl 4 rfl) ?_
                refine lv_iconst (v := 4) hx hb dL_scripts_203 (by decide) ?_
                have hJ213 : ∀ (v92 : Int32) (H : Heap) (locs : List Loc) (ls : Array Slot), J_L_scripts_213 x1 r4 r15 r88 C90 v92 = some (rR, CR) → Wd G n C90 H → LW G s H locs → lv_has ls 9 [(0, .ref (bb G + 0)), (1, .int x1), (3, .int r4), (7, .int r15)] → W p l e (rmX 9 194 47 282) s m ([.ref (bb G + 0), .int x1] : List Value).toArray below meth c H locs 20 120 (MQ below (QR G n (some (.int rR)) CR) ([.ref (bb G + 0), .int x1] : List Value).toArray s 47 282 (frA G)) (F0 m 213 ls [.int v92, .int r88]) := by
                  intro v92 H locs ls hF hw hS hl
                  unfold J_L_scripts_213 at hF
                  refine lv_icmp_ne (tgt := 253) hx hb dL_scripts_213 (by decide) (fun h93 => ?_) (fun h93 => ?_)
                  · have hF := it_f h93 hF
                    refine lv_iconst (v := 0) hx hb dL_scripts_253 (by decide) ?_
                    refine W.widen (k := 26) (n := 156) (by omega) (by omega) ?_
                    exact hJ254 (0 : Int32) C90 _ _ _ hF hw hS (lv_sub hl [0, 1, 2, 3] rfl)
                  · have hF := it_t h93 hF
                    refine lv_aload_n hx hb dL_scripts_216 rfl (lv_at hl 0 rfl) ?_
                    refine lv_iconst (v := 1) hx hb dL_scripts_217 (by decide) ?_
                    refine lv_ldc2 (v := 10000) hx hb hC.2.2.2.1 (hC.2.2.2.2.1 _ kcL_240) dL_scripts_218 ?_
                    obtain ⟨r94, C96, hc95, hF⟩ := b2_t hF
                    refine call_SWE hC (c_L_tryScript l (gP G H) (H.size - bb G) (hw.lp hn) (Nat.zero_le _) hfl (1 : Int32) (10000 : Int64) _ _ _ hc95) wwL_198 ⟨rfl, rfl, by decide, by decide⟩ hw hn hS hl.1 rfl (rest := []) rfl (Nat.le_of_ble_eq_true rfl) dL_scripts_221 ⟨(show 20 + 2 ≤ 47 by omega), (show 120 + 12 ≤ 282 by omega)⟩ (fun H locs hw hS hk => ?_)
                    refine lv_if_ne (tgt := 253) hx hb dL_scripts_224 (by decide) (fun h97 => ?_) (fun h97 => ?_)
                    · have hF := it_f h97 hF
                      refine lv_iconst (v := 0) hx hb dL_scripts_253 (by decide) ?_
                      refine W.widen (k := 26) (n := 156) (by omega) (by omega) ?_
                      exact hJ254 (0 : Int32) C96 _ _ _ hF hw hS (lv_sub hl [0, 1, 2, 3] rfl)
                    · have hF := it_t h97 hF
                      refine lv_aload_n hx hb dL_scripts_227 rfl (lv_at hl 0 rfl) ?_
                      refine lv_iconst (v := 1) hx hb dL_scripts_228 (by decide) ?_
                      refine lv_ldc2 (v := 10097) hx hb hC.2.2.2.1 (hC.2.2.2.2.1 _ kcL_242) dL_scripts_229 ?_
                      obtain ⟨r98, C100, hc99, hF⟩ := b2_t hF
                      refine call_SWE hC (c_L_tryScript l (gP G H) (H.size - bb G) (hw.lp hn) (Nat.zero_le _) hfl (1 : Int32) (10097 : Int64) _ _ _ hc99) wwL_198 ⟨rfl, rfl, by decide, by decide⟩ hw hn hS hl.1 rfl (rest := []) rfl (Nat.le_of_ble_eq_true rfl) dL_scripts_232 ⟨(show 22 + 2 ≤ 47 by omega), (show 132 + 12 ≤ 282 by omega)⟩ (fun H locs hw hS hk => ?_)
                      refine lv_if_ne (tgt := 253) hx hb dL_scripts_235 (by decide) (fun h101 => ?_) (fun h101 => ?_)
                      · have hF := it_f h101 hF
                        refine lv_iconst (v := 0) hx hb dL_scripts_253 (by decide) ?_
                        refine W.widen (k := 26) (n := 156) (by omega) (by omega) ?_
                        exact hJ254 (0 : Int32) C100 _ _ _ hF hw hS (lv_sub hl [0, 1, 2, 3] rfl)
                      · have hF := it_t h101 hF
                        refine lv_aload_n hx hb dL_scripts_238 rfl (lv_at hl 0 rfl) ?_
                        refine lv_iconst (v := 1) hx hb dL_scripts_239 (by decide) ?_
                        refine lv_ldc2 (v := 16001) hx hb hC.2.2.2.1 (hC.2.2.2.2.1 _ kcL_244) dL_scripts_240 ?_
                        obtain ⟨r102, C104, hc103, hF⟩ := b2_t hF
                        refine call_SWE hC (c_L_tryScript l (gP G H) (H.size - bb G) (hw.lp hn) (Nat.zero_le _) hfl (1 : Int32) (16001 : Int64) _ _ _ hc103) wwL_198 ⟨rfl, rfl, by decide, by decide⟩ hw hn hS hl.1 rfl (rest := []) rfl (Nat.le_of_ble_eq_true rfl) dL_scripts_243 ⟨(show 24 + 2 ≤ 47 by omega), (show 144 + 12 ≤ 282 by omega)⟩ (fun H locs hw hS hk => ?_)
                        refine lv_if_ne (tgt := 253) hx hb dL_scripts_246 (by decide) (fun h105 => ?_) (fun h105 => ?_)
                        · have hF := it_f h105 hF
                          refine lv_iconst (v := 0) hx hb dL_scripts_253 (by decide) ?_
                          exact hJ254 (0 : Int32) C104 _ _ _ hF hw hS (lv_sub hl [0, 1, 2, 3] rfl)
                        · have hF := it_t h105 hF
                          refine lv_iconst (v := 1) hx hb dL_scripts_249 (by decide) ?_
                          refine lv_goto (tgt := 254) hx hb dL_scripts_250 (by decide) ?_
                          exact hJ254 (1 : Int32) C104 _ _ _ hF hw hS (lv_sub hl [0, 1, 2, 3] rfl)
                refine lv_icmp_ne (tgt := 212) hx hb dL_scripts_204 (by decide) (fun h91 => ?_) (fun h91 => ?_)
                · have hF := it_f h91 hF
                  refine lv_iconst (v := 0) hx hb dL_scripts_212 (by decide) ?_
                  exact hJ213 (0 : Int32) _ _ _ hF hw hS (lv_sub hl [0, 1, 2, 5] rfl)
                · have hF := it_t h91 hF
                  refine lv_bipush (v := -9) hx hb dL_scripts_207 (by decide) ?_
                  refine lv_goto (tgt := 213) hx hb dL_scripts_209 (by decide) ?_
                  exact hJ213 (-9 : Int32) _ _ _ hF hw hS (lv_sub hl [0, 1, 2, 5] rfl)
            refine lv_icmp_ne (tgt := 180) hx hb dL_scripts_173 (by decide) (fun h85 => ?_) (fun h85 => ?_)
            · have hF := it_f h85 hF
              refine lv_bipush (v := -9) hx hb dL_scripts_180 (by decide) ?_
              exact hJ182 (-9 : Int32) _ _ _ hF hw hS (lv_sub hl [0, 1, 2, 3, 4, 5] rfl)
            · have hF := it_t h85 hF
              refine lv_iconst (v := 0) hx hb dL_scripts_176 (by decide) ?_
              refine lv_goto (tgt := 182) hx hb dL_scripts_177 (by decide) ?_
              exact hJ182 (0 : Int32) _ _ _ hF hw hS (lv_sub hl [0, 1, 2, 3, 4, 5] rfl)
          refine lv_icmp_gt (tgt := 154) hx hb dL_scripts_134 (by decide) (fun h80 => ?_) (fun h80 => ?_)
          · have hF := it_t h80 hF
            refine W.widen (k := 16) (n := 96) (by omega) (by omega) ?_
            exact hJ154 C78 _ _ _ hF hw hS (lv_sub hl [0, 1, 2, 3, 4, 6] rfl)
          · have hF := it_f h80 hF
            refine lv_aload_n hx hb dL_scripts_137 rfl (lv_at hl 0 rfl) ?_
            refine lv_iconst (v := 1) hx hb dL_scripts_138 (by decide) ?_
            refine lv_ldc2 (v := 90000) hx hb hC.2.2.2.1 (hC.2.2.2.2.1 _ kcL_234) dL_scripts_139 ?_
            refine lv_iload hx hb dL_scripts_142 (lv_at hl 5 rfl) ?_
            refine lv_i2l (v := (r12).toInt64) hx hb dL_scripts_144 rfl ?_
            refine lv_ladd hx hb dL_scripts_145 ?_
            obtain ⟨r106, C108, hc107, hF⟩ := b2_t hF
            refine call_SWE hC (c_L_tryScript l (gP G H) (H.size - bb G) (hw.lp hn) (Nat.zero_le _) hfl (1 : Int32) ((90000 : Int64) + ((r12).toInt64)) _ _ _ hc107) wwL_198 ⟨rfl, rfl, by decide, by decide⟩ hw hn hS hl.1 rfl (rest := []) rfl (Nat.le_of_ble_eq_true rfl) dL_scripts_146 ⟨(show 14 + 2 ≤ 47 by omega), (show 84 + 12 ≤ 282 by omega)⟩ (fun H locs hw hS hk => ?_)
            refine lv_bipush (v := -9) hx hb dL_scripts_149 (by decide) ?_
            refine lv_icmp_ne (tgt := 253) hx hb dL_scripts_151 (by decide) (fun h109 => ?_) (fun h109 => ?_)
            · have hF := it_f h109 hF
              refine lv_iconst (v := 0) hx hb dL_scripts_253 (by decide) ?_
              refine W.widen (k := 26) (n := 156) (by omega) (by omega) ?_
              exact hJ254 (0 : Int32) C108 _ _ _ hF hw hS (lv_sub hl [0, 1, 2, 6] rfl)
            · have hF := it_t h109 hF
              exact hJ154 C108 _ _ _ hF hw hS (lv_sub hl [0, 1, 2, 3, 4, 6] rfl)
    refine lv_icmp_eq (tgt := 86) hx hb dL_scripts_69 (by decide) (fun h70 => ?_) (fun h70 => ?_)
    · have hF := it_t h70 hF
      refine W.widen (k := 10) (n := 60) (by omega) (by omega) ?_
      exact hJ86 C20 _ _ _ hF hw hS (lv_sub hl [6, 7, 4, 3, 2, 1, 0] rfl)
    · have hF := it_f h70 hF
      refine lv_aload_n hx hb dL_scripts_72 rfl (lv_at hl 6 rfl) ?_
      refine lv_iconst (v := 1) hx hb dL_scripts_73 (by decide) ?_
      refine lv_ldc2 (v := 70001) hx hb hC.2.2.2.1 (hC.2.2.2.2.1 _ kcL_226) dL_scripts_74 ?_
      refine lv_iload_n hx hb dL_scripts_77 rfl (lv_at hl 5 rfl) ?_
      refine lv_i2l (v := (r1).toInt64) hx hb dL_scripts_78 rfl ?_
      refine lv_ladd hx hb dL_scripts_79 ?_
      obtain ⟨r110, C112, hc111, hF⟩ := b2_t hF
      refine call_SWE hC (c_L_tryScript l (gP G H) (H.size - bb G) (hw.lp hn) (Nat.zero_le _) hfl (1 : Int32) ((70001 : Int64) + ((r1).toInt64)) _ _ _ hc111) wwL_198 ⟨rfl, rfl, by decide, by decide⟩ hw hn hS hl.1 rfl (rest := []) rfl (Nat.le_of_ble_eq_true rfl) dL_scripts_80 ⟨(show 8 + 2 ≤ 47 by omega), (show 48 + 12 ≤ 282 by omega)⟩ (fun H locs hw hS hk => ?_)
      refine lv_if_ne (tgt := 253) hx hb dL_scripts_83 (by decide) (fun h113 => ?_) (fun h113 => ?_)
      · have hF := it_f h113 hF
        refine lv_iconst (v := 0) hx hb dL_scripts_253 (by decide) ?_
        refine W.widen (k := 26) (n := 156) (by omega) (by omega) ?_
        exact hJ254 (0 : Int32) C112 _ _ _ hF hw hS (lv_sub hl [6, 7, 4, 0] rfl)
      · have hF := it_t h113 hF
        exact hJ86 C112 _ _ _ hF hw hS (lv_sub hl [6, 7, 4, 3, 2, 1, 0] rfl)
theorem wwL_139 : WSW RL 139 yL_tryUndo cL_tryUndo 2 (some .int) [(0, 4, 5, 15)] 1 := ⟨(lg 466 (by decide +kernel) rfl), (lg 467 (by decide +kernel) rfl), (lg 16 (by decide +kernel) rfl), (lg 468 (by decide +kernel) rfl), ⟨by decide +kernel, by decide +kernel⟩, by decide +kernel⟩
set_option maxHeartbeats 4000000 in
set_option maxRecDepth 100000 in
theorem c_L_act (l : Launch) (G : GG) (n : Nat) (hn : 244 ≤ n) (hn2 : 0 ≤ n) (hfl : l.stackTraces = false) (x1 : Int32) (x2 : Int32) (C : Mem) (rR : Int32) (CR : Mem) (hF : F_L_act x1 x2 C = some (rR, CR)) : CtN l yL_act cL_act 4 (some .int) (rmX 10 174 3 18) 3 18 G n C [.ref (bb G + 0), .int x1, .int x2] (some (.int rR)) CR := by
  refine CtN.of (by decide) (Nat.le_of_ble_eq_true rfl) ?_
  intro p e s m below meth c ls hC hr hlk hw hl
  have hx := hC.1
  have hb := hC.2.1
  have hS : LW G s s.heap [] := va_S.rf
  have hl : lv_has ls 4 [(0, .ref (bb G + 0)), (1, .int x1), (2, .int x2)] := hl
  unfold F_L_act at hF
  suffices key : ∀ (H : Heap) (locs : List Loc), Wd G n C H → LW G s H locs → W p l e (rmX 10 174 3 18) s m ([.ref (bb G + 0), .int x1, .int x2] : List Value).toArray below meth c H locs 0 0 (MQ below (QR G n (some (.int rR)) CR) ([.ref (bb G + 0), .int x1, .int x2] : List Value).toArray s 3 18 (frA G)) (F0 m 0 ls []) by exact key _ _ hw hS
  intro H locs hw hS
  refine lv_iload_n hx hb dL_act_0 rfl (lv_at hl 2 rfl) ?_
  refine lv_aload_n hx hb dL_act_1 rfl (lv_at hl 0 rfl) ?_
  refine lv_bipush (v := 6) hx hb dL_act_2 (by decide) ?_
  obtain ⟨r1, C3, hc2, hF⟩ := b2_t hF
  refine call_SWE hC (c_L_tryAbout l (gP G H) (H.size - bb G) (hw.lp hn) (Nat.zero_le _) hfl (6 : Int32) _ _ _ hc2) wwL_129 ⟨rfl, rfl, by decide, by decide⟩ hw hn hS hl.1 rfl (rest := [.int x2]) rfl (Nat.le_of_ble_eq_true rfl) dL_act_4 ⟨(show 0 + 1 ≤ 3 by omega), (show 0 + 6 ≤ 18 by omega)⟩ (fun H locs hw hS hk => ?_)
  obtain ⟨g4, hF⟩ := gz_t hF
  refine lv_irem hx hb dL_act_7 g4 ?_
  obtain ⟨v5, ev5, hF⟩ := nm_t hF
  refine lv_nmi ev5 ?_
  refine lv_istore_n (lv' := [(3, .int v5), (0, .ref (bb G + 0)), (1, .int x1), (2, .int x2)]) hx hb dL_act_8 rfl hl (by decide) rfl (fun ls hl => ?_)
  refine lv_iload_n hx hb dL_act_9 rfl (lv_at hl 2 rfl) ?_
  refine lv_bipush (v := 16) hx hb dL_act_10 (by decide) ?_
  refine lv_irem hx hb dL_act_12 (by decide) ?_
  by_cases h6 : (x1 - x1 / (16 : Int32) * (16 : Int32)) = (0 : Int32)
  · have hF := it_t h6 hF
    refine lv_tableIn (tgt := 88) (off := 75) hx hb dL_act_13 (by rw [h6]; decide) (by rw [h6]; decide) (by rw [h6]; rfl) (by decide) ?_
    refine lv_aload_n hx hb dL_act_88 rfl (lv_at hl 1 rfl) ?_
    refine lv_iconst (v := 1) hx hb dL_act_89 (by decide) ?_
    refine lv_iload_n hx hb dL_act_90 rfl (lv_at hl 3 rfl) ?_
    refine lv_bipush (v := 30) hx hb dL_act_91 (by decide) ?_
    refine lv_irem hx hb dL_act_93 (by decide) ?_
    refine lv_iadd hx hb dL_act_94 ?_
    refine lv_iload_n hx hb dL_act_95 rfl (lv_at hl 3 rfl) ?_
    refine lv_bipush (v := 32) hx hb dL_act_96 (by decide) ?_
    refine lv_idiv hx hb dL_act_98 (by decide) ?_
    refine lv_iconst (v := 4) hx hb dL_act_99 (by decide) ?_
    refine lv_irem hx hb dL_act_100 (by decide) ?_
    obtain ⟨r21, C23, hc22, hF⟩ := b2_t hF
    refine call_SWE hC (c_L_tryTick l (gP G H) (H.size - bb G) (hw.lp hn) (Nat.zero_le _) hfl ((1 : Int32) + (x2 - x2 / (30 : Int32) * (30 : Int32))) ((x2 / (32 : Int32)) - (x2 / (32 : Int32)) / (4 : Int32) * (4 : Int32)) _ _ _ hc22) wwL_154 ⟨rfl, rfl, by decide, by decide⟩ hw hn hS hl.1 rfl (rest := []) rfl (Nat.le_of_ble_eq_true rfl) dL_act_101 ⟨(show 1 + 2 ≤ 3 by omega), (show 6 + 12 ≤ 18 by omega)⟩ (fun H locs hw hS hk => ?_)
    exact m_iretN hC hr hlk hw hS (by decide) (by decide) dL_act_104 hF
  have hF := it_f h6 hF
  by_cases h7 : (x1 - x1 / (16 : Int32) * (16 : Int32)) = (1 : Int32)
  · have hF := it_t h7 hF
    refine lv_tableIn (tgt := 88) (off := 75) hx hb dL_act_13 (by rw [h7]; decide) (by rw [h7]; decide) (by rw [h7]; rfl) (by decide) ?_
    refine lv_aload_n hx hb dL_act_88 rfl (lv_at hl 1 rfl) ?_
    refine lv_iconst (v := 1) hx hb dL_act_89 (by decide) ?_
    refine lv_iload_n hx hb dL_act_90 rfl (lv_at hl 3 rfl) ?_
    refine lv_bipush (v := 30) hx hb dL_act_91 (by decide) ?_
    refine lv_irem hx hb dL_act_93 (by decide) ?_
    refine lv_iadd hx hb dL_act_94 ?_
    refine lv_iload_n hx hb dL_act_95 rfl (lv_at hl 3 rfl) ?_
    refine lv_bipush (v := 32) hx hb dL_act_96 (by decide) ?_
    refine lv_idiv hx hb dL_act_98 (by decide) ?_
    refine lv_iconst (v := 4) hx hb dL_act_99 (by decide) ?_
    refine lv_irem hx hb dL_act_100 (by decide) ?_
    obtain ⟨r24, C26, hc25, hF⟩ := b2_t hF
    refine call_SWE hC (c_L_tryTick l (gP G H) (H.size - bb G) (hw.lp hn) (Nat.zero_le _) hfl ((1 : Int32) + (x2 - x2 / (30 : Int32) * (30 : Int32))) ((x2 / (32 : Int32)) - (x2 / (32 : Int32)) / (4 : Int32) * (4 : Int32)) _ _ _ hc25) wwL_154 ⟨rfl, rfl, by decide, by decide⟩ hw hn hS hl.1 rfl (rest := []) rfl (Nat.le_of_ble_eq_true rfl) dL_act_101 ⟨(show 1 + 2 ≤ 3 by omega), (show 6 + 12 ≤ 18 by omega)⟩ (fun H locs hw hS hk => ?_)
    exact m_iretN hC hr hlk hw hS (by decide) (by decide) dL_act_104 hF
  have hF := it_f h7 hF
  by_cases h8 : (x1 - x1 / (16 : Int32) * (16 : Int32)) = (2 : Int32)
  · have hF := it_t h8 hF
    refine lv_tableIn (tgt := 88) (off := 75) hx hb dL_act_13 (by rw [h8]; decide) (by rw [h8]; decide) (by rw [h8]; rfl) (by decide) ?_
    refine lv_aload_n hx hb dL_act_88 rfl (lv_at hl 1 rfl) ?_
    refine lv_iconst (v := 1) hx hb dL_act_89 (by decide) ?_
    refine lv_iload_n hx hb dL_act_90 rfl (lv_at hl 3 rfl) ?_
    refine lv_bipush (v := 30) hx hb dL_act_91 (by decide) ?_
    refine lv_irem hx hb dL_act_93 (by decide) ?_
    refine lv_iadd hx hb dL_act_94 ?_
    refine lv_iload_n hx hb dL_act_95 rfl (lv_at hl 3 rfl) ?_
    refine lv_bipush (v := 32) hx hb dL_act_96 (by decide) ?_
    refine lv_idiv hx hb dL_act_98 (by decide) ?_
    refine lv_iconst (v := 4) hx hb dL_act_99 (by decide) ?_
    refine lv_irem hx hb dL_act_100 (by decide) ?_
    obtain ⟨r27, C29, hc28, hF⟩ := b2_t hF
    refine call_SWE hC (c_L_tryTick l (gP G H) (H.size - bb G) (hw.lp hn) (Nat.zero_le _) hfl ((1 : Int32) + (x2 - x2 / (30 : Int32) * (30 : Int32))) ((x2 / (32 : Int32)) - (x2 / (32 : Int32)) / (4 : Int32) * (4 : Int32)) _ _ _ hc28) wwL_154 ⟨rfl, rfl, by decide, by decide⟩ hw hn hS hl.1 rfl (rest := []) rfl (Nat.le_of_ble_eq_true rfl) dL_act_101 ⟨(show 1 + 2 ≤ 3 by omega), (show 6 + 12 ≤ 18 by omega)⟩ (fun H locs hw hS hk => ?_)
    exact m_iretN hC hr hlk hw hS (by decide) (by decide) dL_act_104 hF
  have hF := it_f h8 hF
  by_cases h9 : (x1 - x1 / (16 : Int32) * (16 : Int32)) = (3 : Int32)
  · have hF := it_t h9 hF
    refine lv_tableIn (tgt := 88) (off := 75) hx hb dL_act_13 (by rw [h9]; decide) (by rw [h9]; decide) (by rw [h9]; rfl) (by decide) ?_
    refine lv_aload_n hx hb dL_act_88 rfl (lv_at hl 1 rfl) ?_
    refine lv_iconst (v := 1) hx hb dL_act_89 (by decide) ?_
    refine lv_iload_n hx hb dL_act_90 rfl (lv_at hl 3 rfl) ?_
    refine lv_bipush (v := 30) hx hb dL_act_91 (by decide) ?_
    refine lv_irem hx hb dL_act_93 (by decide) ?_
    refine lv_iadd hx hb dL_act_94 ?_
    refine lv_iload_n hx hb dL_act_95 rfl (lv_at hl 3 rfl) ?_
    refine lv_bipush (v := 32) hx hb dL_act_96 (by decide) ?_
    refine lv_idiv hx hb dL_act_98 (by decide) ?_
    refine lv_iconst (v := 4) hx hb dL_act_99 (by decide) ?_
    refine lv_irem hx hb dL_act_100 (by decide) ?_
    obtain ⟨r30, C32, hc31, hF⟩ := b2_t hF
    refine call_SWE hC (c_L_tryTick l (gP G H) (H.size - bb G) (hw.lp hn) (Nat.zero_le _) hfl ((1 : Int32) + (x2 - x2 / (30 : Int32) * (30 : Int32))) ((x2 / (32 : Int32)) - (x2 / (32 : Int32)) / (4 : Int32) * (4 : Int32)) _ _ _ hc31) wwL_154 ⟨rfl, rfl, by decide, by decide⟩ hw hn hS hl.1 rfl (rest := []) rfl (Nat.le_of_ble_eq_true rfl) dL_act_101 ⟨(show 1 + 2 ≤ 3 by omega), (show 6 + 12 ≤ 18 by omega)⟩ (fun H locs hw hS hk => ?_)
    exact m_iretN hC hr hlk hw hS (by decide) (by decide) dL_act_104 hF
  have hF := it_f h9 hF
  by_cases h10 : (x1 - x1 / (16 : Int32) * (16 : Int32)) = (4 : Int32)
  · have hF := it_t h10 hF
    refine lv_tableIn (tgt := 88) (off := 75) hx hb dL_act_13 (by rw [h10]; decide) (by rw [h10]; decide) (by rw [h10]; rfl) (by decide) ?_
    refine lv_aload_n hx hb dL_act_88 rfl (lv_at hl 1 rfl) ?_
    refine lv_iconst (v := 1) hx hb dL_act_89 (by decide) ?_
    refine lv_iload_n hx hb dL_act_90 rfl (lv_at hl 3 rfl) ?_
    refine lv_bipush (v := 30) hx hb dL_act_91 (by decide) ?_
    refine lv_irem hx hb dL_act_93 (by decide) ?_
    refine lv_iadd hx hb dL_act_94 ?_
    refine lv_iload_n hx hb dL_act_95 rfl (lv_at hl 3 rfl) ?_
    refine lv_bipush (v := 32) hx hb dL_act_96 (by decide) ?_
    refine lv_idiv hx hb dL_act_98 (by decide) ?_
    refine lv_iconst (v := 4) hx hb dL_act_99 (by decide) ?_
    refine lv_irem hx hb dL_act_100 (by decide) ?_
    obtain ⟨r33, C35, hc34, hF⟩ := b2_t hF
    refine call_SWE hC (c_L_tryTick l (gP G H) (H.size - bb G) (hw.lp hn) (Nat.zero_le _) hfl ((1 : Int32) + (x2 - x2 / (30 : Int32) * (30 : Int32))) ((x2 / (32 : Int32)) - (x2 / (32 : Int32)) / (4 : Int32) * (4 : Int32)) _ _ _ hc34) wwL_154 ⟨rfl, rfl, by decide, by decide⟩ hw hn hS hl.1 rfl (rest := []) rfl (Nat.le_of_ble_eq_true rfl) dL_act_101 ⟨(show 1 + 2 ≤ 3 by omega), (show 6 + 12 ≤ 18 by omega)⟩ (fun H locs hw hS hk => ?_)
    exact m_iretN hC hr hlk hw hS (by decide) (by decide) dL_act_104 hF
  have hF := it_f h10 hF
  by_cases h11 : (x1 - x1 / (16 : Int32) * (16 : Int32)) = (5 : Int32)
  · have hF := it_t h11 hF
    refine lv_tableIn (tgt := 105) (off := 92) hx hb dL_act_13 (by rw [h11]; decide) (by rw [h11]; decide) (by rw [h11]; rfl) (by decide) ?_
    refine lv_aload_n hx hb dL_act_105 rfl (lv_at hl 1 rfl) ?_
    refine lv_iconst (v := 1) hx hb dL_act_106 (by decide) ?_
    refine lv_iload_n hx hb dL_act_107 rfl (lv_at hl 3 rfl) ?_
    refine lv_bipush (v := 8) hx hb dL_act_108 (by decide) ?_
    refine lv_irem hx hb dL_act_110 (by decide) ?_
    refine lv_iadd hx hb dL_act_111 ?_
    obtain ⟨r36, C38, hc37, hF⟩ := b2_t hF
    refine call_SWE hC (c_L_tryDraw l (gP G H) (H.size - bb G) (hw.lp hn) (Nat.zero_le _) hfl ((1 : Int32) + (x2 - x2 / (8 : Int32) * (8 : Int32))) _ _ _ hc37) wwL_157 ⟨rfl, rfl, by decide, by decide⟩ hw hn hS hl.1 rfl (rest := []) rfl (Nat.le_of_ble_eq_true rfl) dL_act_112 ⟨(show 1 + 1 ≤ 3 by omega), (show 6 + 6 ≤ 18 by omega)⟩ (fun H locs hw hS hk => ?_)
    exact m_iretN hC hr hlk hw hS (by decide) (by decide) dL_act_115 hF
  have hF := it_f h11 hF
  by_cases h12 : (x1 - x1 / (16 : Int32) * (16 : Int32)) = (6 : Int32)
  · have hF := it_t h12 hF
    refine lv_tableIn (tgt := 116) (off := 103) hx hb dL_act_13 (by rw [h12]; decide) (by rw [h12]; decide) (by rw [h12]; rfl) (by decide) ?_
    refine lv_aload_n hx hb dL_act_116 rfl (lv_at hl 1 rfl) ?_
    refine lv_iconst (v := 0) hx hb dL_act_117 (by decide) ?_
    refine lv_bipush (v := 40) hx hb dL_act_118 (by decide) ?_
    refine lv_iload_n hx hb dL_act_120 rfl (lv_at hl 3 rfl) ?_
    refine lv_bipush (v := 41) hx hb dL_act_121 (by decide) ?_
    refine lv_irem hx hb dL_act_123 (by decide) ?_
    refine lv_iadd hx hb dL_act_124 ?_
    obtain ⟨r39, C41, hc40, hF⟩ := b2_t hF
    refine call_SWE hC (c_L_trySet l (gP G H) (H.size - bb G) (hw.lp hn) (Nat.zero_le _) hfl (0 : Int32) ((40 : Int32) + (x2 - x2 / (41 : Int32) * (41 : Int32))) _ _ _ hc40) wwL_160 ⟨rfl, rfl, by decide, by decide⟩ hw hn hS hl.1 rfl (rest := []) rfl (Nat.le_of_ble_eq_true rfl) dL_act_125 ⟨(show 1 + 1 ≤ 3 by omega), (show 6 + 6 ≤ 18 by omega)⟩ (fun H locs hw hS hk => ?_)
    exact m_iretN hC hr hlk hw hS (by decide) (by decide) dL_act_128 hF
  have hF := it_f h12 hF
  by_cases h13 : (x1 - x1 / (16 : Int32) * (16 : Int32)) = (7 : Int32)
  · have hF := it_t h13 hF
    refine lv_tableIn (tgt := 129) (off := 116) hx hb dL_act_13 (by rw [h13]; decide) (by rw [h13]; decide) (by rw [h13]; rfl) (by decide) ?_
    refine lv_aload_n hx hb dL_act_129 rfl (lv_at hl 1 rfl) ?_
    refine lv_iconst (v := 2) hx hb dL_act_130 (by decide) ?_
    refine lv_iconst (v := 2) hx hb dL_act_131 (by decide) ?_
    refine lv_iload_n hx hb dL_act_132 rfl (lv_at hl 3 rfl) ?_
    refine lv_iconst (v := 2) hx hb dL_act_133 (by decide) ?_
    refine lv_irem hx hb dL_act_134 (by decide) ?_
    refine lv_imul hx hb dL_act_135 ?_
    refine lv_iadd hx hb dL_act_136 ?_
    refine lv_iconst (v := 1) hx hb dL_act_137 (by decide) ?_
    refine lv_iload_n hx hb dL_act_138 rfl (lv_at hl 3 rfl) ?_
    refine lv_iconst (v := 2) hx hb dL_act_139 (by decide) ?_
    refine lv_idiv hx hb dL_act_140 (by decide) ?_
    refine lv_iconst (v := 5) hx hb dL_act_141 (by decide) ?_
    refine lv_irem hx hb dL_act_142 (by decide) ?_
    refine lv_iadd hx hb dL_act_143 ?_
    obtain ⟨r42, C44, hc43, hF⟩ := b2_t hF
    refine call_SWE hC (c_L_trySet l (gP G H) (H.size - bb G) (hw.lp hn) (Nat.zero_le _) hfl ((2 : Int32) + ((2 : Int32) * (x2 - x2 / (2 : Int32) * (2 : Int32)))) ((1 : Int32) + ((x2 / (2 : Int32)) - (x2 / (2 : Int32)) / (5 : Int32) * (5 : Int32))) _ _ _ hc43) wwL_160 ⟨rfl, rfl, by decide, by decide⟩ hw hn hS hl.1 rfl (rest := []) rfl (Nat.le_of_ble_eq_true rfl) dL_act_144 ⟨(show 1 + 1 ≤ 3 by omega), (show 6 + 6 ≤ 18 by omega)⟩ (fun H locs hw hS hk => ?_)
    exact m_iretN hC hr hlk hw hS (by decide) (by decide) dL_act_147 hF
  have hF := it_f h13 hF
  by_cases h14 : (x1 - x1 / (16 : Int32) * (16 : Int32)) = (8 : Int32)
  · have hF := it_t h14 hF
    refine lv_tableIn (tgt := 148) (off := 135) hx hb dL_act_13 (by rw [h14]; decide) (by rw [h14]; decide) (by rw [h14]; rfl) (by decide) ?_
    refine lv_aload_n hx hb dL_act_148 rfl (lv_at hl 1 rfl) ?_
    refine lv_iconst (v := 3) hx hb dL_act_149 (by decide) ?_
    refine lv_bipush (v := 60) hx hb dL_act_150 (by decide) ?_
    refine lv_iload_n hx hb dL_act_152 rfl (lv_at hl 3 rfl) ?_
    refine lv_bipush (v := 31) hx hb dL_act_153 (by decide) ?_
    refine lv_irem hx hb dL_act_155 (by decide) ?_
    refine lv_iadd hx hb dL_act_156 ?_
    obtain ⟨r45, C47, hc46, hF⟩ := b2_t hF
    refine call_SWE hC (c_L_trySet l (gP G H) (H.size - bb G) (hw.lp hn) (Nat.zero_le _) hfl (3 : Int32) ((60 : Int32) + (x2 - x2 / (31 : Int32) * (31 : Int32))) _ _ _ hc46) wwL_160 ⟨rfl, rfl, by decide, by decide⟩ hw hn hS hl.1 rfl (rest := []) rfl (Nat.le_of_ble_eq_true rfl) dL_act_157 ⟨(show 1 + 1 ≤ 3 by omega), (show 6 + 6 ≤ 18 by omega)⟩ (fun H locs hw hS hk => ?_)
    exact m_iretN hC hr hlk hw hS (by decide) (by decide) dL_act_160 hF
  have hF := it_f h14 hF
  by_cases h15 : (x1 - x1 / (16 : Int32) * (16 : Int32)) = (9 : Int32)
  · have hF := it_t h15 hF
    refine lv_tableIn (tgt := 161) (off := 148) hx hb dL_act_13 (by rw [h15]; decide) (by rw [h15]; decide) (by rw [h15]; rfl) (by decide) ?_
    refine lv_aload_n hx hb dL_act_161 rfl (lv_at hl 1 rfl) ?_
    refine lv_iload_n hx hb dL_act_162 rfl (lv_at hl 3 rfl) ?_
    refine lv_iconst (v := 2) hx hb dL_act_163 (by decide) ?_
    refine lv_irem hx hb dL_act_164 (by decide) ?_
    refine lv_iload_n hx hb dL_act_165 rfl (lv_at hl 3 rfl) ?_
    refine lv_iconst (v := 2) hx hb dL_act_166 (by decide) ?_
    refine lv_idiv hx hb dL_act_167 (by decide) ?_
    refine lv_iconst (v := 3) hx hb dL_act_168 (by decide) ?_
    refine lv_irem hx hb dL_act_169 (by decide) ?_
    have hJ178 : ∀ (v49 : Int32) (H : Heap) (locs : List Loc) (ls : Array Slot), J_L_act_178 x2 C3 v49 = some (rR, CR) → Wd G n C3 H → LW G s H locs → lv_has ls 4 [] → W p l e (rmX 10 174 3 18) s m ([.ref (bb G + 0), .int x1, .int x2] : List Value).toArray below meth c H locs 1 6 (MQ below (QR G n (some (.int rR)) CR) ([.ref (bb G + 0), .int x1, .int x2] : List Value).toArray s 3 18 (frA G)) (F0 m 178 ls [.int v49, .int (x2 - x2 / (2 : Int32) * (2 : Int32)), .ref (bb G + 0)]) := by
      intro v49 H locs ls hF hw hS hl
      unfold J_L_act_178 at hF
      obtain ⟨r50, C52, hc51, hF⟩ := b2_t hF
      refine call_SWE hC (c_L_trySetFlue l (gP G H) (H.size - bb G) (hw.lp hn) (Nat.zero_le _) hfl (x2 - x2 / (2 : Int32) * (2 : Int32)) v49 _ _ _ hc51) wwL_163 ⟨rfl, rfl, by decide, by decide⟩ hw hn hS hl.1 rfl (rest := []) rfl (Nat.le_of_ble_eq_true rfl) dL_act_178 ⟨(show 1 + 1 ≤ 3 by omega), (show 6 + 6 ≤ 18 by omega)⟩ (fun H locs hw hS hk => ?_)
      exact m_iretN hC hr hlk hw hS (by decide) (by decide) dL_act_181 hF
    refine lv_if_le (tgt := 177) hx hb dL_act_170 (by decide) (fun h48 => ?_) (fun h48 => ?_)
    · have hF := it_t h48 hF
      refine lv_iconst (v := 0) hx hb dL_act_177 (by decide) ?_
      exact hJ178 (0 : Int32) _ _ _ hF hw hS (lv_sub hl [] rfl)
    · have hF := it_f h48 hF
      refine lv_iconst (v := 1) hx hb dL_act_173 (by decide) ?_
      refine lv_goto (tgt := 178) hx hb dL_act_174 (by decide) ?_
      exact hJ178 (1 : Int32) _ _ _ hF hw hS (lv_sub hl [] rfl)
  have hF := it_f h15 hF
  by_cases h16 : (x1 - x1 / (16 : Int32) * (16 : Int32)) = (10 : Int32)
  · have hF := it_t h16 hF
    refine lv_tableIn (tgt := 182) (off := 169) hx hb dL_act_13 (by rw [h16]; decide) (by rw [h16]; decide) (by rw [h16]; rfl) (by decide) ?_
    refine lv_aload_n hx hb dL_act_182 rfl (lv_at hl 1 rfl) ?_
    refine lv_iload_n hx hb dL_act_183 rfl (lv_at hl 3 rfl) ?_
    refine lv_iconst (v := 2) hx hb dL_act_184 (by decide) ?_
    refine lv_irem hx hb dL_act_185 (by decide) ?_
    refine lv_iload_n hx hb dL_act_186 rfl (lv_at hl 3 rfl) ?_
    refine lv_iconst (v := 2) hx hb dL_act_187 (by decide) ?_
    refine lv_idiv hx hb dL_act_188 (by decide) ?_
    refine lv_bipush (v := 100) hx hb dL_act_189 (by decide) ?_
    refine lv_irem hx hb dL_act_191 (by decide) ?_
    obtain ⟨r53, C55, hc54, hF⟩ := b2_t hF
    refine call_SWE hC (c_L_trySetDraft l (gP G H) (H.size - bb G) (hw.lp hn) (Nat.zero_le _) hfl (x2 - x2 / (2 : Int32) * (2 : Int32)) ((x2 / (2 : Int32)) - (x2 / (2 : Int32)) / (100 : Int32) * (100 : Int32)) _ _ _ hc54) wwL_167 ⟨rfl, rfl, by decide, by decide⟩ hw hn hS hl.1 rfl (rest := []) rfl (Nat.le_of_ble_eq_true rfl) dL_act_192 ⟨(show 1 + 2 ≤ 3 by omega), (show 6 + 12 ≤ 18 by omega)⟩ (fun H locs hw hS hk => ?_)
    exact m_iretN hC hr hlk hw hS (by decide) (by decide) dL_act_195 hF
  have hF := it_f h16 hF
  by_cases h17 : (x1 - x1 / (16 : Int32) * (16 : Int32)) = (11 : Int32)
  · have hF := it_t h17 hF
    refine lv_tableIn (tgt := 196) (off := 183) hx hb dL_act_13 (by rw [h17]; decide) (by rw [h17]; decide) (by rw [h17]; rfl) (by decide) ?_
    refine lv_aload_n hx hb dL_act_196 rfl (lv_at hl 1 rfl) ?_
    refine lv_iload_n hx hb dL_act_197 rfl (lv_at hl 0 rfl) ?_
    obtain ⟨r56, C58, hc57, hF⟩ := b2_t hF
    refine call_SWE hC (c_L_tryLock l (gP G H) (H.size - bb G) (hw.lp hn) (Nat.zero_le _) hfl v5 _ _ _ hc57) wwL_170 ⟨rfl, rfl, by decide, by decide⟩ hw hn hS hl.1 rfl (rest := []) rfl (Nat.le_of_ble_eq_true rfl) dL_act_198 ⟨(show 1 + 2 ≤ 3 by omega), (show 6 + 12 ≤ 18 by omega)⟩ (fun H locs hw hS hk => ?_)
    exact m_iretN hC hr hlk hw hS (by decide) (by decide) dL_act_201 hF
  have hF := it_f h17 hF
  by_cases h18 : (x1 - x1 / (16 : Int32) * (16 : Int32)) = (12 : Int32)
  · have hF := it_t h18 hF
    refine lv_tableIn (tgt := 202) (off := 189) hx hb dL_act_13 (by rw [h18]; decide) (by rw [h18]; decide) (by rw [h18]; rfl) (by decide) ?_
    refine lv_aload_n hx hb dL_act_202 rfl (lv_at hl 1 rfl) ?_
    refine lv_iload_n hx hb dL_act_203 rfl (lv_at hl 0 rfl) ?_
    obtain ⟨r59, C61, hc60, hF⟩ := b2_t hF
    refine call_SWE hC (c_L_tryUnlock l (gP G H) (H.size - bb G) (hw.lp hn) (Nat.zero_le _) hfl v5 _ _ _ hc60) wwL_173 ⟨rfl, rfl, by decide, by decide⟩ hw hn hS hl.1 rfl (rest := []) rfl (Nat.le_of_ble_eq_true rfl) dL_act_204 ⟨(show 1 + 2 ≤ 3 by omega), (show 6 + 12 ≤ 18 by omega)⟩ (fun H locs hw hS hk => ?_)
    exact m_iretN hC hr hlk hw hS (by decide) (by decide) dL_act_207 hF
  have hF := it_f h18 hF
  by_cases h19 : (x1 - x1 / (16 : Int32) * (16 : Int32)) = (13 : Int32)
  · have hF := it_t h19 hF
    refine lv_tableIn (tgt := 208) (off := 195) hx hb dL_act_13 (by rw [h19]; decide) (by rw [h19]; decide) (by rw [h19]; rfl) (by decide) ?_
    refine lv_aload_n hx hb dL_act_208 rfl (lv_at hl 1 rfl) ?_
    refine lv_iload_n hx hb dL_act_209 rfl (lv_at hl 0 rfl) ?_
    obtain ⟨r62, C64, hc63, hF⟩ := b2_t hF
    refine call_SWE hC (c_L_tryPutOff l (gP G H) (H.size - bb G) (hw.lp hn) (Nat.zero_le _) hfl v5 _ _ _ hc63) wwL_176 ⟨rfl, rfl, by decide, by decide⟩ hw hn hS hl.1 rfl (rest := []) rfl (Nat.le_of_ble_eq_true rfl) dL_act_210 ⟨(show 1 + 2 ≤ 3 by omega), (show 6 + 12 ≤ 18 by omega)⟩ (fun H locs hw hS hk => ?_)
    exact m_iretN hC hr hlk hw hS (by decide) (by decide) dL_act_213 hF
  have hF := it_f h19 hF
  by_cases h20 : (x1 - x1 / (16 : Int32) * (16 : Int32)) = (14 : Int32)
  · have hF := it_t h20 hF
    refine lv_tableIn (tgt := 214) (off := 201) hx hb dL_act_13 (by rw [h20]; decide) (by rw [h20]; decide) (by rw [h20]; rfl) (by decide) ?_
    refine lv_aload_n hx hb dL_act_214 rfl (lv_at hl 1 rfl) ?_
    obtain ⟨r65, C67, hc66, hF⟩ := b2_t hF
    refine call_SWE hC (c_L_tryUndo l (gP G H) (H.size - bb G) (hw.lp hn) (Nat.zero_le _) hfl  _ _ _ hc66) wwL_139 ⟨rfl, rfl, by decide, by decide⟩ hw hn hS hl.1 rfl (rest := []) rfl (Nat.le_of_ble_eq_true rfl) dL_act_215 ⟨(show 1 + 1 ≤ 3 by omega), (show 6 + 6 ≤ 18 by omega)⟩ (fun H locs hw hS hk => ?_)
    exact m_iretN hC hr hlk hw hS (by decide) (by decide) dL_act_218 hF
  have hF := it_f h20 hF
  refine lv_tableOut (tgt := 219) hx hb dL_act_13 (sw_out (fun k ka kb kc => by (have kd : k = 0 ∨ k = 1 ∨ k = 2 ∨ k = 3 ∨ k = 4 ∨ k = 5 ∨ k = 6 ∨ k = 7 ∨ k = 8 ∨ k = 9 ∨ k = 10 ∨ k = 11 ∨ k = 12 ∨ k = 13 ∨ k = 14 := by omega); exact kd.elim (fun kd => by subst kd; exact lv_neT h6 (by decide) kc) (fun kd => kd.elim (fun kd => by subst kd; exact lv_neT h7 (by decide) kc) (fun kd => kd.elim (fun kd => by subst kd; exact lv_neT h8 (by decide) kc) (fun kd => kd.elim (fun kd => by subst kd; exact lv_neT h9 (by decide) kc) (fun kd => kd.elim (fun kd => by subst kd; exact lv_neT h10 (by decide) kc) (fun kd => kd.elim (fun kd => by subst kd; exact lv_neT h11 (by decide) kc) (fun kd => kd.elim (fun kd => by subst kd; exact lv_neT h12 (by decide) kc) (fun kd => kd.elim (fun kd => by subst kd; exact lv_neT h13 (by decide) kc) (fun kd => kd.elim (fun kd => by subst kd; exact lv_neT h14 (by decide) kc) (fun kd => kd.elim (fun kd => by subst kd; exact lv_neT h15 (by decide) kc) (fun kd => kd.elim (fun kd => by subst kd; exact lv_neT h16 (by decide) kc) (fun kd => kd.elim (fun kd => by subst kd; exact lv_neT h17 (by decide) kc) (fun kd => kd.elim (fun kd => by subst kd; exact lv_neT h18 (by decide) kc) (fun kd => kd.elim (fun kd => by subst kd; exact lv_neT h19 (by decide) kc) (fun kd => (by subst kd; exact lv_neT h20 (by decide) kc))))))))))))))))) (by decide) ?_
  refine lv_iload_n hx hb dL_act_219 rfl (lv_at hl 3 rfl) ?_
  refine lv_iconst (v := 2) hx hb dL_act_220 (by decide) ?_
  refine lv_irem hx hb dL_act_221 (by decide) ?_
  refine lv_if_ne (tgt := 233) hx hb dL_act_222 (by decide) (fun h68 => ?_) (fun h68 => ?_)
  · have hF := it_f h68 hF
    refine lv_aload_n hx hb dL_act_233 rfl (lv_at hl 1 rfl) ?_
    refine lv_iconst (v := 1) hx hb dL_act_234 (by decide) ?_
    obtain ⟨r69, C71, hc70, hF⟩ := b2_t hF
    refine call_SWE hC (c_L_tryRestore l (gP G H) (H.size - bb G) (hw.lp hn) (Nat.zero_le _) hfl (1 : Int32) _ _ _ hc70) wwL_142 ⟨rfl, rfl, by decide, by decide⟩ hw hn hS hl.1 rfl (rest := []) rfl (Nat.le_of_ble_eq_true rfl) dL_act_235 ⟨(show 1 + 2 ≤ 3 by omega), (show 6 + 12 ≤ 18 by omega)⟩ (fun H locs hw hS hk => ?_)
    exact m_iretN hC hr hlk hw hS (by decide) (by decide) dL_act_238 hF
  · have hF := it_t h68 hF
    refine lv_aload_n hx hb dL_act_225 rfl (lv_at hl 1 rfl) ?_
    refine lv_iconst (v := 1) hx hb dL_act_226 (by decide) ?_
    obtain ⟨r72, C74, hc73, hF⟩ := b2_t hF
    refine call_SWE hC (c_L_trySave l (gP G H) (H.size - bb G) (hw.lp hn) (Nat.zero_le _) hfl (1 : Int32) _ _ _ hc73) wwL_208 ⟨rfl, rfl, by decide, by decide⟩ hw hn hS hl.1 rfl (rest := []) rfl (Nat.le_of_ble_eq_true rfl) dL_act_227 ⟨(show 1 + 1 ≤ 3 by omega), (show 6 + 6 ≤ 18 by omega)⟩ (fun H locs hw hS hk => ?_)
    refine lv_goto (tgt := 238) hx hb dL_act_230 (by decide) ?_
    exact m_iretN hC hr hlk hw hS (by decide) (by decide) dL_act_238 hF
set_option maxRecDepth 1000000 in
theorem wvL_145 : WV RL 145 yX8_next cX8_next 1 (some .int) 0 := ⟨(lg 626 rfl rfl), (lg 627 rfl rfl), (lg 628 rfl rfl), (lg 17 rfl rfl), (lg 629 rfl rfl), ⟨by decide +kernel, by decide +kernel⟩, by decide +kernel⟩
set_option maxHeartbeats 4000000 in
set_option maxRecDepth 100000 in
theorem c_L_alike (l : Launch) (G : GG) (b L : Nat) (xs : Nat → Int32) (hbG : b < bb G) (hfl : l.stackTraces = false)  (C D : Mem) (rR : Int32) (CR DR : Mem) (hF : F_L_alike  C D = some (rR, CR, DR)) : Ct2 l yL_alike cL_alike 5 (some .boolean) (rmX 9 154 393 2358) 393 2358 G b L xs C D [.ref (bb G + 0), .ref (bb G + 244)] (some (.int rR)) CR DR := by
  refine Ct2.of (by decide) (Nat.le_of_ble_eq_true rfl) ?_
  intro p e s m below meth c ls hC hr hlk hX hw hq hl
  have hn : 244 ≤ 244 := Nat.le_refl _
  have hx := hC.1
  have hb := hC.2.1
  have hS : LW G s s.heap [] := va_S.rf
  have hl : lv_has ls 5 [(0, .ref (bb G + 0)), (1, .ref (bb G + 244))] := hl
  unfold F_L_alike at hF
  suffices key : ∀ (H : Heap) (locs : List Loc), Wd G 244 C H → LW G s H locs → Oq G D H → W p l e (rmX 9 154 393 2358) s m ([.ref (bb G + 0), .ref (bb G + 244)] : List Value).toArray below meth c H locs 0 0 (MQ below (QR2 G (some (.int rR)) CR DR) ([.ref (bb G + 0), .ref (bb G + 244)] : List Value).toArray s 393 2358 (frA G)) (F0 m 0 ls []) by exact key _ _ hw hS hq
  intro H locs hw hS hq
  refine lv_aload_n hx hb dL_alike_0 rfl (lv_at hl 0 rfl) ?_
  obtain ⟨r1, C3, hc2, hF⟩ := b2_t hF
  refine call_VNE hC (c_X8_next l (gP G H) (H.size - bb G) (hw.lp hn) (Nat.zero_le _)  _ _ _ hc2) wvL_145 ⟨rfl, rfl, by decide, by decide⟩ hw hn hS rfl hl.1 rfl (rest := []) rfl (Nat.le_of_ble_eq_true rfl) dL_alike_1 ⟨(show 0 + 0 ≤ 393 by omega), (show 0 + 0 ≤ 2358 by omega)⟩ (fun H locs hw hS hk => ?_)
  have hq := hq.kp hk
  refine lv_aload_n hx hb dL_alike_4 rfl (lv_at hl 1 rfl) ?_
  obtain ⟨r4, D6, hc5, hF⟩ := b2_t hF
  refine call_VNQ hC (c_X8_next l (gQ G H) (H.size - (bb G + 244)) hq.lq (Nat.zero_le _)  _ _ _ hc5) wvL_145 ⟨rfl, rfl, by decide, by decide⟩ hw hq hS rfl hl.1 rfl (rest := [.int r1]) rfl (Nat.le_of_ble_eq_true rfl) dL_alike_5 ⟨(show 0 + 0 ≤ 393 by omega), (show 0 + 0 ≤ 2358 by omega)⟩ (fun H locs hq hS hk => ?_)
  have hw := hw.kq hk
  have hJ16 : ∀ (v8 : Int32) (H : Heap) (locs : List Loc) (ls : Array Slot), J_L_alike_16 C3 D6 v8 = some (rR, CR, DR) → Wd G 244 C3 H → LW G s H locs → Oq G D6 H → lv_has ls 5 [(0, .ref (bb G + 0)), (1, .ref (bb G + 244))] → W p l e (rmX 9 154 393 2358) s m ([.ref (bb G + 0), .ref (bb G + 244)] : List Value).toArray below meth c H locs 0 0 (MQ below (QR2 G (some (.int rR)) CR DR) ([.ref (bb G + 0), .ref (bb G + 244)] : List Value).toArray s 393 2358 (frA G)) (F0 m 16 ls [.int v8]) := by
    intro v8 H locs ls hF hw hS hq hl
    unfold J_L_alike_16 at hF
    refine lv_istore_n (lv' := [(2, .int v8), (0, .ref (bb G + 0)), (1, .ref (bb G + 244))]) hx hb dL_alike_16 rfl hl (by decide) rfl (fun ls hl => ?_)
    refine lv_iconst (v := 0) hx hb dL_alike_17 (by decide) ?_
    refine lv_istore_n (lv' := [(3, .int (0 : Int32)), (2, .int v8), (0, .ref (bb G + 0)), (1, .ref (bb G + 244))]) hx hb dL_alike_18 rfl hl (by decide) rfl (fun ls hl => ?_)
    obtain ⟨o13, hit13, hG13⟩ := b1_t hF
    have hR13 : ∀ (v14 : Int32) (v15 : Int32) (C16 : Mem) (D17 : Mem) (H : Heap) (locs : List Loc) (ls : Array Slot), o13 = (v14, v15, C16, D17) → Wd G 244 C16 H → LW G s H locs → Oq G D17 H → lv_has ls 5 [(0, .ref (bb G + 0)), (1, .ref (bb G + 244)), (2, .int v14)] → W p l e (rmX 9 154 393 2358) s m ([.ref (bb G + 0), .ref (bb G + 244)] : List Value).toArray below meth c H locs 144 864 (MQ below (QR2 G (some (.int rR)) CR DR) ([.ref (bb G + 0), .ref (bb G + 244)] : List Value).toArray s 393 2358 (frA G)) (F0 m 101 ls []) := by
      intro v14 v15 C16 D17 H locs ls hE hw hS hq hl
      subst hE
      have hF := u4_t hG13
      refine lv_iconst (v := 0) hx hb dL_alike_101 (by decide) ?_
      refine lv_istore_n (lv' := [(3, .int (0 : Int32)), (0, .ref (bb G + 0)), (1, .ref (bb G + 244)), (2, .int v14)]) hx hb dL_alike_102 rfl hl (by decide) rfl (fun ls hl => ?_)
      obtain ⟨o55, hit55, hG55⟩ := b1_t hF
      have hR55 : ∀ (v56 : Int32) (v57 : Int32) (C58 : Mem) (D59 : Mem) (H : Heap) (locs : List Loc) (ls : Array Slot), o55 = (v56, v57, C58, D59) → Wd G 244 C58 H → LW G s H locs → Oq G D59 H → lv_has ls 5 [(0, .ref (bb G + 0)), (1, .ref (bb G + 244)), (2, .int v56)] → W p l e (rmX 9 154 393 2358) s m ([.ref (bb G + 0), .ref (bb G + 244)] : List Value).toArray below meth c H locs 366 2196 (MQ below (QR2 G (some (.int rR)) CR DR) ([.ref (bb G + 0), .ref (bb G + 244)] : List Value).toArray s 393 2358 (frA G)) (F0 m 166 ls []) := by
        intro v56 v57 C58 D59 H locs ls hE hw hS hq hl
        subst hE
        have hF := u4_t hG55
        refine lv_iconst (v := 0) hx hb dL_alike_166 (by decide) ?_
        refine lv_istore_n (lv' := [(3, .int (0 : Int32)), (0, .ref (bb G + 0)), (1, .ref (bb G + 244)), (2, .int v56)]) hx hb dL_alike_167 rfl hl (by decide) rfl (fun ls hl => ?_)
        obtain ⟨o91, hit91, hG91⟩ := b1_t hF
        have hR91 : ∀ (v92 : Int32) (v93 : Int32) (C94 : Mem) (D95 : Mem) (H : Heap) (locs : List Loc) (ls : Array Slot), o91 = (v92, v93, C94, D95) → Wd G 244 C94 H → LW G s H locs → Oq G D95 H → lv_has ls 5 [(2, .int v92)] → W p l e (rmX 9 154 393 2358) s m ([.ref (bb G + 0), .ref (bb G + 244)] : List Value).toArray below meth c H locs 393 2358 (MQ below (QR2 G (some (.int rR)) CR DR) ([.ref (bb G + 0), .ref (bb G + 244)] : List Value).toArray s 393 2358 (frA G)) (F0 m 207 ls []) := by
          intro v92 v93 C94 D95 H locs ls hE hw hS hq hl
          subst hE
          have hF := u4_t hG91
          refine lv_iload_n hx hb dL_alike_207 rfl (lv_at hl 0 rfl) ?_
          obtain ⟨g110, hF⟩ := gb_t hF
          exact m_zret2 hC hr hlk hw hq hS (by decide) (by decide) dL_alike_208 g110 hF
        refine iter_soundN (P := fun (w91 : Nat) (x : Int32 × Int32 × Mem × Mem) => ∀ (kc91 ks91 : Nat) (H : Heap) (locs : List Loc) (ls : Array Slot), kc91 + 3 * w91 ≤ 393 → ks91 + 18 * w91 ≤ 2358 → Wd G 244 x.2.2.1 H → LW G s H locs → Oq G x.2.2.2 H → lv_has ls 5 [(0, .ref (bb G + 0)), (1, .ref (bb G + 244)), (2, .int x.1), (3, .int x.2.1)] → W p l e (rmX 9 154 393 2358) s m ([.ref (bb G + 0), .ref (bb G + 244)] : List Value).toArray below meth c H locs kc91 ks91 (MQ below (QR2 G (some (.int rR)) CR DR) ([.ref (bb G + 0), .ref (bb G + 244)] : List Value).toArray s 393 2358 (frA G)) (F0 m 168 ls [])) (X := fun r => r = o91) ?_ 9 (v56, (0 : Int32), C58, D59) o91 hit91 rfl 366 2196 _ _ _ (by omega) (by omega) hw hS hq (lv_sub hl [1, 2, 3, 0] rfl)
        intro w91 x oo91 hF hk91 hX91 kc91 ks91 H locs ls hc91 hs91 hw hS hq hl
        obtain ⟨v87, v88, C89, D90⟩ := x
        have hF : S_L_alike_168  v87 v88 C89 D90 = some oo91 := hF
        have hw : Wd G 244 C89 H := hw
        have hq : Oq G D90 H := hq
        have hl : lv_has ls 5 [(0, .ref (bb G + 0)), (1, .ref (bb G + 244)), (2, .int v87), (3, .int v88)] := hl
        unfold S_L_alike_168 at hF
        refine lv_iload_n hx hb dL_alike_168 rfl (lv_at hl 3 rfl) ?_
        refine lv_aload_n hx hb dL_alike_169 rfl (lv_at hl 0 rfl) ?_
        refine lv_bipush (v := 7) hx hb dL_alike_170 (by decide) ?_
        obtain ⟨r96, C98, hc97, hF⟩ := b2_t hF
        refine call_SWE hC (c_L_tryAbout l (gP G H) (H.size - bb G) (hw.lp hn) (Nat.zero_le _) hfl (7 : Int32) _ _ _ hc97) wwL_129 ⟨rfl, rfl, by decide, by decide⟩ hw hn hS hl.1 rfl (rest := [.int v88]) rfl (Nat.le_of_ble_eq_true rfl) dL_alike_172 ⟨(show kc91 + 1 ≤ 393 by omega), (show ks91 + 6 ≤ 2358 by omega)⟩ (fun H locs hw hS hk => ?_)
        have hq := hq.kp hk
        refine lv_icmp_ge (tgt := 207) hx hb dL_alike_175 (by decide) (fun h99 => ?_) (fun h99 => ?_)
        · have hF := it_t h99 hF
          refine W.widen (k := 393) (n := 2358) (by omega) (by omega) ?_
          exact hR91 _ _ _ _ _ _ _ (it_exit hF hX91).symm hw hS hq (lv_sub hl [2] rfl)
        · have hF := it_f h99 hF
          refine lv_iload_n hx hb dL_alike_178 rfl (lv_at hl 2 rfl) ?_
          refine lv_if_eq (tgt := 207) hx hb dL_alike_179 (by decide) (fun h100 => ?_) (fun h100 => ?_)
          · have hF := it_t h100 hF
            refine W.widen (k := 393) (n := 2358) (by omega) (by omega) ?_
            exact hR91 _ _ _ _ _ _ _ (it_exit hF hX91).symm hw hS hq (lv_sub hl [2] rfl)
          · have hF := it_f h100 hF
            refine lv_aload_n hx hb dL_alike_182 rfl (lv_at hl 0 rfl) ?_
            refine lv_iload_n hx hb dL_alike_183 rfl (lv_at hl 3 rfl) ?_
            obtain ⟨r101, C103, hc102, hF⟩ := b2_t hF
            refine call_SWE hC (c_L_tryLayer l (gP G H) (H.size - bb G) (hw.lp hn) (Nat.zero_le _) hfl v88 _ _ _ hc102) wwL_132 ⟨rfl, rfl, by decide, by decide⟩ hw hn hS hl.1 rfl (rest := []) rfl (Nat.le_of_ble_eq_true rfl) dL_alike_184 ⟨(show (kc91 + 1) + 1 ≤ 393 by omega), (show (ks91 + 6) + 6 ≤ 2358 by omega)⟩ (fun H locs hw hS hk => ?_)
            have hq := hq.kp hk
            refine lv_aload_n hx hb dL_alike_187 rfl (lv_at hl 1 rfl) ?_
            refine lv_iload_n hx hb dL_alike_188 rfl (lv_at hl 3 rfl) ?_
            obtain ⟨r104, D106, hc105, hF⟩ := b2_t hF
            refine call_SWQ hC (c_L_tryLayer l (gQ G H) (H.size - (bb G + 244)) hq.lq (Nat.zero_le _) hfl v88 _ _ _ hc105) wwL_132 ⟨rfl, rfl, by decide, by decide⟩ hw hq hS hl.1 rfl (rest := [.int r101]) rfl (Nat.le_of_ble_eq_true rfl) dL_alike_189 ⟨(show (kc91 + 2) + 1 ≤ 393 by omega), (show (ks91 + 12) + 6 ≤ 2358 by omega)⟩ (fun H locs hq hS hk => ?_)
            have hw := hw.kq hk
            refine lv_icmp_ne (tgt := 199) hx hb dL_alike_192 (by decide) (fun h107 => ?_) (fun h107 => ?_)
            · have hF := it_f h107 hF
              refine lv_iconst (v := 0) hx hb dL_alike_199 (by decide) ?_
              refine lv_istore_n (lv' := [(2, .int (0 : Int32)), (0, .ref (bb G + 0)), (1, .ref (bb G + 244)), (3, .int v88)]) hx hb dL_alike_200 rfl hl (by decide) rfl (fun ls hl => ?_)
              obtain ⟨v108, ev108, hF⟩ := nm_t hF
              refine lv_iinc (v := v108) (lv' := [(3, .int v108), (2, .int (0 : Int32)), (0, .ref (bb G + 0)), (1, .ref (bb G + 244))]) hx hb dL_alike_201 hl (k := 3) rfl (by rw [ev108]; rfl) (by decide) rfl (fun ls hl => ?_)
              refine lv_goto (tgt := 168) hx hb dL_alike_204 (by decide) ?_
              exact it_back hF hk91 (kc91 + 3) (ks91 + 18) _ _ _ (by omega) (by omega) hw hS hq (lv_sub hl [2, 3, 1, 0] rfl)
            · have hF := it_t h107 hF
              refine lv_iconst (v := 1) hx hb dL_alike_195 (by decide) ?_
              refine lv_goto (tgt := 200) hx hb dL_alike_196 (by decide) ?_
              refine lv_istore_n (lv' := [(2, .int (1 : Int32)), (0, .ref (bb G + 0)), (1, .ref (bb G + 244)), (3, .int v88)]) hx hb dL_alike_200 rfl hl (by decide) rfl (fun ls hl => ?_)
              obtain ⟨v109, ev109, hF⟩ := nm_t hF
              refine lv_iinc (v := v109) (lv' := [(3, .int v109), (2, .int (1 : Int32)), (0, .ref (bb G + 0)), (1, .ref (bb G + 244))]) hx hb dL_alike_201 hl (k := 3) rfl (by rw [ev109]; rfl) (by decide) rfl (fun ls hl => ?_)
              refine lv_goto (tgt := 168) hx hb dL_alike_204 (by decide) ?_
              exact it_back hF hk91 (kc91 + 3) (ks91 + 18) _ _ _ (by omega) (by omega) hw hS hq (lv_sub hl [2, 3, 1, 0] rfl)
      refine iter_soundN (P := fun (w55 : Nat) (x : Int32 × Int32 × Mem × Mem) => ∀ (kc55 ks55 : Nat) (H : Heap) (locs : List Loc) (ls : Array Slot), kc55 + 37 * w55 ≤ 366 → ks55 + 222 * w55 ≤ 2196 → Wd G 244 x.2.2.1 H → LW G s H locs → Oq G x.2.2.2 H → lv_has ls 5 [(0, .ref (bb G + 0)), (1, .ref (bb G + 244)), (2, .int x.1), (3, .int x.2.1)] → W p l e (rmX 9 154 393 2358) s m ([.ref (bb G + 0), .ref (bb G + 244)] : List Value).toArray below meth c H locs kc55 ks55 (MQ below (QR2 G (some (.int rR)) CR DR) ([.ref (bb G + 0), .ref (bb G + 244)] : List Value).toArray s 393 2358 (frA G)) (F0 m 103 ls [])) (X := fun r => r = o55) ?_ 6 (v14, (0 : Int32), C16, D17) o55 hit55 rfl 144 864 _ _ _ (by omega) (by omega) hw hS hq (lv_sub hl [1, 2, 3, 0] rfl)
      intro w55 x oo55 hF hk55 hX55 kc55 ks55 H locs ls hc55 hs55 hw hS hq hl
      obtain ⟨v51, v52, C53, D54⟩ := x
      have hF : S_L_alike_103  v51 v52 C53 D54 = some oo55 := hF
      have hw : Wd G 244 C53 H := hw
      have hq : Oq G D54 H := hq
      have hl : lv_has ls 5 [(0, .ref (bb G + 0)), (1, .ref (bb G + 244)), (2, .int v51), (3, .int v52)] := hl
      unfold S_L_alike_103 at hF
      refine lv_iload_n hx hb dL_alike_103 rfl (lv_at hl 3 rfl) ?_
      refine lv_aload_n hx hb dL_alike_104 rfl (lv_at hl 0 rfl) ?_
      refine lv_bipush (v := 6) hx hb dL_alike_105 (by decide) ?_
      obtain ⟨r60, C62, hc61, hF⟩ := b2_t hF
      refine call_SWE hC (c_L_tryAbout l (gP G H) (H.size - bb G) (hw.lp hn) (Nat.zero_le _) hfl (6 : Int32) _ _ _ hc61) wwL_129 ⟨rfl, rfl, by decide, by decide⟩ hw hn hS hl.1 rfl (rest := [.int v52]) rfl (Nat.le_of_ble_eq_true rfl) dL_alike_107 ⟨(show kc55 + 1 ≤ 393 by omega), (show ks55 + 6 ≤ 2358 by omega)⟩ (fun H locs hw hS hk => ?_)
      have hq := hq.kp hk
      refine lv_icmp_ge (tgt := 166) hx hb dL_alike_110 (by decide) (fun h63 => ?_) (fun h63 => ?_)
      · have hF := it_t h63 hF
        refine W.widen (k := 366) (n := 2196) (by omega) (by omega) ?_
        exact hR55 _ _ _ _ _ _ _ (it_exit hF hX55).symm hw hS hq (lv_sub hl [0, 1, 2] rfl)
      · have hF := it_f h63 hF
        refine lv_iload_n hx hb dL_alike_113 rfl (lv_at hl 2 rfl) ?_
        refine lv_if_eq (tgt := 166) hx hb dL_alike_114 (by decide) (fun h64 => ?_) (fun h64 => ?_)
        · have hF := it_t h64 hF
          refine W.widen (k := 366) (n := 2196) (by omega) (by omega) ?_
          exact hR55 _ _ _ _ _ _ _ (it_exit hF hX55).symm hw hS hq (lv_sub hl [0, 1, 2] rfl)
        · have hF := it_f h64 hF
          refine lv_iconst (v := 0) hx hb dL_alike_117 (by decide) ?_
          refine lv_istore (lv' := [(4, .int (0 : Int32)), (0, .ref (bb G + 0)), (1, .ref (bb G + 244)), (2, .int v51), (3, .int v52)]) hx hb dL_alike_118 hl (by decide) rfl (fun ls hl => ?_)
          obtain ⟨o69, hit69, hG69⟩ := b1_t hF
          have hR69 : ∀ (v70 : Int32) (v71 : Int32) (C72 : Mem) (D73 : Mem) (H : Heap) (locs : List Loc) (ls : Array Slot), o69 = (v70, v71, C72, D73) → Wd G 244 C72 H → LW G s H locs → Oq G D73 H → lv_has ls 5 [(0, .ref (bb G + 0)), (1, .ref (bb G + 244)), (3, .int v52), (2, .int v70)] → W p l e (rmX 9 154 393 2358) s m ([.ref (bb G + 0), .ref (bb G + 244)] : List Value).toArray below meth c H locs (kc55 + 37) (ks55 + 222) (MQ below (QR2 G (some (.int rR)) CR DR) ([.ref (bb G + 0), .ref (bb G + 244)] : List Value).toArray s 393 2358 (frA G)) (F0 m 160 ls []) := by
            intro v70 v71 C72 D73 H locs ls hE hw hS hq hl
            subst hE
            have hF := u4_t hG69
            obtain ⟨v86, ev86, hF⟩ := nm_t hF
            refine lv_iinc (v := v86) (lv' := [(3, .int v86), (0, .ref (bb G + 0)), (1, .ref (bb G + 244)), (2, .int v70)]) hx hb dL_alike_160 hl (k := 2) rfl (by rw [ev86]; rfl) (by decide) rfl (fun ls hl => ?_)
            refine lv_goto (tgt := 103) hx hb dL_alike_163 (by decide) ?_
            exact it_back hF hk55 (kc55 + 37) (ks55 + 222) _ _ _ (by omega) (by omega) hw hS hq (lv_sub hl [1, 2, 3, 0] rfl)
          refine iter_soundN (P := fun (w69 : Nat) (x : Int32 × Int32 × Mem × Mem) => ∀ (kc69 ks69 : Nat) (H : Heap) (locs : List Loc) (ls : Array Slot), kc69 + 4 * w69 ≤ (kc55 + 37) → ks69 + 24 * w69 ≤ (ks55 + 222) → Wd G 244 x.2.2.1 H → LW G s H locs → Oq G x.2.2.2 H → lv_has ls 5 [(0, .ref (bb G + 0)), (1, .ref (bb G + 244)), (3, .int v52), (2, .int x.1), (4, .int x.2.1)] → W p l e (rmX 9 154 393 2358) s m ([.ref (bb G + 0), .ref (bb G + 244)] : List Value).toArray below meth c H locs kc69 ks69 (MQ below (QR2 G (some (.int rR)) CR DR) ([.ref (bb G + 0), .ref (bb G + 244)] : List Value).toArray s 393 2358 (frA G)) (F0 m 120 ls [])) (X := fun r => r = o69) ?_ 9 (v51, (0 : Int32), C62, D54) o69 hit69 rfl (kc55 + 1) (ks55 + 6) _ _ _ (by omega) (by omega) hw hS hq (lv_sub hl [1, 2, 4, 3, 0] rfl)
          intro w69 x oo69 hF hk69 hX69 kc69 ks69 H locs ls hc69 hs69 hw hS hq hl
          obtain ⟨v65, v66, C67, D68⟩ := x
          have hF : S_L_alike_120 v52 v65 v66 C67 D68 = some oo69 := hF
          have hw : Wd G 244 C67 H := hw
          have hq : Oq G D68 H := hq
          have hl : lv_has ls 5 [(0, .ref (bb G + 0)), (1, .ref (bb G + 244)), (3, .int v52), (2, .int v65), (4, .int v66)] := hl
          unfold S_L_alike_120 at hF
          refine lv_iload hx hb dL_alike_120 (lv_at hl 4 rfl) ?_
          refine lv_bipush (v := 8) hx hb dL_alike_122 (by decide) ?_
          refine lv_icmp_ge (tgt := 160) hx hb dL_alike_124 (by decide) (fun h74 => ?_) (fun h74 => ?_)
          · have hF := it_t h74 hF
            refine W.widen (k := (kc55 + 37)) (n := (ks55 + 222)) (by omega) (by omega) ?_
            exact hR69 _ _ _ _ _ _ _ (it_exit hF hX69).symm hw hS hq (lv_sub hl [0, 1, 2, 3] rfl)
          · have hF := it_f h74 hF
            refine lv_iload_n hx hb dL_alike_127 rfl (lv_at hl 3 rfl) ?_
            refine lv_if_eq (tgt := 152) hx hb dL_alike_128 (by decide) (fun h75 => ?_) (fun h75 => ?_)
            · have hF := it_t h75 hF
              refine lv_iconst (v := 0) hx hb dL_alike_152 (by decide) ?_
              refine lv_istore_n (lv' := [(2, .int (0 : Int32)), (0, .ref (bb G + 0)), (1, .ref (bb G + 244)), (3, .int v52), (4, .int v66)]) hx hb dL_alike_153 rfl hl (by decide) rfl (fun ls hl => ?_)
              obtain ⟨v76, ev76, hF⟩ := nm_t hF
              refine lv_iinc (v := v76) (lv' := [(4, .int v76), (2, .int (0 : Int32)), (0, .ref (bb G + 0)), (1, .ref (bb G + 244)), (3, .int v52)]) hx hb dL_alike_154 hl (k := 4) rfl (by rw [ev76]; rfl) (by decide) rfl (fun ls hl => ?_)
              refine lv_goto (tgt := 120) hx hb dL_alike_157 (by decide) ?_
              exact it_back hF hk69 kc69 ks69 _ _ _ (by omega) (by omega) hw hS hq (lv_sub hl [2, 3, 4, 1, 0] rfl)
            · have hF := it_f h75 hF
              refine lv_aload_n hx hb dL_alike_131 rfl (lv_at hl 0 rfl) ?_
              refine lv_iload_n hx hb dL_alike_132 rfl (lv_at hl 2 rfl) ?_
              refine lv_iload hx hb dL_alike_133 (lv_at hl 4 rfl) ?_
              obtain ⟨r77, C79, hc78, hF⟩ := b2_t hF
              refine call_SWE hC (c_L_tryBoiler l (gP G H) (H.size - bb G) (hw.lp hn) (Nat.zero_le _) hfl v52 v66 _ _ _ hc78) wwL_151 ⟨rfl, rfl, by decide, by decide⟩ hw hn hS hl.1 rfl (rest := []) rfl (Nat.le_of_ble_eq_true rfl) dL_alike_135 ⟨(show kc69 + 2 ≤ 393 by omega), (show ks69 + 12 ≤ 2358 by omega)⟩ (fun H locs hw hS hk => ?_)
              have hq := hq.kp hk
              refine lv_aload_n hx hb dL_alike_138 rfl (lv_at hl 1 rfl) ?_
              refine lv_iload_n hx hb dL_alike_139 rfl (lv_at hl 2 rfl) ?_
              refine lv_iload hx hb dL_alike_140 (lv_at hl 4 rfl) ?_
              obtain ⟨r80, D82, hc81, hF⟩ := b2_t hF
              refine call_SWQ hC (c_L_tryBoiler l (gQ G H) (H.size - (bb G + 244)) hq.lq (Nat.zero_le _) hfl v52 v66 _ _ _ hc81) wwL_151 ⟨rfl, rfl, by decide, by decide⟩ hw hq hS hl.1 rfl (rest := [.int r77]) rfl (Nat.le_of_ble_eq_true rfl) dL_alike_142 ⟨(show (kc69 + 2) + 2 ≤ 393 by omega), (show (ks69 + 12) + 12 ≤ 2358 by omega)⟩ (fun H locs hq hS hk => ?_)
              have hw := hw.kq hk
              refine lv_icmp_ne (tgt := 152) hx hb dL_alike_145 (by decide) (fun h83 => ?_) (fun h83 => ?_)
              · have hF := it_f h83 hF
                refine lv_iconst (v := 0) hx hb dL_alike_152 (by decide) ?_
                refine lv_istore_n (lv' := [(2, .int (0 : Int32)), (0, .ref (bb G + 0)), (1, .ref (bb G + 244)), (3, .int v52), (4, .int v66)]) hx hb dL_alike_153 rfl hl (by decide) rfl (fun ls hl => ?_)
                obtain ⟨v84, ev84, hF⟩ := nm_t hF
                refine lv_iinc (v := v84) (lv' := [(4, .int v84), (2, .int (0 : Int32)), (0, .ref (bb G + 0)), (1, .ref (bb G + 244)), (3, .int v52)]) hx hb dL_alike_154 hl (k := 4) rfl (by rw [ev84]; rfl) (by decide) rfl (fun ls hl => ?_)
                refine lv_goto (tgt := 120) hx hb dL_alike_157 (by decide) ?_
                exact it_back hF hk69 (kc69 + 4) (ks69 + 24) _ _ _ (by omega) (by omega) hw hS hq (lv_sub hl [2, 3, 4, 1, 0] rfl)
              · have hF := it_t h83 hF
                refine lv_iconst (v := 1) hx hb dL_alike_148 (by decide) ?_
                refine lv_goto (tgt := 153) hx hb dL_alike_149 (by decide) ?_
                refine lv_istore_n (lv' := [(2, .int (1 : Int32)), (0, .ref (bb G + 0)), (1, .ref (bb G + 244)), (3, .int v52), (4, .int v66)]) hx hb dL_alike_153 rfl hl (by decide) rfl (fun ls hl => ?_)
                obtain ⟨v85, ev85, hF⟩ := nm_t hF
                refine lv_iinc (v := v85) (lv' := [(4, .int v85), (2, .int (1 : Int32)), (0, .ref (bb G + 0)), (1, .ref (bb G + 244)), (3, .int v52)]) hx hb dL_alike_154 hl (k := 4) rfl (by rw [ev85]; rfl) (by decide) rfl (fun ls hl => ?_)
                refine lv_goto (tgt := 120) hx hb dL_alike_157 (by decide) ?_
                exact it_back hF hk69 (kc69 + 4) (ks69 + 24) _ _ _ (by omega) (by omega) hw hS hq (lv_sub hl [2, 3, 4, 1, 0] rfl)
    refine iter_soundN (P := fun (w13 : Nat) (x : Int32 × Int32 × Mem × Mem) => ∀ (kc13 ks13 : Nat) (H : Heap) (locs : List Loc) (ls : Array Slot), kc13 + 8 * w13 ≤ 144 → ks13 + 48 * w13 ≤ 864 → Wd G 244 x.2.2.1 H → LW G s H locs → Oq G x.2.2.2 H → lv_has ls 5 [(0, .ref (bb G + 0)), (1, .ref (bb G + 244)), (2, .int x.1), (3, .int x.2.1)] → W p l e (rmX 9 154 393 2358) s m ([.ref (bb G + 0), .ref (bb G + 244)] : List Value).toArray below meth c H locs kc13 ks13 (MQ below (QR2 G (some (.int rR)) CR DR) ([.ref (bb G + 0), .ref (bb G + 244)] : List Value).toArray s 393 2358 (frA G)) (F0 m 19 ls [])) (X := fun r => r = o13) ?_ 18 (v8, (0 : Int32), C3, D6) o13 hit13 rfl 0 0 _ _ _ (by omega) (by omega) hw hS hq (lv_sub hl [2, 3, 1, 0] rfl)
    intro w13 x oo13 hF hk13 hX13 kc13 ks13 H locs ls hc13 hs13 hw hS hq hl
    obtain ⟨v9, v10, C11, D12⟩ := x
    have hF : S_L_alike_19  v9 v10 C11 D12 = some oo13 := hF
    have hw : Wd G 244 C11 H := hw
    have hq : Oq G D12 H := hq
    have hl : lv_has ls 5 [(0, .ref (bb G + 0)), (1, .ref (bb G + 244)), (2, .int v9), (3, .int v10)] := hl
    unfold S_L_alike_19 at hF
    refine lv_iload_n hx hb dL_alike_19 rfl (lv_at hl 3 rfl) ?_
    refine lv_bipush (v := 17) hx hb dL_alike_20 (by decide) ?_
    refine lv_icmp_ge (tgt := 101) hx hb dL_alike_22 (by decide) (fun h18 => ?_) (fun h18 => ?_)
    · have hF := it_t h18 hF
      refine W.widen (k := 144) (n := 864) (by omega) (by omega) ?_
      exact hR13 _ _ _ _ _ _ _ (it_exit hF hX13).symm hw hS hq (lv_sub hl [0, 1, 2] rfl)
    · have hF := it_f h18 hF
      refine lv_iload_n hx hb dL_alike_25 rfl (lv_at hl 2 rfl) ?_
      refine lv_if_eq (tgt := 93) hx hb dL_alike_26 (by decide) (fun h19 => ?_) (fun h19 => ?_)
      · have hF := it_t h19 hF
        refine lv_iconst (v := 0) hx hb dL_alike_93 (by decide) ?_
        refine lv_istore_n (lv' := [(2, .int (0 : Int32)), (0, .ref (bb G + 0)), (1, .ref (bb G + 244)), (3, .int v10)]) hx hb dL_alike_94 rfl hl (by decide) rfl (fun ls hl => ?_)
        obtain ⟨v20, ev20, hF⟩ := nm_t hF
        refine lv_iinc (v := v20) (lv' := [(3, .int v20), (2, .int (0 : Int32)), (0, .ref (bb G + 0)), (1, .ref (bb G + 244))]) hx hb dL_alike_95 hl (k := 3) rfl (by rw [ev20]; rfl) (by decide) rfl (fun ls hl => ?_)
        refine lv_goto (tgt := 19) hx hb dL_alike_98 (by decide) ?_
        exact it_back hF hk13 kc13 ks13 _ _ _ (by omega) (by omega) hw hS hq (lv_sub hl [2, 3, 1, 0] rfl)
      · have hF := it_f h19 hF
        refine lv_aload_n hx hb dL_alike_29 rfl (lv_at hl 0 rfl) ?_
        refine lv_iload_n hx hb dL_alike_30 rfl (lv_at hl 3 rfl) ?_
        obtain ⟨r21, C23, hc22, hF⟩ := b2_t hF
        refine call_SWE hC (c_L_tryAbout l (gP G H) (H.size - bb G) (hw.lp hn) (Nat.zero_le _) hfl v10 _ _ _ hc22) wwL_129 ⟨rfl, rfl, by decide, by decide⟩ hw hn hS hl.1 rfl (rest := []) rfl (Nat.le_of_ble_eq_true rfl) dL_alike_31 ⟨(show kc13 + 1 ≤ 393 by omega), (show ks13 + 6 ≤ 2358 by omega)⟩ (fun H locs hw hS hk => ?_)
        have hq := hq.kp hk
        refine lv_aload_n hx hb dL_alike_34 rfl (lv_at hl 1 rfl) ?_
        refine lv_iload_n hx hb dL_alike_35 rfl (lv_at hl 3 rfl) ?_
        obtain ⟨r24, D26, hc25, hF⟩ := b2_t hF
        refine call_SWQ hC (c_L_tryAbout l (gQ G H) (H.size - (bb G + 244)) hq.lq (Nat.zero_le _) hfl v10 _ _ _ hc25) wwL_129 ⟨rfl, rfl, by decide, by decide⟩ hw hq hS hl.1 rfl (rest := [.int r21]) rfl (Nat.le_of_ble_eq_true rfl) dL_alike_36 ⟨(show (kc13 + 1) + 1 ≤ 393 by omega), (show (ks13 + 6) + 6 ≤ 2358 by omega)⟩ (fun H locs hq hS hk => ?_)
        have hw := hw.kq hk
        refine lv_icmp_ne (tgt := 93) hx hb dL_alike_39 (by decide) (fun h27 => ?_) (fun h27 => ?_)
        · have hF := it_f h27 hF
          refine lv_iconst (v := 0) hx hb dL_alike_93 (by decide) ?_
          refine lv_istore_n (lv' := [(2, .int (0 : Int32)), (0, .ref (bb G + 0)), (1, .ref (bb G + 244)), (3, .int v10)]) hx hb dL_alike_94 rfl hl (by decide) rfl (fun ls hl => ?_)
          obtain ⟨v28, ev28, hF⟩ := nm_t hF
          refine lv_iinc (v := v28) (lv' := [(3, .int v28), (2, .int (0 : Int32)), (0, .ref (bb G + 0)), (1, .ref (bb G + 244))]) hx hb dL_alike_95 hl (k := 3) rfl (by rw [ev28]; rfl) (by decide) rfl (fun ls hl => ?_)
          refine lv_goto (tgt := 19) hx hb dL_alike_98 (by decide) ?_
          exact it_back hF hk13 (kc13 + 2) (ks13 + 12) _ _ _ (by omega) (by omega) hw hS hq (lv_sub hl [2, 3, 1, 0] rfl)
        · have hF := it_t h27 hF
          refine lv_iload_n hx hb dL_alike_42 rfl (lv_at hl 3 rfl) ?_
          refine lv_iconst (v := 5) hx hb dL_alike_43 (by decide) ?_
          have hJ60 : ∀ (C30 : Mem) (D31 : Mem) (H : Heap) (locs : List Loc) (ls : Array Slot), J_L_alike_60 v10 C30 D31 = some oo13 → Wd G 244 C30 H → LW G s H locs → Oq G D31 H → lv_has ls 5 [(0, .ref (bb G + 0)), (1, .ref (bb G + 244)), (3, .int v10)] → W p l e (rmX 9 154 393 2358) s m ([.ref (bb G + 0), .ref (bb G + 244)] : List Value).toArray below meth c H locs (kc13 + 4) (ks13 + 24) (MQ below (QR2 G (some (.int rR)) CR DR) ([.ref (bb G + 0), .ref (bb G + 244)] : List Value).toArray s 393 2358 (frA G)) (F0 m 60 ls []) := by
            intro C30 D31 H locs ls hF hw hS hq hl
            unfold J_L_alike_60 at hF
            refine lv_iload_n hx hb dL_alike_60 rfl (lv_at hl 2 rfl) ?_
            refine lv_bipush (v := 7) hx hb dL_alike_61 (by decide) ?_
            refine lv_icmp_gt (tgt := 89) hx hb dL_alike_63 (by decide) (fun h32 => ?_) (fun h32 => ?_)
            · have hF := it_t h32 hF
              refine lv_iconst (v := 1) hx hb dL_alike_89 (by decide) ?_
              refine lv_goto (tgt := 94) hx hb dL_alike_90 (by decide) ?_
              refine lv_istore_n (lv' := [(2, .int (1 : Int32)), (0, .ref (bb G + 0)), (1, .ref (bb G + 244)), (3, .int v10)]) hx hb dL_alike_94 rfl hl (by decide) rfl (fun ls hl => ?_)
              obtain ⟨v33, ev33, hF⟩ := nm_t hF
              refine lv_iinc (v := v33) (lv' := [(3, .int v33), (2, .int (1 : Int32)), (0, .ref (bb G + 0)), (1, .ref (bb G + 244))]) hx hb dL_alike_95 hl (k := 3) rfl (by rw [ev33]; rfl) (by decide) rfl (fun ls hl => ?_)
              refine lv_goto (tgt := 19) hx hb dL_alike_98 (by decide) ?_
              exact it_back hF hk13 (kc13 + 4) (ks13 + 24) _ _ _ (by omega) (by omega) hw hS hq (lv_sub hl [2, 3, 1, 0] rfl)
            · have hF := it_f h32 hF
              refine lv_aload_n hx hb dL_alike_66 rfl (lv_at hl 0 rfl) ?_
              refine lv_iload_n hx hb dL_alike_67 rfl (lv_at hl 2 rfl) ?_
              refine lv_iconst (v := 4) hx hb dL_alike_68 (by decide) ?_
              refine lv_idiv hx hb dL_alike_69 (by decide) ?_
              refine lv_iload_n hx hb dL_alike_70 rfl (lv_at hl 2 rfl) ?_
              refine lv_iconst (v := 4) hx hb dL_alike_71 (by decide) ?_
              refine lv_irem hx hb dL_alike_72 (by decide) ?_
              obtain ⟨r34, C36, hc35, hF⟩ := b2_t hF
              refine call_SWE hC (c_L_tryFlue l (gP G H) (H.size - bb G) (hw.lp hn) (Nat.zero_le _) hfl (v10 / (4 : Int32)) (v10 - v10 / (4 : Int32) * (4 : Int32)) _ _ _ hc35) wwL_135 ⟨rfl, rfl, by decide, by decide⟩ hw hn hS hl.1 rfl (rest := []) rfl (Nat.le_of_ble_eq_true rfl) dL_alike_73 ⟨(show (kc13 + 4) + 2 ≤ 393 by omega), (show (ks13 + 24) + 12 ≤ 2358 by omega)⟩ (fun H locs hw hS hk => ?_)
              have hq := hq.kp hk
              refine lv_aload_n hx hb dL_alike_76 rfl (lv_at hl 1 rfl) ?_
              refine lv_iload_n hx hb dL_alike_77 rfl (lv_at hl 2 rfl) ?_
              refine lv_iconst (v := 4) hx hb dL_alike_78 (by decide) ?_
              refine lv_idiv hx hb dL_alike_79 (by decide) ?_
              refine lv_iload_n hx hb dL_alike_80 rfl (lv_at hl 2 rfl) ?_
              refine lv_iconst (v := 4) hx hb dL_alike_81 (by decide) ?_
              refine lv_irem hx hb dL_alike_82 (by decide) ?_
              obtain ⟨r37, D39, hc38, hF⟩ := b2_t hF
              refine call_SWQ hC (c_L_tryFlue l (gQ G H) (H.size - (bb G + 244)) hq.lq (Nat.zero_le _) hfl (v10 / (4 : Int32)) (v10 - v10 / (4 : Int32) * (4 : Int32)) _ _ _ hc38) wwL_135 ⟨rfl, rfl, by decide, by decide⟩ hw hq hS hl.1 rfl (rest := [.int r34]) rfl (Nat.le_of_ble_eq_true rfl) dL_alike_83 ⟨(show (kc13 + 6) + 2 ≤ 393 by omega), (show (ks13 + 36) + 12 ≤ 2358 by omega)⟩ (fun H locs hq hS hk => ?_)
              have hw := hw.kq hk
              refine lv_icmp_ne (tgt := 93) hx hb dL_alike_86 (by decide) (fun h40 => ?_) (fun h40 => ?_)
              · have hF := it_f h40 hF
                refine lv_iconst (v := 0) hx hb dL_alike_93 (by decide) ?_
                refine lv_istore_n (lv' := [(2, .int (0 : Int32)), (0, .ref (bb G + 0)), (1, .ref (bb G + 244)), (3, .int v10)]) hx hb dL_alike_94 rfl hl (by decide) rfl (fun ls hl => ?_)
                obtain ⟨v41, ev41, hF⟩ := nm_t hF
                refine lv_iinc (v := v41) (lv' := [(3, .int v41), (2, .int (0 : Int32)), (0, .ref (bb G + 0)), (1, .ref (bb G + 244))]) hx hb dL_alike_95 hl (k := 3) rfl (by rw [ev41]; rfl) (by decide) rfl (fun ls hl => ?_)
                refine lv_goto (tgt := 19) hx hb dL_alike_98 (by decide) ?_
                exact it_back hF hk13 (kc13 + 8) (ks13 + 48) _ _ _ (by omega) (by omega) hw hS hq (lv_sub hl [2, 3, 1, 0] rfl)
              · have hF := it_t h40 hF
                refine lv_iconst (v := 1) hx hb dL_alike_89 (by decide) ?_
                refine lv_goto (tgt := 94) hx hb dL_alike_90 (by decide) ?_
                refine lv_istore_n (lv' := [(2, .int (1 : Int32)), (0, .ref (bb G + 0)), (1, .ref (bb G + 244)), (3, .int v10)]) hx hb dL_alike_94 rfl hl (by decide) rfl (fun ls hl => ?_)
                obtain ⟨v42, ev42, hF⟩ := nm_t hF
                refine lv_iinc (v := v42) (lv' := [(3, .int v42), (2, .int (1 : Int32)), (0, .ref (bb G + 0)), (1, .ref (bb G + 244))]) hx hb dL_alike_95 hl (k := 3) rfl (by rw [ev42]; rfl) (by decide) rfl (fun ls hl => ?_)
                refine lv_goto (tgt := 19) hx hb dL_alike_98 (by decide) ?_
                exact it_back hF hk13 (kc13 + 8) (ks13 + 48) _ _ _ (by omega) (by omega) hw hS hq (lv_sub hl [2, 3, 1, 0] rfl)
          refine lv_icmp_gt (tgt := 60) hx hb dL_alike_44 (by decide) (fun h29 => ?_) (fun h29 => ?_)
          · have hF := it_t h29 hF
            refine W.widen (k := (kc13 + 4)) (n := (ks13 + 24)) (by omega) (by omega) ?_
            exact hJ60 C23 D26 _ _ _ hF hw hS hq (lv_sub hl [0, 1, 3] rfl)
          · have hF := it_f h29 hF
            refine lv_aload_n hx hb dL_alike_47 rfl (lv_at hl 0 rfl) ?_
            refine lv_iload_n hx hb dL_alike_48 rfl (lv_at hl 3 rfl) ?_
            obtain ⟨r43, C45, hc44, hF⟩ := b2_t hF
            refine call_SWE hC (c_L_tryAccount l (gP G H) (H.size - bb G) (hw.lp hn) (Nat.zero_le _) hfl v10 _ _ _ hc44) wwL_148 ⟨rfl, rfl, by decide, by decide⟩ hw hn hS hl.1 rfl (rest := []) rfl (Nat.le_of_ble_eq_true rfl) dL_alike_49 ⟨(show (kc13 + 2) + 1 ≤ 393 by omega), (show (ks13 + 12) + 6 ≤ 2358 by omega)⟩ (fun H locs hw hS hk => ?_)
            have hq := hq.kp hk
            refine lv_aload_n hx hb dL_alike_52 rfl (lv_at hl 1 rfl) ?_
            refine lv_iload_n hx hb dL_alike_53 rfl (lv_at hl 3 rfl) ?_
            obtain ⟨r46, D48, hc47, hF⟩ := b2_t hF
            refine call_SWQ hC (c_L_tryAccount l (gQ G H) (H.size - (bb G + 244)) hq.lq (Nat.zero_le _) hfl v10 _ _ _ hc47) wwL_148 ⟨rfl, rfl, by decide, by decide⟩ hw hq hS hl.1 rfl (rest := [.int r43]) rfl (Nat.le_of_ble_eq_true rfl) dL_alike_54 ⟨(show (kc13 + 3) + 1 ≤ 393 by omega), (show (ks13 + 18) + 6 ≤ 2358 by omega)⟩ (fun H locs hq hS hk => ?_)
            have hw := hw.kq hk
            refine lv_icmp_ne (tgt := 93) hx hb dL_alike_57 (by decide) (fun h49 => ?_) (fun h49 => ?_)
            · have hF := it_f h49 hF
              refine lv_iconst (v := 0) hx hb dL_alike_93 (by decide) ?_
              refine lv_istore_n (lv' := [(2, .int (0 : Int32)), (0, .ref (bb G + 0)), (1, .ref (bb G + 244)), (3, .int v10)]) hx hb dL_alike_94 rfl hl (by decide) rfl (fun ls hl => ?_)
              obtain ⟨v50, ev50, hF⟩ := nm_t hF
              refine lv_iinc (v := v50) (lv' := [(3, .int v50), (2, .int (0 : Int32)), (0, .ref (bb G + 0)), (1, .ref (bb G + 244))]) hx hb dL_alike_95 hl (k := 3) rfl (by rw [ev50]; rfl) (by decide) rfl (fun ls hl => ?_)
              refine lv_goto (tgt := 19) hx hb dL_alike_98 (by decide) ?_
              exact it_back hF hk13 (kc13 + 4) (ks13 + 24) _ _ _ (by omega) (by omega) hw hS hq (lv_sub hl [2, 3, 1, 0] rfl)
            · have hF := it_t h49 hF
              exact hJ60 C45 D48 _ _ _ hF hw hS hq (lv_sub hl [0, 1, 3] rfl)
  refine lv_icmp_ne (tgt := 15) hx hb dL_alike_8 (by decide) (fun h7 => ?_) (fun h7 => ?_)
  · have hF := it_f h7 hF
    refine lv_iconst (v := 0) hx hb dL_alike_15 (by decide) ?_
    exact hJ16 (0 : Int32) _ _ _ hF hw hS hq (lv_sub hl [0, 1] rfl)
  · have hF := it_t h7 hF
    refine lv_iconst (v := 1) hx hb dL_alike_11 (by decide) ?_
    refine lv_goto (tgt := 16) hx hb dL_alike_12 (by decide) ?_
    exact hJ16 (1 : Int32) _ _ _ hF hw hS hq (lv_sub hl [0, 1] rfl)
