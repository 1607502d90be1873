/-! contracts of the law's methods, by program out of the bytecode -/

set_option maxHeartbeats 4000000 in
set_option maxRecDepth 100000 in
theorem c_L_ticks (l : Launch) (G : GG) (n : Nat) (hn : 244 ≤ n) (hn2 : 0 ≤ n) (hfl : l.stackTraces = false) (x1 : Int32) (C : Mem) (rR : Int32) (CR : Mem) (hF : F_L_ticks x1 C = some (rR, CR)) : CtN l yL_ticks cL_ticks 30 (some .boolean) (rmX 11 204 11130 66990) 11130 66990 G n C [.ref (bb G + 0), .int x1] (some (.int rR)) CR := by
  refine CtN.of (by decide) (Nat.le_of_ble_eq_true rfl) ?_
  intro p e s m below meth c ls hC hr hlk hw hl
  have hx := hC.1
  have hb := hC.2.1
  have hS : LW G s s.heap [] := va_S.rf
  have hl : lv_has ls 30 [(0, .ref (bb G + 0)), (1, .int x1)] := hl
  unfold F_L_ticks at hF
  suffices key : ∀ (H : Heap) (locs : List Loc), Wd G n C H → LW G s H locs → W p l e (rmX 11 204 11130 66990) s m ([.ref (bb G + 0), .int x1] : List Value).toArray below meth c H locs 0 0 (MQ below (QR G n (some (.int rR)) CR) ([.ref (bb G + 0), .int x1] : List Value).toArray s 11130 66990 (frA G)) (F0 m 0 ls []) by exact key _ _ hw hS
  intro H locs hw hS
  refine lv_aload_n hx hb dL_ticks_0 rfl (lv_at hl 0 rfl) ?_
  refine lv_bipush (v := 6) hx hb dL_ticks_1 (by decide) ?_
  obtain ⟨r1, C3, hc2, hF⟩ := b2_t hF
  refine call_SWE hC (c_L_tryAbout l (gP G H) (H.size - bb G) (hw.lp hn) (Nat.zero_le _) hfl (6 : Int32) _ _ _ hc2) wwL_129 ⟨rfl, rfl, by decide, by decide⟩ hw hn hS hl.1 rfl (rest := []) rfl (Nat.le_of_ble_eq_true rfl) dL_ticks_3 ⟨(show 0 + 1 ≤ 11130 by omega), (show 0 + 6 ≤ 66990 by omega)⟩ (fun H locs hw hS hk => ?_)
  refine lv_istore_n (lv' := [(2, .int r1), (0, .ref (bb G + 0)), (1, .int x1)]) hx hb dL_ticks_6 rfl hl (by decide) rfl (fun ls hl => ?_)
  refine lv_iconst (v := 1) hx hb dL_ticks_7 (by decide) ?_
  refine lv_iload_n hx hb dL_ticks_8 rfl (lv_at hl 2 rfl) ?_
  refine lv_bipush (v := 20) hx hb dL_ticks_9 (by decide) ?_
  refine lv_irem hx hb dL_ticks_11 (by decide) ?_
  refine lv_iadd hx hb dL_ticks_12 ?_
  obtain ⟨v4, ev4, hF⟩ := nm_t hF
  refine lv_nmi ev4 ?_
  refine lv_istore_n (lv' := [(3, .int v4), (2, .int r1), (0, .ref (bb G + 0)), (1, .int x1)]) hx hb dL_ticks_13 rfl hl (by decide) rfl (fun ls hl => ?_)
  refine lv_iload_n hx hb dL_ticks_14 rfl (lv_at hl 3 rfl) ?_
  refine lv_bipush (v := 32) hx hb dL_ticks_15 (by decide) ?_
  refine lv_idiv hx hb dL_ticks_17 (by decide) ?_
  refine lv_iconst (v := 4) hx hb dL_ticks_18 (by decide) ?_
  refine lv_irem hx hb dL_ticks_19 (by decide) ?_
  obtain ⟨v5, ev5, hF⟩ := nm_t hF
  refine lv_nmi ev5 ?_
  refine lv_istore (lv' := [(4, .int v5), (3, .int v4), (2, .int r1), (0, .ref (bb G + 0)), (1, .int x1)]) hx hb dL_ticks_20 hl (by decide) rfl (fun ls hl => ?_)
  refine lv_aload_n hx hb dL_ticks_22 rfl (lv_at hl 3 rfl) ?_
  refine lv_iload_n hx hb dL_ticks_23 rfl (lv_at hl 1 rfl) ?_
  refine lv_iload hx hb dL_ticks_24 (lv_at hl 0 rfl) ?_
  refine lv_iconst (v := 0) hx hb dL_ticks_26 (by decide) ?_
  obtain ⟨r6, C8, hc7, hF⟩ := b2_t hF
  refine call_SWE hC (c_L_tryAhead l (gP G H) (H.size - bb G) (hw.lp hn) (Nat.zero_le _) hfl v4 v5 (0 : Int32) _ _ _ hc7) wwL_185 ⟨rfl, rfl, by decide, by decide⟩ hw hn hS hl.1 rfl (rest := []) rfl (Nat.le_of_ble_eq_true rfl) dL_ticks_27 ⟨(show 1 + 3 ≤ 11130 by omega), (show 6 + 18 ≤ 66990 by omega)⟩ (fun H locs hw hS hk => ?_)
  refine lv_istore (lv' := [(5, .int r6), (4, .int v5), (3, .int v4), (2, .int r1), (0, .ref (bb G + 0)), (1, .int x1)]) hx hb dL_ticks_30 hl (by decide) rfl (fun ls hl => ?_)
  refine lv_aload_n hx hb dL_ticks_32 rfl (lv_at hl 4 rfl) ?_
  refine lv_iload_n hx hb dL_ticks_33 rfl (lv_at hl 2 rfl) ?_
  refine lv_iload hx hb dL_ticks_34 (lv_at hl 1 rfl) ?_
  refine lv_bipush (v := 6) hx hb dL_ticks_36 (by decide) ?_
  obtain ⟨r9, C11, hc10, hF⟩ := b2_t hF
  refine call_SWE hC (c_L_tryAhead l (gP G H) (H.size - bb G) (hw.lp hn) (Nat.zero_le _) hfl v4 v5 (6 : Int32) _ _ _ hc10) wwL_185 ⟨rfl, rfl, by decide, by decide⟩ hw hn hS hl.1 rfl (rest := []) rfl (Nat.le_of_ble_eq_true rfl) dL_ticks_38 ⟨(show 4 + 3 ≤ 11130 by omega), (show 24 + 18 ≤ 66990 by omega)⟩ (fun H locs hw hS hk => ?_)
  refine lv_istore (lv' := [(6, .int r9), (5, .int r6), (4, .int v5), (3, .int v4), (2, .int r1), (0, .ref (bb G + 0)), (1, .int x1)]) hx hb dL_ticks_41 hl (by decide) rfl (fun ls hl => ?_)
  refine lv_aload_n hx hb dL_ticks_43 rfl (lv_at hl 5 rfl) ?_
  refine lv_iload_n hx hb dL_ticks_44 rfl (lv_at hl 3 rfl) ?_
  refine lv_iload hx hb dL_ticks_45 (lv_at hl 2 rfl) ?_
  refine lv_iconst (v := 3) hx hb dL_ticks_47 (by decide) ?_
  obtain ⟨r12, C14, hc13, hF⟩ := b2_t hF
  refine call_SWE hC (c_L_tryAhead l (gP G H) (H.size - bb G) (hw.lp hn) (Nat.zero_le _) hfl v4 v5 (3 : Int32) _ _ _ hc13) wwL_185 ⟨rfl, rfl, by decide, by decide⟩ hw hn hS hl.1 rfl (rest := []) rfl (Nat.le_of_ble_eq_true rfl) dL_ticks_48 ⟨(show 7 + 3 ≤ 11130 by omega), (show 42 + 18 ≤ 66990 by omega)⟩ (fun H locs hw hS hk => ?_)
  refine lv_aload_n hx hb dL_ticks_51 rfl (lv_at hl 5 rfl) ?_
  refine lv_iconst (v := 4) hx hb dL_ticks_52 (by decide) ?_
  obtain ⟨r15, C17, hc16, hF⟩ := b2_t hF
  refine call_SWE hC (c_L_tryAccount l (gP G H) (H.size - bb G) (hw.lp hn) (Nat.zero_le _) hfl (4 : Int32) _ _ _ hc16) wwL_148 ⟨rfl, rfl, by decide, by decide⟩ hw hn hS hl.1 rfl (rest := [.int r12]) rfl (Nat.le_of_ble_eq_true rfl) dL_ticks_53 ⟨(show 10 + 1 ≤ 11130 by omega), (show 60 + 6 ≤ 66990 by omega)⟩ (fun H locs hw hS hk => ?_)
  refine lv_iadd hx hb dL_ticks_56 ?_
  obtain ⟨v18, ev18, hF⟩ := nm_t hF
  refine lv_nmi ev18 ?_
  refine lv_istore (lv' := [(7, .int v18), (6, .int r9), (5, .int r6), (4, .int v5), (3, .int v4), (2, .int r1), (0, .ref (bb G + 0)), (1, .int x1)]) hx hb dL_ticks_57 hl (by decide) rfl (fun ls hl => ?_)
  refine lv_aload_n hx hb dL_ticks_59 rfl (lv_at hl 6 rfl) ?_
  refine lv_iload_n hx hb dL_ticks_60 rfl (lv_at hl 4 rfl) ?_
  refine lv_iload hx hb dL_ticks_61 (lv_at hl 3 rfl) ?_
  refine lv_iconst (v := 4) hx hb dL_ticks_63 (by decide) ?_
  obtain ⟨r19, C21, hc20, hF⟩ := b2_t hF
  refine call_SWE hC (c_L_tryAhead l (gP G H) (H.size - bb G) (hw.lp hn) (Nat.zero_le _) hfl v4 v5 (4 : Int32) _ _ _ hc20) wwL_185 ⟨rfl, rfl, by decide, by decide⟩ hw hn hS hl.1 rfl (rest := []) rfl (Nat.le_of_ble_eq_true rfl) dL_ticks_64 ⟨(show 11 + 3 ≤ 11130 by omega), (show 66 + 18 ≤ 66990 by omega)⟩ (fun H locs hw hS hk => ?_)
  refine lv_istore (lv' := [(8, .int r19), (7, .int v18), (6, .int r9), (5, .int r6), (4, .int v5), (3, .int v4), (2, .int r1), (0, .ref (bb G + 0)), (1, .int x1)]) hx hb dL_ticks_67 hl (by decide) rfl (fun ls hl => ?_)
  refine lv_aload_n hx hb dL_ticks_69 rfl (lv_at hl 7 rfl) ?_
  refine lv_iload_n hx hb dL_ticks_70 rfl (lv_at hl 5 rfl) ?_
  refine lv_iload hx hb dL_ticks_71 (lv_at hl 4 rfl) ?_
  refine lv_iconst (v := 5) hx hb dL_ticks_73 (by decide) ?_
  obtain ⟨r22, C24, hc23, hF⟩ := b2_t hF
  refine call_SWE hC (c_L_tryAhead l (gP G H) (H.size - bb G) (hw.lp hn) (Nat.zero_le _) hfl v4 v5 (5 : Int32) _ _ _ hc23) wwL_185 ⟨rfl, rfl, by decide, by decide⟩ hw hn hS hl.1 rfl (rest := []) rfl (Nat.le_of_ble_eq_true rfl) dL_ticks_74 ⟨(show 14 + 3 ≤ 11130 by omega), (show 84 + 18 ≤ 66990 by omega)⟩ (fun H locs hw hS hk => ?_)
  refine lv_aload_n hx hb dL_ticks_77 rfl (lv_at hl 7 rfl) ?_
  refine lv_bipush (v := 14) hx hb dL_ticks_78 (by decide) ?_
  obtain ⟨r25, C27, hc26, hF⟩ := b2_t hF
  refine call_SWE hC (c_L_tryAbout l (gP G H) (H.size - bb G) (hw.lp hn) (Nat.zero_le _) hfl (14 : Int32) _ _ _ hc26) wwL_129 ⟨rfl, rfl, by decide, by decide⟩ hw hn hS hl.1 rfl (rest := [.int r22]) rfl (Nat.le_of_ble_eq_true rfl) dL_ticks_80 ⟨(show 17 + 1 ≤ 11130 by omega), (show 102 + 6 ≤ 66990 by omega)⟩ (fun H locs hw hS hk => ?_)
  refine lv_iadd hx hb dL_ticks_83 ?_
  obtain ⟨v28, ev28, hF⟩ := nm_t hF
  refine lv_nmi ev28 ?_
  refine lv_istore (lv' := [(9, .int v28), (8, .int r19), (7, .int v18), (6, .int r9), (5, .int r6), (4, .int v5), (3, .int v4), (2, .int r1), (0, .ref (bb G + 0)), (1, .int x1)]) hx hb dL_ticks_84 hl (by decide) rfl (fun ls hl => ?_)
  refine lv_bipush (v := 99) hx hb dL_ticks_86 (by decide) ?_
  refine lv_istore (lv' := [(10, .int (99 : Int32)), (9, .int v28), (8, .int r19), (7, .int v18), (6, .int r9), (5, .int r6), (4, .int v5), (3, .int v4), (2, .int r1), (0, .ref (bb G + 0)), (1, .int x1)]) hx hb dL_ticks_88 hl (by decide) rfl (fun ls hl => ?_)
  refine lv_iconst (v := 1) hx hb dL_ticks_90 (by decide) ?_
  refine lv_istore (lv' := [(11, .int (1 : Int32)), (10, .int (99 : Int32)), (9, .int v28), (8, .int r19), (7, .int v18), (6, .int r9), (5, .int r6), (4, .int v5), (3, .int v4), (2, .int r1), (0, .ref (bb G + 0)), (1, .int x1)]) hx hb dL_ticks_91 hl (by decide) rfl (fun ls hl => ?_)
  refine lv_iconst (v := 0) hx hb dL_ticks_93 (by decide) ?_
  refine lv_istore (lv' := [(12, .int (0 : Int32)), (11, .int (1 : Int32)), (10, .int (99 : Int32)), (9, .int v28), (8, .int r19), (7, .int v18), (6, .int r9), (5, .int r6), (4, .int v5), (3, .int v4), (2, .int r1), (0, .ref (bb G + 0)), (1, .int x1)]) hx hb dL_ticks_94 hl (by decide) rfl (fun ls hl => ?_)
  obtain ⟨o34, hit34, hG34⟩ := b1_t hF
  have hR34 : ∀ (v35 : Int32) (v36 : Int32) (v37 : Int32) (v38 : Int32) (C39 : Mem) (H : Heap) (locs : List Loc) (ls : Array Slot), o34 = (v35, v36, v37, v38, C39) → Wd G n C39 H → LW G s H locs → lv_has ls 30 [(9, .int v28), (7, .int v18), (6, .int r9), (5, .int r6), (0, .ref (bb G + 0)), (8, .int v35), (10, .int v36), (11, .int v37)] → W p l e (rmX 11 204 11130 66990) s m ([.ref (bb G + 0), .int x1] : List Value).toArray below meth c H locs 11127 66972 (MQ below (QR G n (some (.int rR)) CR) ([.ref (bb G + 0), .int x1] : List Value).toArray s 11130 66990 (frA G)) (F0 m 957 ls []) := by
    intro v35 v36 v37 v38 C39 H locs ls hE hw hS hl
    subst hE
    have hF := u5_t hG34
    refine lv_iload hx hb dL_ticks_957 (lv_at hl 7 rfl) ?_
    refine lv_if_eq (tgt := 1010) hx hb dL_ticks_959 (by decide) (fun h301 => ?_) (fun h301 => ?_)
    · have hF := it_t h301 hF
      refine lv_iconst (v := 0) hx hb dL_ticks_1010 (by decide) ?_
      exact m_zretN hC hr hlk hw hS (by decide) (by decide) dL_ticks_1011 (by decide) hF
    · have hF := it_f h301 hF
      refine lv_aload_n hx hb dL_ticks_962 rfl (lv_at hl 4 rfl) ?_
      refine lv_bipush (v := 9) hx hb dL_ticks_963 (by decide) ?_
      obtain ⟨r302, C304, hc303, hF⟩ := b2_t hF
      refine call_SWE hC (c_L_tryAbout l (gP G H) (H.size - bb G) (hw.lp hn) (Nat.zero_le _) hfl (9 : Int32) _ _ _ hc303) wwL_129 ⟨rfl, rfl, by decide, by decide⟩ hw hn hS hl.1 rfl (rest := []) rfl (Nat.le_of_ble_eq_true rfl) dL_ticks_965 ⟨(show 11127 + 1 ≤ 11130 by omega), (show 66972 + 6 ≤ 66990 by omega)⟩ (fun H locs hw hS hk => ?_)
      refine lv_iload hx hb dL_ticks_968 (lv_at hl 3 rfl) ?_
      refine lv_icmp_ne (tgt := 1010) hx hb dL_ticks_970 (by decide) (fun h305 => ?_) (fun h305 => ?_)
      · have hF := it_f h305 hF
        refine lv_iconst (v := 0) hx hb dL_ticks_1010 (by decide) ?_
        exact m_zretN hC hr hlk hw hS (by decide) (by decide) dL_ticks_1011 (by decide) hF
      · have hF := it_t h305 hF
        refine lv_iload hx hb dL_ticks_973 (lv_at hl 6 rfl) ?_
        refine lv_iload hx hb dL_ticks_975 (lv_at hl 2 rfl) ?_
        refine lv_icmp_ne (tgt := 1010) hx hb dL_ticks_977 (by decide) (fun h306 => ?_) (fun h306 => ?_)
        · have hF := it_f h306 hF
          refine lv_iconst (v := 0) hx hb dL_ticks_1010 (by decide) ?_
          exact m_zretN hC hr hlk hw hS (by decide) (by decide) dL_ticks_1011 (by decide) hF
        · have hF := it_t h306 hF
          refine lv_aload_n hx hb dL_ticks_980 rfl (lv_at hl 4 rfl) ?_
          refine lv_iconst (v := 4) hx hb dL_ticks_981 (by decide) ?_
          obtain ⟨r307, C309, hc308, hF⟩ := b2_t hF
          refine call_SWE hC (c_L_tryAccount l (gP G H) (H.size - bb G) (hw.lp hn) (Nat.zero_le _) hfl (4 : Int32) _ _ _ hc308) wwL_148 ⟨rfl, rfl, by decide, by decide⟩ hw hn hS hl.1 rfl (rest := []) rfl (Nat.le_of_ble_eq_true rfl) dL_ticks_982 ⟨(show 11128 + 1 ≤ 11130 by omega), (show 66978 + 6 ≤ 66990 by omega)⟩ (fun H locs hw hS hk => ?_)
          refine lv_iload hx hb dL_ticks_985 (lv_at hl 1 rfl) ?_
          refine lv_icmp_ne (tgt := 1010) hx hb dL_ticks_987 (by decide) (fun h310 => ?_) (fun h310 => ?_)
          · have hF := it_f h310 hF
            refine lv_iconst (v := 0) hx hb dL_ticks_1010 (by decide) ?_
            exact m_zretN hC hr hlk hw hS (by decide) (by decide) dL_ticks_1011 (by decide) hF
          · have hF := it_t h310 hF
            refine lv_iload hx hb dL_ticks_990 (lv_at hl 5 rfl) ?_
            refine lv_if_ne (tgt := 1010) hx hb dL_ticks_992 (by decide) (fun h311 => ?_) (fun h311 => ?_)
            · have hF := it_f h311 hF
              refine lv_iconst (v := 0) hx hb dL_ticks_1010 (by decide) ?_
              exact m_zretN hC hr hlk hw hS (by decide) (by decide) dL_ticks_1011 (by decide) hF
            · have hF := it_t h311 hF
              refine lv_aload_n hx hb dL_ticks_995 rfl (lv_at hl 4 rfl) ?_
              refine lv_bipush (v := 14) hx hb dL_ticks_996 (by decide) ?_
              obtain ⟨r312, C314, hc313, hF⟩ := b2_t hF
              refine call_SWE hC (c_L_tryAbout l (gP G H) (H.size - bb G) (hw.lp hn) (Nat.zero_le _) hfl (14 : Int32) _ _ _ hc313) wwL_129 ⟨rfl, rfl, by decide, by decide⟩ hw hn hS hl.1 rfl (rest := []) rfl (Nat.le_of_ble_eq_true rfl) dL_ticks_998 ⟨(show 11129 + 1 ≤ 11130 by omega), (show 66984 + 6 ≤ 66990 by omega)⟩ (fun H locs hw hS hk => ?_)
              refine lv_iload hx hb dL_ticks_1001 (lv_at hl 0 rfl) ?_
              refine lv_icmp_ne (tgt := 1010) hx hb dL_ticks_1003 (by decide) (fun h315 => ?_) (fun h315 => ?_)
              · have hF := it_f h315 hF
                refine lv_iconst (v := 0) hx hb dL_ticks_1010 (by decide) ?_
                exact m_zretN hC hr hlk hw hS (by decide) (by decide) dL_ticks_1011 (by decide) hF
              · have hF := it_t h315 hF
                refine lv_iconst (v := 1) hx hb dL_ticks_1006 (by decide) ?_
                refine lv_goto (tgt := 1011) hx hb dL_ticks_1007 (by decide) ?_
                exact m_zretN hC hr hlk hw hS (by decide) (by decide) dL_ticks_1011 (by decide) hF
  refine iter_soundN (P := fun (w34 : Nat) (x : Int32 × Int32 × Int32 × Int32 × Mem) => ∀ (kc34 ks34 : Nat) (H : Heap) (locs : List Loc) (ls : Array Slot), kc34 + 529 * w34 ≤ 11127 → ks34 + 3184 * w34 ≤ 66972 → Wd G n x.2.2.2.2 H → LW G s H locs → lv_has ls 30 [(9, .int v28), (7, .int v18), (6, .int r9), (5, .int r6), (4, .int v5), (3, .int v4), (2, .int r1), (0, .ref (bb G + 0)), (8, .int x.1), (10, .int x.2.1), (11, .int x.2.2.1), (12, .int x.2.2.2.1)] → W p l e (rmX 11 204 11130 66990) s m ([.ref (bb G + 0), .int x1] : List Value).toArray below meth c H locs kc34 ks34 (MQ below (QR G n (some (.int rR)) CR) ([.ref (bb G + 0), .int x1] : List Value).toArray s 11130 66990 (frA G)) (F0 m 96 ls [])) (X := fun r => r = o34) ?_ 21 (r19, (99 : Int32), (1 : Int32), (0 : Int32), C27) o34 hit34 rfl 18 108 _ _ _ (by omega) (by omega) hw hS (lv_sub hl [3, 5, 6, 7, 8, 9, 10, 11, 4, 2, 1, 0] rfl)
  intro w34 x oo34 hF hk34 hX34 kc34 ks34 H locs ls hc34 hs34 hw hS hl
  obtain ⟨v29, v30, v31, v32, C33⟩ := x
  have hF : S_L_ticks_96 r1 v4 v5 v29 v30 v31 v32 C33 = some oo34 := hF
  have hw : Wd G n C33 H := hw
  have hl : lv_has ls 30 [(9, .int v28), (7, .int v18), (6, .int r9), (5, .int r6), (4, .int v5), (3, .int v4), (2, .int r1), (0, .ref (bb G + 0)), (8, .int v29), (10, .int v30), (11, .int v31), (12, .int v32)] := hl
  unfold S_L_ticks_96 at hF
  refine lv_iload hx hb dL_ticks_96 (lv_at hl 11 rfl) ?_
  refine lv_iload_n hx hb dL_ticks_98 rfl (lv_at hl 5 rfl) ?_
  refine lv_icmp_ge (tgt := 957) hx hb dL_ticks_99 (by decide) (fun h40 => ?_) (fun h40 => ?_)
  · have hF := it_t h40 hF
    refine W.widen (k := 11127) (n := 66972) (by omega) (by omega) ?_
    exact hR34 _ _ _ _ _ _ _ _ (it_exit hF hX34).symm hw hS (lv_sub hl [0, 1, 2, 3, 7, 8, 9, 10] rfl)
  · have hF := it_f h40 hF
    refine lv_iload hx hb dL_ticks_102 (lv_at hl 10 rfl) ?_
    refine lv_if_eq (tgt := 957) hx hb dL_ticks_104 (by decide) (fun h41 => ?_) (fun h41 => ?_)
    · have hF := it_t h41 hF
      refine W.widen (k := 11127) (n := 66972) (by omega) (by omega) ?_
      exact hR34 _ _ _ _ _ _ _ _ (it_exit hF hX34).symm hw hS (lv_sub hl [0, 1, 2, 3, 7, 8, 9, 10] rfl)
    · have hF := it_f h41 hF
      refine lv_aload_n hx hb dL_ticks_107 rfl (lv_at hl 7 rfl) ?_
      obtain ⟨r42, C44, hc43, hF⟩ := b2_t hF
      refine call_SNE hC (c_L_heat l (gP G H) (H.size - bb G) (hw.lp hn) (Nat.zero_le _) hfl  _ _ _ hc43) wsL_211 ⟨rfl, rfl, by decide, by decide⟩ hw hn hS hl.1 rfl (rest := []) rfl (Nat.le_of_ble_eq_true rfl) dL_ticks_108 ⟨(show kc34 + 18 ≤ 11130 by omega), (show ks34 + 108 ≤ 66990 by omega)⟩ (fun H locs hw hS hk => ?_)
      refine lv_istore (lv' := [(13, .int r42), (9, .int v28), (7, .int v18), (6, .int r9), (5, .int r6), (4, .int v5), (3, .int v4), (2, .int r1), (0, .ref (bb G + 0)), (8, .int v29), (10, .int v30), (11, .int v31), (12, .int v32)]) hx hb dL_ticks_111 hl (by decide) rfl (fun ls hl => ?_)
      refine lv_aload_n hx hb dL_ticks_113 rfl (lv_at hl 8 rfl) ?_
      refine lv_iconst (v := 1) hx hb dL_ticks_114 (by decide) ?_
      obtain ⟨r45, C47, hc46, hF⟩ := b2_t hF
      refine call_SWE hC (c_L_tryAccount l (gP G H) (H.size - bb G) (hw.lp hn) (Nat.zero_le _) hfl (1 : Int32) _ _ _ hc46) wwL_148 ⟨rfl, rfl, by decide, by decide⟩ hw hn hS hl.1 rfl (rest := []) rfl (Nat.le_of_ble_eq_true rfl) dL_ticks_115 ⟨(show (kc34 + 18) + 1 ≤ 11130 by omega), (show (ks34 + 108) + 6 ≤ 66990 by omega)⟩ (fun H locs hw hS hk => ?_)
      refine lv_istore (lv' := [(14, .int r45), (13, .int r42), (9, .int v28), (7, .int v18), (6, .int r9), (5, .int r6), (4, .int v5), (3, .int v4), (2, .int r1), (0, .ref (bb G + 0)), (8, .int v29), (10, .int v30), (11, .int v31), (12, .int v32)]) hx hb dL_ticks_118 hl (by decide) rfl (fun ls hl => ?_)
      refine lv_aload_n hx hb dL_ticks_120 rfl (lv_at hl 9 rfl) ?_
      refine lv_iconst (v := 2) hx hb dL_ticks_121 (by decide) ?_
      obtain ⟨r48, C50, hc49, hF⟩ := b2_t hF
      refine call_SWE hC (c_L_tryAccount l (gP G H) (H.size - bb G) (hw.lp hn) (Nat.zero_le _) hfl (2 : Int32) _ _ _ hc49) wwL_148 ⟨rfl, rfl, by decide, by decide⟩ hw hn hS hl.1 rfl (rest := []) rfl (Nat.le_of_ble_eq_true rfl) dL_ticks_122 ⟨(show (kc34 + 19) + 1 ≤ 11130 by omega), (show (ks34 + 114) + 6 ≤ 66990 by omega)⟩ (fun H locs hw hS hk => ?_)
      refine lv_istore (lv' := [(15, .int r48), (14, .int r45), (13, .int r42), (9, .int v28), (7, .int v18), (6, .int r9), (5, .int r6), (4, .int v5), (3, .int v4), (2, .int r1), (0, .ref (bb G + 0)), (8, .int v29), (10, .int v30), (11, .int v31), (12, .int v32)]) hx hb dL_ticks_125 hl (by decide) rfl (fun ls hl => ?_)
      refine lv_aload_n hx hb dL_ticks_127 rfl (lv_at hl 10 rfl) ?_
      refine lv_iconst (v := 3) hx hb dL_ticks_128 (by decide) ?_
      obtain ⟨r51, C53, hc52, hF⟩ := b2_t hF
      refine call_SWE hC (c_L_tryAccount l (gP G H) (H.size - bb G) (hw.lp hn) (Nat.zero_le _) hfl (3 : Int32) _ _ _ hc52) wwL_148 ⟨rfl, rfl, by decide, by decide⟩ hw hn hS hl.1 rfl (rest := []) rfl (Nat.le_of_ble_eq_true rfl) dL_ticks_129 ⟨(show (kc34 + 20) + 1 ≤ 11130 by omega), (show (ks34 + 120) + 6 ≤ 66990 by omega)⟩ (fun H locs hw hS hk => ?_)
      refine lv_istore (lv' := [(16, .int r51), (15, .int r48), (14, .int r45), (13, .int r42), (9, .int v28), (7, .int v18), (6, .int r9), (5, .int r6), (4, .int v5), (3, .int v4), (2, .int r1), (0, .ref (bb G + 0)), (8, .int v29), (10, .int v30), (11, .int v31), (12, .int v32)]) hx hb dL_ticks_132 hl (by decide) rfl (fun ls hl => ?_)
      refine lv_aload_n hx hb dL_ticks_134 rfl (lv_at hl 11 rfl) ?_
      refine lv_iconst (v := 0) hx hb dL_ticks_135 (by decide) ?_
      obtain ⟨r54, C56, hc55, hF⟩ := b2_t hF
      refine call_SWE hC (c_L_tryAccount l (gP G H) (H.size - bb G) (hw.lp hn) (Nat.zero_le _) hfl (0 : Int32) _ _ _ hc55) wwL_148 ⟨rfl, rfl, by decide, by decide⟩ hw hn hS hl.1 rfl (rest := []) rfl (Nat.le_of_ble_eq_true rfl) dL_ticks_136 ⟨(show (kc34 + 21) + 1 ≤ 11130 by omega), (show (ks34 + 126) + 6 ≤ 66990 by omega)⟩ (fun H locs hw hS hk => ?_)
      refine lv_istore (lv' := [(17, .int r54), (16, .int r51), (15, .int r48), (14, .int r45), (13, .int r42), (9, .int v28), (7, .int v18), (6, .int r9), (5, .int r6), (4, .int v5), (3, .int v4), (2, .int r1), (0, .ref (bb G + 0)), (8, .int v29), (10, .int v30), (11, .int v31), (12, .int v32)]) hx hb dL_ticks_139 hl (by decide) rfl (fun ls hl => ?_)
      refine lv_aload_n hx hb dL_ticks_141 rfl (lv_at hl 12 rfl) ?_
      refine lv_bipush (v := 8) hx hb dL_ticks_142 (by decide) ?_
      obtain ⟨r57, C59, hc58, hF⟩ := b2_t hF
      refine call_SWE hC (c_L_tryAbout l (gP G H) (H.size - bb G) (hw.lp hn) (Nat.zero_le _) hfl (8 : Int32) _ _ _ hc58) wwL_129 ⟨rfl, rfl, by decide, by decide⟩ hw hn hS hl.1 rfl (rest := []) rfl (Nat.le_of_ble_eq_true rfl) dL_ticks_144 ⟨(show (kc34 + 22) + 1 ≤ 11130 by omega), (show (ks34 + 132) + 6 ≤ 66990 by omega)⟩ (fun H locs hw hS hk => ?_)
      refine lv_bipush (v := 24) hx hb dL_ticks_147 (by decide) ?_
      refine lv_irem hx hb dL_ticks_149 (by decide) ?_
      refine lv_aload_n hx hb dL_ticks_150 rfl (lv_at hl 12 rfl) ?_
      refine lv_iconst (v := 5) hx hb dL_ticks_151 (by decide) ?_
      obtain ⟨r60, C62, hc61, hF⟩ := b2_t hF
      refine call_SWE hC (c_L_tryAbout l (gP G H) (H.size - bb G) (hw.lp hn) (Nat.zero_le _) hfl (5 : Int32) _ _ _ hc61) wwL_129 ⟨rfl, rfl, by decide, by decide⟩ hw hn hS hl.1 rfl (rest := [.int (r57 - r57 / (24 : Int32) * (24 : Int32))]) rfl (Nat.le_of_ble_eq_true rfl) dL_ticks_152 ⟨(show (kc34 + 23) + 1 ≤ 11130 by omega), (show (ks34 + 138) + 6 ≤ 66990 by omega)⟩ (fun H locs hw hS hk => ?_)
      have hJ163 : ∀ (v64 : Int32) (H : Heap) (locs : List Loc) (ls : Array Slot), J_L_ticks_163 r1 v5 v29 v30 v31 v32 r42 r45 r48 r51 r54 C62 v64 = some oo34 → Wd G n C62 H → LW G s H locs → lv_has ls 30 [(0, .ref (bb G + 0)), (2, .int r1), (3, .int v4), (4, .int v5), (5, .int r6), (6, .int r9), (7, .int v18), (8, .int v29), (9, .int v28), (10, .int v30), (11, .int v31), (12, .int v32), (13, .int r42), (14, .int r45), (15, .int r48), (16, .int r51), (17, .int r54)] → W p l e (rmX 11 204 11130 66990) s m ([.ref (bb G + 0), .int x1] : List Value).toArray below meth c H locs (kc34 + 24) (ks34 + 144) (MQ below (QR G n (some (.int rR)) CR) ([.ref (bb G + 0), .int x1] : List Value).toArray s 11130 66990 (frA G)) (F0 m 163 ls [.int v64]) := by
        intro v64 H locs ls hF hw hS hl
        unfold J_L_ticks_163 at hF
        refine lv_istore (lv' := [(18, .int v64), (0, .ref (bb G + 0)), (2, .int r1), (3, .int v4), (4, .int v5), (5, .int r6), (6, .int r9), (7, .int v18), (8, .int v29), (9, .int v28), (10, .int v30), (11, .int v31), (12, .int v32), (13, .int r42), (14, .int r45), (15, .int r48), (16, .int r51), (17, .int r54)]) hx hb dL_ticks_163 hl (by decide) rfl (fun ls hl => ?_)
        refine lv_aload_n hx hb dL_ticks_165 rfl (lv_at hl 1 rfl) ?_
        refine lv_bipush (v := 11) hx hb dL_ticks_166 (by decide) ?_
        obtain ⟨r65, C67, hc66, hF⟩ := b2_t hF
        refine call_SWE hC (c_L_tryAbout l (gP G H) (H.size - bb G) (hw.lp hn) (Nat.zero_le _) hfl (11 : Int32) _ _ _ hc66) wwL_129 ⟨rfl, rfl, by decide, by decide⟩ hw hn hS hl.1 rfl (rest := []) rfl (Nat.le_of_ble_eq_true rfl) dL_ticks_168 ⟨(show (kc34 + 24) + 1 ≤ 11130 by omega), (show (ks34 + 144) + 6 ≤ 66990 by omega)⟩ (fun H locs hw hS hk => ?_)
        refine lv_iconst (v := 1) hx hb dL_ticks_171 (by decide) ?_
        have hJ180 : ∀ (v69 : Int32) (H : Heap) (locs : List Loc) (ls : Array Slot), J_L_ticks_180 r1 v5 v29 v30 v31 v32 r42 r45 r48 r51 r54 v64 C67 v69 = some oo34 → Wd G n C67 H → LW G s H locs → lv_has ls 30 [(0, .ref (bb G + 0)), (2, .int r1), (3, .int v4), (4, .int v5), (5, .int r6), (6, .int r9), (7, .int v18), (8, .int v29), (9, .int v28), (10, .int v30), (11, .int v31), (12, .int v32), (13, .int r42), (14, .int r45), (15, .int r48), (16, .int r51), (17, .int r54), (18, .int v64)] → W p l e (rmX 11 204 11130 66990) s m ([.ref (bb G + 0), .int x1] : List Value).toArray below meth c H locs (kc34 + 25) (ks34 + 150) (MQ below (QR G n (some (.int rR)) CR) ([.ref (bb G + 0), .int x1] : List Value).toArray s 11130 66990 (frA G)) (F0 m 180 ls [.int v69]) := by
          intro v69 H locs ls hF hw hS hl
          unfold J_L_ticks_180 at hF
          refine lv_istore (lv' := [(19, .int v69), (0, .ref (bb G + 0)), (2, .int r1), (3, .int v4), (4, .int v5), (5, .int r6), (6, .int r9), (7, .int v18), (8, .int v29), (9, .int v28), (10, .int v30), (11, .int v31), (12, .int v32), (13, .int r42), (14, .int r45), (15, .int r48), (16, .int r51), (17, .int r54), (18, .int v64)]) hx hb dL_ticks_180 hl (by decide) rfl (fun ls hl => ?_)
          refine lv_aload_n hx hb dL_ticks_182 rfl (lv_at hl 1 rfl) ?_
          refine lv_bipush (v := 14) hx hb dL_ticks_183 (by decide) ?_
          obtain ⟨r70, C72, hc71, hF⟩ := b2_t hF
          refine call_SWE hC (c_L_tryAbout l (gP G H) (H.size - bb G) (hw.lp hn) (Nat.zero_le _) hfl (14 : Int32) _ _ _ hc71) wwL_129 ⟨rfl, rfl, by decide, by decide⟩ hw hn hS hl.1 rfl (rest := []) rfl (Nat.le_of_ble_eq_true rfl) dL_ticks_185 ⟨(show (kc34 + 25) + 1 ≤ 11130 by omega), (show (ks34 + 150) + 6 ≤ 66990 by omega)⟩ (fun H locs hw hS hk => ?_)
          refine lv_aload_n hx hb dL_ticks_188 rfl (lv_at hl 1 rfl) ?_
          refine lv_bipush (v := 15) hx hb dL_ticks_189 (by decide) ?_
          obtain ⟨r73, C75, hc74, hF⟩ := b2_t hF
          refine call_SWE hC (c_L_tryAbout l (gP G H) (H.size - bb G) (hw.lp hn) (Nat.zero_le _) hfl (15 : Int32) _ _ _ hc74) wwL_129 ⟨rfl, rfl, by decide, by decide⟩ hw hn hS hl.1 rfl (rest := [.int r70]) rfl (Nat.le_of_ble_eq_true rfl) dL_ticks_191 ⟨(show (kc34 + 26) + 1 ≤ 11130 by omega), (show (ks34 + 156) + 6 ≤ 66990 by omega)⟩ (fun H locs hw hS hk => ?_)
          refine lv_iadd hx hb dL_ticks_194 ?_
          obtain ⟨v76, ev76, hF⟩ := nm_t hF
          refine lv_nmi ev76 ?_
          refine lv_istore (lv' := [(20, .int v76), (19, .int v69), (0, .ref (bb G + 0)), (2, .int r1), (3, .int v4), (4, .int v5), (5, .int r6), (6, .int r9), (7, .int v18), (8, .int v29), (9, .int v28), (10, .int v30), (11, .int v31), (12, .int v32), (13, .int r42), (14, .int r45), (15, .int r48), (16, .int r51), (17, .int r54), (18, .int v64)]) hx hb dL_ticks_195 hl (by decide) rfl (fun ls hl => ?_)
          refine lv_bipush (v := 20) hx hb dL_ticks_197 (by decide) ?_
          refine m_newi (N := 20) hC hw hn hS aw_int (by decide) (by decide) (by decide) (show (kc34 + 27) + 1 ≤ 11130 by omega) (show (ks34 + 162) + 20 ≤ 66990 by omega) dL_ticks_199 (fun H ra199 hw hS hk hr199 => ?_)
          refine lv_astore (lv' := [(21, .ref ra199), (20, .int v76), (19, .int v69), (0, .ref (bb G + 0)), (2, .int r1), (3, .int v4), (4, .int v5), (5, .int r6), (6, .int r9), (7, .int v18), (8, .int v29), (9, .int v28), (10, .int v30), (11, .int v31), (12, .int v32), (13, .int r42), (14, .int r45), (15, .int r48), (16, .int r51), (17, .int r54), (18, .int v64)]) hx hb dL_ticks_201 hl (by decide) rfl (fun ls hl => ?_)
          refine lv_iconst (v := 0) hx hb dL_ticks_203 (by decide) ?_
          refine lv_istore (lv' := [(22, .int (0 : Int32)), (21, .ref ra199), (20, .int v76), (19, .int v69), (0, .ref (bb G + 0)), (2, .int r1), (3, .int v4), (4, .int v5), (5, .int r6), (6, .int r9), (7, .int v18), (8, .int v29), (9, .int v28), (10, .int v30), (11, .int v31), (12, .int v32), (13, .int r42), (14, .int r45), (15, .int r48), (16, .int r51), (17, .int r54), (18, .int v64)]) hx hb dL_ticks_204 hl (by decide) rfl (fun ls hl => ?_)
          obtain ⟨o79, hit79, hG79⟩ := b1_t hF
          have hR79 : ∀ (v81 : Int32) (C82 : Mem) (f83 : Nat → Int32) (H : Heap) (locs : List Loc) (ls : Array Slot), o79 = (v81, C82, f83) → Wd G n C82 H → LW G s H locs → Row G n ra199 20 f83 H → lv_has ls 30 [(21, .ref ra199), (20, .int v76), (19, .int v69), (0, .ref (bb G + 0)), (2, .int r1), (3, .int v4), (4, .int v5), (5, .int r6), (6, .int r9), (7, .int v18), (8, .int v29), (9, .int v28), (10, .int v30), (11, .int v31), (12, .int v32), (13, .int r42), (14, .int r45), (15, .int r48), (16, .int r51), (17, .int r54), (18, .int v64)] → W p l e (rmX 11 204 11130 66990) s m ([.ref (bb G + 0), .int x1] : List Value).toArray below meth c H locs (kc34 + 76) (ks34 + 470) (MQ below (QR G n (some (.int rR)) CR) ([.ref (bb G + 0), .int x1] : List Value).toArray s 11130 66990 (frA G)) (F0 m 281 ls []) := by
            intro v81 C82 f83 H locs ls hE hw hS hr199 hl
            subst hE
            have hF := u3_t hG79
            refine lv_aload_n hx hb dL_ticks_281 rfl (lv_at hl 3 rfl) ?_
            refine lv_iconst (v := 1) hx hb dL_ticks_282 (by decide) ?_
            refine lv_iload hx hb dL_ticks_283 (lv_at hl 6 rfl) ?_
            obtain ⟨r106, C108, hc107, hF⟩ := b2_t hF
            refine call_SWE hC (c_L_tryTick l (gP G H) (H.size - bb G) (hw.lp hn) (Nat.zero_le _) hfl (1 : Int32) v5 _ _ _ hc107) wwL_154 ⟨rfl, rfl, by decide, by decide⟩ hw hn hS hl.1 rfl (rest := []) rfl (Nat.le_of_ble_eq_true rfl) dL_ticks_285 ⟨(show (kc34 + 76) + 2 ≤ 11130 by omega), (show (ks34 + 470) + 12 ≤ 66990 by omega)⟩ (fun H locs hw hS hk => ?_)
            have hr199 := hr199.kp hn hk
            refine lv_istore (lv' := [(22, .int r106), (21, .ref ra199), (20, .int v76), (19, .int v69), (0, .ref (bb G + 0)), (2, .int r1), (3, .int v4), (4, .int v5), (5, .int r6), (6, .int r9), (7, .int v18), (8, .int v29), (9, .int v28), (10, .int v30), (11, .int v31), (12, .int v32), (13, .int r42), (14, .int r45), (15, .int r48), (16, .int r51), (17, .int r54), (18, .int v64)]) hx hb dL_ticks_288 hl (by decide) rfl (fun ls hl => ?_)
            refine lv_iload hx hb dL_ticks_290 (lv_at hl 0 rfl) ?_
            refine lv_iload hx hb dL_ticks_292 (lv_at hl 13 rfl) ?_
            have hJ304 : ∀ (v110 : Int32) (H : Heap) (locs : List Loc) (ls : Array Slot), J_L_ticks_304 r1 v5 v29 v31 v32 r42 r45 r48 r51 r54 v64 v69 v76 f83 C108 v110 = some oo34 → Wd G n C108 H → LW G s H locs → Row G n ra199 20 f83 H → lv_has ls 30 [(0, .ref (bb G + 0)), (2, .int r1), (3, .int v4), (4, .int v5), (5, .int r6), (6, .int r9), (7, .int v18), (8, .int v29), (9, .int v28), (11, .int v31), (12, .int v32), (13, .int r42), (14, .int r45), (15, .int r48), (16, .int r51), (17, .int r54), (18, .int v64), (19, .int v69), (20, .int v76), (21, .ref ra199)] → W p l e (rmX 11 204 11130 66990) s m ([.ref (bb G + 0), .int x1] : List Value).toArray below meth c H locs (kc34 + 78) (ks34 + 482) (MQ below (QR G n (some (.int rR)) CR) ([.ref (bb G + 0), .int x1] : List Value).toArray s 11130 66990 (frA G)) (F0 m 304 ls [.int v110]) := by
              intro v110 H locs ls hF hw hS hr199 hl
              unfold J_L_ticks_304 at hF
              refine lv_istore (lv' := [(10, .int v110), (0, .ref (bb G + 0)), (2, .int r1), (3, .int v4), (4, .int v5), (5, .int r6), (6, .int r9), (7, .int v18), (8, .int v29), (9, .int v28), (11, .int v31), (12, .int v32), (13, .int r42), (14, .int r45), (15, .int r48), (16, .int r51), (17, .int r54), (18, .int v64), (19, .int v69), (20, .int v76), (21, .ref ra199)]) hx hb dL_ticks_304 hl (by decide) rfl (fun ls hl => ?_)
              refine lv_iconst (v := 0) hx hb dL_ticks_306 (by decide) ?_
              refine lv_istore (lv' := [(23, .int (0 : Int32)), (10, .int v110), (0, .ref (bb G + 0)), (2, .int r1), (3, .int v4), (4, .int v5), (5, .int r6), (6, .int r9), (7, .int v18), (8, .int v29), (9, .int v28), (11, .int v31), (12, .int v32), (13, .int r42), (14, .int r45), (15, .int r48), (16, .int r51), (17, .int r54), (18, .int v64), (19, .int v69), (20, .int v76), (21, .ref ra199)]) hx hb dL_ticks_307 hl (by decide) rfl (fun ls hl => ?_)
              refine lv_iconst (v := 0) hx hb dL_ticks_309 (by decide) ?_
              refine lv_istore (lv' := [(24, .int (0 : Int32)), (23, .int (0 : Int32)), (10, .int v110), (0, .ref (bb G + 0)), (2, .int r1), (3, .int v4), (4, .int v5), (5, .int r6), (6, .int r9), (7, .int v18), (8, .int v29), (9, .int v28), (11, .int v31), (12, .int v32), (13, .int r42), (14, .int r45), (15, .int r48), (16, .int r51), (17, .int r54), (18, .int v64), (19, .int v69), (20, .int v76), (21, .ref ra199)]) hx hb dL_ticks_310 hl (by decide) rfl (fun ls hl => ?_)
              refine lv_iconst (v := 0) hx hb dL_ticks_312 (by decide) ?_
              refine lv_istore (lv' := [(25, .int (0 : Int32)), (24, .int (0 : Int32)), (23, .int (0 : Int32)), (10, .int v110), (0, .ref (bb G + 0)), (2, .int r1), (3, .int v4), (4, .int v5), (5, .int r6), (6, .int r9), (7, .int v18), (8, .int v29), (9, .int v28), (11, .int v31), (12, .int v32), (13, .int r42), (14, .int r45), (15, .int r48), (16, .int r51), (17, .int r54), (18, .int v64), (19, .int v69), (20, .int v76), (21, .ref ra199)]) hx hb dL_ticks_313 hl (by decide) rfl (fun ls hl => ?_)
              refine lv_iconst (v := 0) hx hb dL_ticks_315 (by decide) ?_
              refine lv_istore (lv' := [(26, .int (0 : Int32)), (25, .int (0 : Int32)), (24, .int (0 : Int32)), (23, .int (0 : Int32)), (10, .int v110), (0, .ref (bb G + 0)), (2, .int r1), (3, .int v4), (4, .int v5), (5, .int r6), (6, .int r9), (7, .int v18), (8, .int v29), (9, .int v28), (11, .int v31), (12, .int v32), (13, .int r42), (14, .int r45), (15, .int r48), (16, .int r51), (17, .int r54), (18, .int v64), (19, .int v69), (20, .int v76), (21, .ref ra199)]) hx hb dL_ticks_316 hl (by decide) rfl (fun ls hl => ?_)
              obtain ⟨o118, hit118, hG118⟩ := b1_t hF
              have hR118 : ∀ (v119 : Int32) (v120 : Int32) (v121 : Int32) (v122 : Int32) (v123 : Int32) (v124 : Int32) (C125 : Mem) (H : Heap) (locs : List Loc) (ls : Array Slot), o118 = (v119, v120, v121, v122, v123, v124, C125) → Wd G n C125 H → LW G s H locs → lv_has ls 30 [(10, .int v110), (0, .ref (bb G + 0)), (2, .int r1), (3, .int v4), (4, .int v5), (5, .int r6), (6, .int r9), (7, .int v18), (9, .int v28), (12, .int v32), (13, .int r42), (14, .int r45), (15, .int r48), (16, .int r51), (17, .int r54), (18, .int v64), (19, .int v69), (20, .int v76), (8, .int v119), (11, .int v120), (23, .int v121), (24, .int v122), (25, .int v123)] → W p l e (rmX 11 204 11130 66990) s m ([.ref (bb G + 0), .int x1] : List Value).toArray below meth c H locs (kc34 + 174) (ks34 + 1058) (MQ below (QR G n (some (.int rR)) CR) ([.ref (bb G + 0), .int x1] : List Value).toArray s 11130 66990 (frA G)) (F0 m 688 ls []) := by
                intro v119 v120 v121 v122 v123 v124 C125 H locs ls hE hw hS hl
                subst hE
                have hF := u7_t hG118
                refine lv_aload_n hx hb dL_ticks_688 rfl (lv_at hl 1 rfl) ?_
                refine lv_bipush (v := 10) hx hb dL_ticks_689 (by decide) ?_
                obtain ⟨r220, C222, hc221, hF⟩ := b2_t hF
                refine call_SWE hC (c_L_tryAbout l (gP G H) (H.size - bb G) (hw.lp hn) (Nat.zero_le _) hfl (10 : Int32) _ _ _ hc221) wwL_129 ⟨rfl, rfl, by decide, by decide⟩ hw hn hS hl.1 rfl (rest := []) rfl (Nat.le_of_ble_eq_true rfl) dL_ticks_691 ⟨(show (kc34 + 174) + 1 ≤ 11130 by omega), (show (ks34 + 1058) + 6 ≤ 66990 by omega)⟩ (fun H locs hw hS hk => ?_)
                refine lv_istore (lv' := [(26, .int r220), (10, .int v110), (0, .ref (bb G + 0)), (2, .int r1), (3, .int v4), (4, .int v5), (5, .int r6), (6, .int r9), (7, .int v18), (9, .int v28), (12, .int v32), (13, .int r42), (14, .int r45), (15, .int r48), (16, .int r51), (17, .int r54), (18, .int v64), (19, .int v69), (20, .int v76), (8, .int v119), (11, .int v120), (23, .int v121), (24, .int v122), (25, .int v123)]) hx hb dL_ticks_694 hl (by decide) rfl (fun ls hl => ?_)
                refine lv_aload_n hx hb dL_ticks_696 rfl (lv_at hl 2 rfl) ?_
                refine lv_bipush (v := 11) hx hb dL_ticks_697 (by decide) ?_
                obtain ⟨r223, C225, hc224, hF⟩ := b2_t hF
                refine call_SWE hC (c_L_tryAbout l (gP G H) (H.size - bb G) (hw.lp hn) (Nat.zero_le _) hfl (11 : Int32) _ _ _ hc224) wwL_129 ⟨rfl, rfl, by decide, by decide⟩ hw hn hS hl.1 rfl (rest := []) rfl (Nat.le_of_ble_eq_true rfl) dL_ticks_699 ⟨(show (kc34 + 175) + 1 ≤ 11130 by omega), (show (ks34 + 1064) + 6 ≤ 66990 by omega)⟩ (fun H locs hw hS hk => ?_)
                refine lv_iconst (v := 1) hx hb dL_ticks_702 (by decide) ?_
                have hJ711 : ∀ (v227 : Int32) (H : Heap) (locs : List Loc) (ls : Array Slot), J_L_ticks_711 v5 v32 r42 r45 r48 r51 r54 v64 v69 v76 v110 v119 v120 v121 v122 v123 r220 C225 v227 = some oo34 → Wd G n C225 H → LW G s H locs → lv_has ls 30 [(0, .ref (bb G + 0)), (2, .int r1), (3, .int v4), (4, .int v5), (5, .int r6), (6, .int r9), (7, .int v18), (8, .int v119), (9, .int v28), (10, .int v110), (11, .int v120), (12, .int v32), (13, .int r42), (14, .int r45), (15, .int r48), (16, .int r51), (17, .int r54), (18, .int v64), (19, .int v69), (20, .int v76), (23, .int v121), (24, .int v122), (25, .int v123), (26, .int r220)] → W p l e (rmX 11 204 11130 66990) s m ([.ref (bb G + 0), .int x1] : List Value).toArray below meth c H locs (kc34 + 176) (ks34 + 1070) (MQ below (QR G n (some (.int rR)) CR) ([.ref (bb G + 0), .int x1] : List Value).toArray s 11130 66990 (frA G)) (F0 m 711 ls [.int v227]) := by
                  intro v227 H locs ls hF hw hS hl
                  unfold J_L_ticks_711 at hF
                  refine lv_istore (lv' := [(27, .int v227), (0, .ref (bb G + 0)), (2, .int r1), (3, .int v4), (4, .int v5), (5, .int r6), (6, .int r9), (7, .int v18), (8, .int v119), (9, .int v28), (10, .int v110), (11, .int v120), (12, .int v32), (13, .int r42), (14, .int r45), (15, .int r48), (16, .int r51), (17, .int r54), (18, .int v64), (19, .int v69), (20, .int v76), (23, .int v121), (24, .int v122), (25, .int v123), (26, .int r220)]) hx hb dL_ticks_711 hl (by decide) rfl (fun ls hl => ?_)
                  refine lv_aload_n hx hb dL_ticks_713 rfl (lv_at hl 1 rfl) ?_
                  refine lv_bipush (v := 14) hx hb dL_ticks_714 (by decide) ?_
                  obtain ⟨r228, C230, hc229, hF⟩ := b2_t hF
                  refine call_SWE hC (c_L_tryAbout l (gP G H) (H.size - bb G) (hw.lp hn) (Nat.zero_le _) hfl (14 : Int32) _ _ _ hc229) wwL_129 ⟨rfl, rfl, by decide, by decide⟩ hw hn hS hl.1 rfl (rest := []) rfl (Nat.le_of_ble_eq_true rfl) dL_ticks_716 ⟨(show (kc34 + 176) + 1 ≤ 11130 by omega), (show (ks34 + 1070) + 6 ≤ 66990 by omega)⟩ (fun H locs hw hS hk => ?_)
                  refine lv_aload_n hx hb dL_ticks_719 rfl (lv_at hl 1 rfl) ?_
                  refine lv_bipush (v := 15) hx hb dL_ticks_720 (by decide) ?_
                  obtain ⟨r231, C233, hc232, hF⟩ := b2_t hF
                  refine call_SWE hC (c_L_tryAbout l (gP G H) (H.size - bb G) (hw.lp hn) (Nat.zero_le _) hfl (15 : Int32) _ _ _ hc232) wwL_129 ⟨rfl, rfl, by decide, by decide⟩ hw hn hS hl.1 rfl (rest := [.int r228]) rfl (Nat.le_of_ble_eq_true rfl) dL_ticks_722 ⟨(show (kc34 + 177) + 1 ≤ 11130 by omega), (show (ks34 + 1076) + 6 ≤ 66990 by omega)⟩ (fun H locs hw hS hk => ?_)
                  refine lv_iadd hx hb dL_ticks_725 ?_
                  refine lv_iload hx hb dL_ticks_726 (lv_at hl 20 rfl) ?_
                  refine lv_isub hx hb dL_ticks_728 ?_
                  obtain ⟨v234, ev234, hF⟩ := nm_t hF
                  refine lv_nmi ev234 ?_
                  refine lv_istore (lv' := [(28, .int v234), (27, .int v227), (0, .ref (bb G + 0)), (2, .int r1), (3, .int v4), (4, .int v5), (5, .int r6), (6, .int r9), (7, .int v18), (8, .int v119), (9, .int v28), (10, .int v110), (11, .int v120), (12, .int v32), (13, .int r42), (14, .int r45), (15, .int r48), (16, .int r51), (17, .int r54), (18, .int v64), (19, .int v69), (20, .int v76), (23, .int v121), (24, .int v122), (25, .int v123), (26, .int r220)]) hx hb dL_ticks_729 hl (by decide) rfl (fun ls hl => ?_)
                  refine lv_iload hx hb dL_ticks_731 (lv_at hl 12 rfl) ?_
                  have hJ900 : ∀ (v236 : Int32) (C237 : Mem) (H : Heap) (locs : List Loc) (ls : Array Slot), J_L_ticks_900 v32 v110 v119 v236 C237 = some oo34 → Wd G n C237 H → LW G s H locs → lv_has ls 30 [(0, .ref (bb G + 0)), (2, .int r1), (3, .int v4), (4, .int v5), (5, .int r6), (6, .int r9), (7, .int v18), (8, .int v119), (9, .int v28), (10, .int v110), (12, .int v32)] → W p l e (rmX 11 204 11130 66990) s m ([.ref (bb G + 0), .int x1] : List Value).toArray below meth c H locs (kc34 + 505) (ks34 + 3040) (MQ below (QR G n (some (.int rR)) CR) ([.ref (bb G + 0), .int x1] : List Value).toArray s 11130 66990 (frA G)) (F0 m 900 ls [.int v236]) := by
                    intro v236 C237 H locs ls hF hw hS hl
                    unfold J_L_ticks_900 at hF
                    refine lv_istore (lv' := [(11, .int v236), (0, .ref (bb G + 0)), (2, .int r1), (3, .int v4), (4, .int v5), (5, .int r6), (6, .int r9), (7, .int v18), (8, .int v119), (9, .int v28), (10, .int v110), (12, .int v32)]) hx hb dL_ticks_900 hl (by decide) rfl (fun ls hl => ?_)
                    refine lv_iconst (v := 1) hx hb dL_ticks_902 (by decide) ?_
                    refine lv_istore (lv' := [(29, .int (1 : Int32)), (11, .int v236), (0, .ref (bb G + 0)), (2, .int r1), (3, .int v4), (4, .int v5), (5, .int r6), (6, .int r9), (7, .int v18), (8, .int v119), (9, .int v28), (10, .int v110), (12, .int v32)]) hx hb dL_ticks_903 hl (by decide) rfl (fun ls hl => ?_)
                    obtain ⟨o241, hit241, hG241⟩ := b1_t hF
                    have hR241 : ∀ (v242 : Int32) (v243 : Int32) (C244 : Mem) (H : Heap) (locs : List Loc) (ls : Array Slot), o241 = (v242, v243, C244) → Wd G n C244 H → LW G s H locs → lv_has ls 30 [(0, .ref (bb G + 0)), (2, .int r1), (3, .int v4), (4, .int v5), (5, .int r6), (6, .int r9), (7, .int v18), (8, .int v119), (9, .int v28), (10, .int v110), (12, .int v32), (11, .int v242)] → W p l e (rmX 11 204 11130 66990) s m ([.ref (bb G + 0), .int x1] : List Value).toArray below meth c H locs (kc34 + 529) (ks34 + 3184) (MQ below (QR G n (some (.int rR)) CR) ([.ref (bb G + 0), .int x1] : List Value).toArray s 11130 66990 (frA G)) (F0 m 951 ls []) := by
                      intro v242 v243 C244 H locs ls hE hw hS hl
                      subst hE
                      have hF := u3_t hG241
                      obtain ⟨v259, ev259, hF⟩ := nm_t hF
                      refine lv_iinc (v := v259) (lv' := [(12, .int v259), (0, .ref (bb G + 0)), (2, .int r1), (3, .int v4), (4, .int v5), (5, .int r6), (6, .int r9), (7, .int v18), (8, .int v119), (9, .int v28), (10, .int v110), (11, .int v242)]) hx hb dL_ticks_951 hl (k := 10) rfl (by rw [ev259]; rfl) (by decide) rfl (fun ls hl => ?_)
                      refine lv_goto (tgt := 96) hx hb dL_ticks_954 (by decide) ?_
                      exact it_back hF hk34 (kc34 + 529) (ks34 + 3184) _ _ _ (by omega) (by omega) hw hS (lv_sub hl [9, 7, 6, 5, 4, 3, 2, 1, 8, 10, 11, 0] rfl)
                    refine iter_soundN (P := fun (w241 : Nat) (x : Int32 × Int32 × Mem) => ∀ (kc241 ks241 : Nat) (H : Heap) (locs : List Loc) (ls : Array Slot), kc241 + 3 * w241 ≤ (kc34 + 529) → ks241 + 18 * w241 ≤ (ks34 + 3184) → Wd G n x.2.2 H → LW G s H locs → lv_has ls 30 [(0, .ref (bb G + 0)), (2, .int r1), (3, .int v4), (4, .int v5), (5, .int r6), (6, .int r9), (7, .int v18), (8, .int v119), (9, .int v28), (10, .int v110), (12, .int v32), (11, .int x.1), (29, .int x.2.1)] → W p l e (rmX 11 204 11130 66990) s m ([.ref (bb G + 0), .int x1] : List Value).toArray below meth c H locs kc241 ks241 (MQ below (QR G n (some (.int rR)) CR) ([.ref (bb G + 0), .int x1] : List Value).toArray s 11130 66990 (frA G)) (F0 m 905 ls [])) (X := fun r => r = o241) ?_ 8 (v236, (1 : Int32), C237) o241 hit241 rfl (kc34 + 505) (ks34 + 3040) _ _ _ (by omega) (by omega) hw hS (lv_sub hl [2, 3, 4, 5, 6, 7, 8, 9, 10, 11, 12, 1, 0] rfl)
                    intro w241 x oo241 hF hk241 hX241 kc241 ks241 H locs ls hc241 hs241 hw hS hl
                    obtain ⟨v238, v239, C240⟩ := x
                    have hF : S_L_ticks_905  v238 v239 C240 = some oo241 := hF
                    have hw : Wd G n C240 H := hw
                    have hl : lv_has ls 30 [(0, .ref (bb G + 0)), (2, .int r1), (3, .int v4), (4, .int v5), (5, .int r6), (6, .int r9), (7, .int v18), (8, .int v119), (9, .int v28), (10, .int v110), (12, .int v32), (11, .int v238), (29, .int v239)] := hl
                    unfold S_L_ticks_905 at hF
                    refine lv_iload hx hb dL_ticks_905 (lv_at hl 12 rfl) ?_
                    refine lv_aload_n hx hb dL_ticks_907 rfl (lv_at hl 0 rfl) ?_
                    refine lv_bipush (v := 7) hx hb dL_ticks_908 (by decide) ?_
                    obtain ⟨r245, C247, hc246, hF⟩ := b2_t hF
                    refine call_SWE hC (c_L_tryAbout l (gP G H) (H.size - bb G) (hw.lp hn) (Nat.zero_le _) hfl (7 : Int32) _ _ _ hc246) wwL_129 ⟨rfl, rfl, by decide, by decide⟩ hw hn hS hl.1 rfl (rest := [.int v239]) rfl (Nat.le_of_ble_eq_true rfl) dL_ticks_910 ⟨(show kc241 + 1 ≤ 11130 by omega), (show ks241 + 6 ≤ 66990 by omega)⟩ (fun H locs hw hS hk => ?_)
                    refine lv_icmp_ge (tgt := 951) hx hb dL_ticks_913 (by decide) (fun h248 => ?_) (fun h248 => ?_)
                    · have hF := it_t h248 hF
                      refine W.widen (k := (kc34 + 529)) (n := (ks34 + 3184)) (by omega) (by omega) ?_
                      exact hR241 _ _ _ _ _ _ (it_exit hF hX241).symm hw hS (lv_sub hl [0, 1, 2, 3, 4, 5, 6, 7, 8, 9, 10, 11] rfl)
                    · have hF := it_f h248 hF
                      refine lv_iload hx hb dL_ticks_916 (lv_at hl 11 rfl) ?_
                      refine lv_if_eq (tgt := 951) hx hb dL_ticks_918 (by decide) (fun h249 => ?_) (fun h249 => ?_)
                      · have hF := it_t h249 hF
                        refine W.widen (k := (kc34 + 529)) (n := (ks34 + 3184)) (by omega) (by omega) ?_
                        exact hR241 _ _ _ _ _ _ (it_exit hF hX241).symm hw hS (lv_sub hl [0, 1, 2, 3, 4, 5, 6, 7, 8, 9, 10, 11] rfl)
                      · have hF := it_f h249 hF
                        refine lv_aload_n hx hb dL_ticks_921 rfl (lv_at hl 0 rfl) ?_
                        refine lv_iload hx hb dL_ticks_922 (lv_at hl 12 rfl) ?_
                        refine lv_iconst (v := 1) hx hb dL_ticks_924 (by decide) ?_
                        refine lv_isub hx hb dL_ticks_925 ?_
                        obtain ⟨r250, C252, hc251, hF⟩ := b2_t hF
                        refine call_SWE hC (c_L_tryLayer l (gP G H) (H.size - bb G) (hw.lp hn) (Nat.zero_le _) hfl (v239 - (1 : Int32)) _ _ _ hc251) wwL_132 ⟨rfl, rfl, by decide, by decide⟩ hw hn hS hl.1 rfl (rest := []) rfl (Nat.le_of_ble_eq_true rfl) dL_ticks_926 ⟨(show (kc241 + 1) + 1 ≤ 11130 by omega), (show (ks241 + 6) + 6 ≤ 66990 by omega)⟩ (fun H locs hw hS hk => ?_)
                        refine lv_aload_n hx hb dL_ticks_929 rfl (lv_at hl 0 rfl) ?_
                        refine lv_iload hx hb dL_ticks_930 (lv_at hl 12 rfl) ?_
                        obtain ⟨r253, C255, hc254, hF⟩ := b2_t hF
                        refine call_SWE hC (c_L_tryLayer l (gP G H) (H.size - bb G) (hw.lp hn) (Nat.zero_le _) hfl v239 _ _ _ hc254) wwL_132 ⟨rfl, rfl, by decide, by decide⟩ hw hn hS hl.1 rfl (rest := [.int r250]) rfl (Nat.le_of_ble_eq_true rfl) dL_ticks_932 ⟨(show (kc241 + 2) + 1 ≤ 11130 by omega), (show (ks241 + 12) + 6 ≤ 66990 by omega)⟩ (fun H locs hw hS hk => ?_)
                        refine lv_icmp_gt (tgt := 942) hx hb dL_ticks_935 (by decide) (fun h256 => ?_) (fun h256 => ?_)
                        · have hF := it_t h256 hF
                          refine lv_iconst (v := 0) hx hb dL_ticks_942 (by decide) ?_
                          refine lv_istore (lv' := [(11, .int (0 : Int32)), (0, .ref (bb G + 0)), (2, .int r1), (3, .int v4), (4, .int v5), (5, .int r6), (6, .int r9), (7, .int v18), (8, .int v119), (9, .int v28), (10, .int v110), (12, .int v32), (29, .int v239)]) hx hb dL_ticks_943 hl (by decide) rfl (fun ls hl => ?_)
                          obtain ⟨v257, ev257, hF⟩ := nm_t hF
                          refine lv_iinc (v := v257) (lv' := [(29, .int v257), (11, .int (0 : Int32)), (0, .ref (bb G + 0)), (2, .int r1), (3, .int v4), (4, .int v5), (5, .int r6), (6, .int r9), (7, .int v18), (8, .int v119), (9, .int v28), (10, .int v110), (12, .int v32)]) hx hb dL_ticks_945 hl (k := 12) rfl (by rw [ev257]; rfl) (by decide) rfl (fun ls hl => ?_)
                          refine lv_goto (tgt := 905) hx hb dL_ticks_948 (by decide) ?_
                          exact it_back hF hk241 (kc241 + 3) (ks241 + 18) _ _ _ (by omega) (by omega) hw hS (lv_sub hl [2, 3, 4, 5, 6, 7, 8, 9, 10, 11, 12, 1, 0] rfl)
                        · have hF := it_f h256 hF
                          refine lv_iconst (v := 1) hx hb dL_ticks_938 (by decide) ?_
                          refine lv_goto (tgt := 943) hx hb dL_ticks_939 (by decide) ?_
                          refine lv_istore (lv' := [(11, .int (1 : Int32)), (0, .ref (bb G + 0)), (2, .int r1), (3, .int v4), (4, .int v5), (5, .int r6), (6, .int r9), (7, .int v18), (8, .int v119), (9, .int v28), (10, .int v110), (12, .int v32), (29, .int v239)]) hx hb dL_ticks_943 hl (by decide) rfl (fun ls hl => ?_)
                          obtain ⟨v258, ev258, hF⟩ := nm_t hF
                          refine lv_iinc (v := v258) (lv' := [(29, .int v258), (11, .int (1 : Int32)), (0, .ref (bb G + 0)), (2, .int r1), (3, .int v4), (4, .int v5), (5, .int r6), (6, .int r9), (7, .int v18), (8, .int v119), (9, .int v28), (10, .int v110), (12, .int v32)]) hx hb dL_ticks_945 hl (k := 12) rfl (by rw [ev258]; rfl) (by decide) rfl (fun ls hl => ?_)
                          refine lv_goto (tgt := 905) hx hb dL_ticks_948 (by decide) ?_
                          exact it_back hF hk241 (kc241 + 3) (ks241 + 18) _ _ _ (by omega) (by omega) hw hS (lv_sub hl [2, 3, 4, 5, 6, 7, 8, 9, 10, 11, 12, 1, 0] rfl)
                  refine lv_if_eq (tgt := 899) hx hb dL_ticks_733 (by decide) (fun h235 => ?_) (fun h235 => ?_)
                  · have hF := it_t h235 hF
                    refine lv_iconst (v := 0) hx hb dL_ticks_899 (by decide) ?_
                    refine W.widen (k := (kc34 + 505)) (n := (ks34 + 3040)) (by omega) (by omega) ?_
                    exact hJ900 (0 : Int32) C233 _ _ _ hF hw hS (lv_sub hl [2, 3, 4, 5, 6, 7, 8, 9, 10, 11, 13] rfl)
                  · have hF := it_f h235 hF
                    refine lv_iload hx hb dL_ticks_736 (lv_at hl 22 rfl) ?_
                    refine lv_iconst (v := 1) hx hb dL_ticks_738 (by decide) ?_
                    refine lv_icmp_gt (tgt := 899) hx hb dL_ticks_739 (by decide) (fun h260 => ?_) (fun h260 => ?_)
                    · have hF := it_t h260 hF
                      refine lv_iconst (v := 0) hx hb dL_ticks_899 (by decide) ?_
                      refine W.widen (k := (kc34 + 505)) (n := (ks34 + 3040)) (by omega) (by omega) ?_
                      exact hJ900 (0 : Int32) C233 _ _ _ hF hw hS (lv_sub hl [2, 3, 4, 5, 6, 7, 8, 9, 10, 11, 13] rfl)
                    · have hF := it_f h260 hF
                      refine lv_iload hx hb dL_ticks_742 (lv_at hl 23 rfl) ?_
                      refine lv_iconst (v := 1) hx hb dL_ticks_744 (by decide) ?_
                      refine lv_icmp_gt (tgt := 899) hx hb dL_ticks_745 (by decide) (fun h261 => ?_) (fun h261 => ?_)
                      · have hF := it_t h261 hF
                        refine lv_iconst (v := 0) hx hb dL_ticks_899 (by decide) ?_
                        refine W.widen (k := (kc34 + 505)) (n := (ks34 + 3040)) (by omega) (by omega) ?_
                        exact hJ900 (0 : Int32) C233 _ _ _ hF hw hS (lv_sub hl [2, 3, 4, 5, 6, 7, 8, 9, 10, 11, 13] rfl)
                      · have hF := it_f h261 hF
                        refine lv_iload hx hb dL_ticks_748 (lv_at hl 22 rfl) ?_
                        refine lv_iload hx hb dL_ticks_750 (lv_at hl 23 rfl) ?_
                        refine lv_iadd hx hb dL_ticks_752 ?_
                        refine lv_iconst (v := 1) hx hb dL_ticks_753 (by decide) ?_
                        refine lv_icmp_gt (tgt := 899) hx hb dL_ticks_754 (by decide) (fun h262 => ?_) (fun h262 => ?_)
                        · have hF := it_t h262 hF
                          refine lv_iconst (v := 0) hx hb dL_ticks_899 (by decide) ?_
                          refine W.widen (k := (kc34 + 505)) (n := (ks34 + 3040)) (by omega) (by omega) ?_
                          exact hJ900 (0 : Int32) C233 _ _ _ hF hw hS (lv_sub hl [2, 3, 4, 5, 6, 7, 8, 9, 10, 11, 13] rfl)
                        · have hF := it_f h262 hF
                          refine lv_iload hx hb dL_ticks_757 (lv_at hl 25 rfl) ?_
                          have hJ770 : ∀  (H : Heap) (locs : List Loc) (ls : Array Slot), J_L_ticks_770 v5 v32 r42 r45 r48 r51 r54 v64 v69 v110 v119 v123 v227 C233 v234  = some oo34 → Wd G n C233 H → LW G s H locs → lv_has ls 30 [(0, .ref (bb G + 0)), (2, .int r1), (3, .int v4), (4, .int v5), (5, .int r6), (6, .int r9), (7, .int v18), (8, .int v119), (9, .int v28), (10, .int v110), (12, .int v32), (13, .int r42), (14, .int r45), (15, .int r48), (16, .int r51), (17, .int r54), (18, .int v64), (19, .int v69), (25, .int v123), (27, .int v227), (28, .int v234)] → W p l e (rmX 11 204 11130 66990) s m ([.ref (bb G + 0), .int x1] : List Value).toArray below meth c H locs (kc34 + 178) (ks34 + 1082) (MQ below (QR G n (some (.int rR)) CR) ([.ref (bb G + 0), .int x1] : List Value).toArray s 11130 66990 (frA G)) (F0 m 770 ls []) := by
                            intro  H locs ls hF hw hS hl
                            unfold J_L_ticks_770 at hF
                            refine lv_aload_n hx hb dL_ticks_770 rfl (lv_at hl 0 rfl) ?_
                            refine lv_iconst (v := 0) hx hb dL_ticks_771 (by decide) ?_
                            obtain ⟨r264, C266, hc265, hF⟩ := b2_t hF
                            refine call_SWE hC (c_L_tryAccount l (gP G H) (H.size - bb G) (hw.lp hn) (Nat.zero_le _) hfl (0 : Int32) _ _ _ hc265) wwL_148 ⟨rfl, rfl, by decide, by decide⟩ hw hn hS hl.1 rfl (rest := []) rfl (Nat.le_of_ble_eq_true rfl) dL_ticks_772 ⟨(show (kc34 + 178) + 1 ≤ 11130 by omega), (show (ks34 + 1082) + 6 ≤ 66990 by omega)⟩ (fun H locs hw hS hk => ?_)
                            refine lv_iload hx hb dL_ticks_775 (lv_at hl 15 rfl) ?_
                            refine lv_iload hx hb dL_ticks_777 (lv_at hl 18 rfl) ?_
                            refine lv_iadd hx hb dL_ticks_779 ?_
                            refine lv_icmp_ne (tgt := 899) hx hb dL_ticks_780 (by decide) (fun h267 => ?_) (fun h267 => ?_)
                            · have hF := it_f h267 hF
                              refine lv_iconst (v := 0) hx hb dL_ticks_899 (by decide) ?_
                              refine W.widen (k := (kc34 + 505)) (n := (ks34 + 3040)) (by omega) (by omega) ?_
                              exact hJ900 (0 : Int32) C266 _ _ _ hF hw hS (lv_sub hl [0, 1, 2, 3, 4, 5, 6, 7, 8, 9, 10] rfl)
                            · have hF := it_t h267 hF
                              refine lv_aload_n hx hb dL_ticks_783 rfl (lv_at hl 0 rfl) ?_
                              obtain ⟨r268, C270, hc269, hF⟩ := b2_t hF
                              refine call_SNE hC (c_L_heat l (gP G H) (H.size - bb G) (hw.lp hn) (Nat.zero_le _) hfl  _ _ _ hc269) wsL_211 ⟨rfl, rfl, by decide, by decide⟩ hw hn hS hl.1 rfl (rest := []) rfl (Nat.le_of_ble_eq_true rfl) dL_ticks_784 ⟨(show (kc34 + 179) + 18 ≤ 11130 by omega), (show (ks34 + 1088) + 108 ≤ 66990 by omega)⟩ (fun H locs hw hS hk => ?_)
                              refine lv_iload hx hb dL_ticks_787 (lv_at hl 11 rfl) ?_
                              refine lv_iload hx hb dL_ticks_789 (lv_at hl 18 rfl) ?_
                              refine lv_iadd hx hb dL_ticks_791 ?_
                              refine lv_aload_n hx hb dL_ticks_792 rfl (lv_at hl 0 rfl) ?_
                              refine lv_iconst (v := 1) hx hb dL_ticks_793 (by decide) ?_
                              obtain ⟨r271, C273, hc272, hF⟩ := b2_t hF
                              refine call_SWE hC (c_L_tryAccount l (gP G H) (H.size - bb G) (hw.lp hn) (Nat.zero_le _) hfl (1 : Int32) _ _ _ hc272) wwL_148 ⟨rfl, rfl, by decide, by decide⟩ hw hn hS hl.1 rfl (rest := [.int (r42 + v123), .int r268]) rfl (Nat.le_of_ble_eq_true rfl) dL_ticks_794 ⟨(show (kc34 + 197) + 1 ≤ 11130 by omega), (show (ks34 + 1196) + 6 ≤ 66990 by omega)⟩ (fun H locs hw hS hk => ?_)
                              refine lv_iadd hx hb dL_ticks_797 ?_
                              refine lv_iload hx hb dL_ticks_798 (lv_at hl 12 rfl) ?_
                              refine lv_isub hx hb dL_ticks_800 ?_
                              refine lv_aload_n hx hb dL_ticks_801 rfl (lv_at hl 0 rfl) ?_
                              refine lv_iconst (v := 2) hx hb dL_ticks_802 (by decide) ?_
                              obtain ⟨r274, C276, hc275, hF⟩ := b2_t hF
                              refine call_SWE hC (c_L_tryAccount l (gP G H) (H.size - bb G) (hw.lp hn) (Nat.zero_le _) hfl (2 : Int32) _ _ _ hc275) wwL_148 ⟨rfl, rfl, by decide, by decide⟩ hw hn hS hl.1 rfl (rest := [.int (((r42 + v123) + r271) - r45), .int r268]) rfl (Nat.le_of_ble_eq_true rfl) dL_ticks_803 ⟨(show (kc34 + 198) + 1 ≤ 11130 by omega), (show (ks34 + 1202) + 6 ≤ 66990 by omega)⟩ (fun H locs hw hS hk => ?_)
                              refine lv_isub hx hb dL_ticks_806 ?_
                              refine lv_iload hx hb dL_ticks_807 (lv_at hl 13 rfl) ?_
                              refine lv_iadd hx hb dL_ticks_809 ?_
                              refine lv_aload_n hx hb dL_ticks_810 rfl (lv_at hl 0 rfl) ?_
                              refine lv_iconst (v := 3) hx hb dL_ticks_811 (by decide) ?_
                              obtain ⟨r277, C279, hc278, hF⟩ := b2_t hF
                              refine call_SWE hC (c_L_tryAccount l (gP G H) (H.size - bb G) (hw.lp hn) (Nat.zero_le _) hfl (3 : Int32) _ _ _ hc278) wwL_148 ⟨rfl, rfl, by decide, by decide⟩ hw hn hS hl.1 rfl (rest := [.int (((((r42 + v123) + r271) - r45) - r274) + r48), .int r268]) rfl (Nat.le_of_ble_eq_true rfl) dL_ticks_812 ⟨(show (kc34 + 199) + 1 ≤ 11130 by omega), (show (ks34 + 1208) + 6 ≤ 66990 by omega)⟩ (fun H locs hw hS hk => ?_)
                              refine lv_isub hx hb dL_ticks_815 ?_
                              refine lv_iload hx hb dL_ticks_816 (lv_at hl 14 rfl) ?_
                              refine lv_iadd hx hb dL_ticks_818 ?_
                              refine lv_icmp_ne (tgt := 899) hx hb dL_ticks_819 (by decide) (fun h280 => ?_) (fun h280 => ?_)
                              · have hF := it_f h280 hF
                                refine lv_iconst (v := 0) hx hb dL_ticks_899 (by decide) ?_
                                refine W.widen (k := (kc34 + 505)) (n := (ks34 + 3040)) (by omega) (by omega) ?_
                                exact hJ900 (0 : Int32) C279 _ _ _ hF hw hS (lv_sub hl [0, 1, 2, 3, 4, 5, 6, 7, 8, 9, 10] rfl)
                              · have hF := it_t h280 hF
                                refine lv_aload_n hx hb dL_ticks_822 rfl (lv_at hl 0 rfl) ?_
                                refine lv_iconst (v := 1) hx hb dL_ticks_823 (by decide) ?_
                                obtain ⟨r281, C283, hc282, hF⟩ := b2_t hF
                                refine call_SWE hC (c_L_tryAccount l (gP G H) (H.size - bb G) (hw.lp hn) (Nat.zero_le _) hfl (1 : Int32) _ _ _ hc282) wwL_148 ⟨rfl, rfl, by decide, by decide⟩ hw hn hS hl.1 rfl (rest := []) rfl (Nat.le_of_ble_eq_true rfl) dL_ticks_824 ⟨(show (kc34 + 200) + 1 ≤ 11130 by omega), (show (ks34 + 1214) + 6 ≤ 66990 by omega)⟩ (fun H locs hw hS hk => ?_)
                                refine lv_iload hx hb dL_ticks_827 (lv_at hl 12 rfl) ?_
                                refine lv_bipush (v := 10) hx hb dL_ticks_829 (by decide) ?_
                                refine lv_iload hx hb dL_ticks_831 (lv_at hl 3 rfl) ?_
                                refine lv_imul hx hb dL_ticks_833 ?_
                                refine lv_iadd hx hb dL_ticks_834 ?_
                                refine lv_icmp_ne (tgt := 899) hx hb dL_ticks_835 (by decide) (fun h284 => ?_) (fun h284 => ?_)
                                · have hF := it_f h284 hF
                                  refine lv_iconst (v := 0) hx hb dL_ticks_899 (by decide) ?_
                                  refine W.widen (k := (kc34 + 505)) (n := (ks34 + 3040)) (by omega) (by omega) ?_
                                  exact hJ900 (0 : Int32) C283 _ _ _ hF hw hS (lv_sub hl [0, 1, 2, 3, 4, 5, 6, 7, 8, 9, 10] rfl)
                                · have hF := it_t h284 hF
                                  refine lv_iload hx hb dL_ticks_838 (lv_at hl 19 rfl) ?_
                                  refine lv_iload hx hb dL_ticks_840 (lv_at hl 17 rfl) ?_
                                  have hJ860 : ∀ (v286 : Int32) (H : Heap) (locs : List Loc) (ls : Array Slot), J_L_ticks_860 v32 v64 v69 v110 v119 v227 v234 C283 v286 = some oo34 → Wd G n C283 H → LW G s H locs → lv_has ls 30 [(0, .ref (bb G + 0)), (2, .int r1), (3, .int v4), (4, .int v5), (5, .int r6), (6, .int r9), (7, .int v18), (8, .int v119), (9, .int v28), (10, .int v110), (12, .int v32), (18, .int v64), (19, .int v69), (28, .int v234)] → W p l e (rmX 11 204 11130 66990) s m ([.ref (bb G + 0), .int x1] : List Value).toArray below meth c H locs (kc34 + 201) (ks34 + 1220) (MQ below (QR G n (some (.int rR)) CR) ([.ref (bb G + 0), .int x1] : List Value).toArray s 11130 66990 (frA G)) (F0 m 860 ls [.int v286, .int v227]) := by
                                    intro v286 H locs ls hF hw hS hl
                                    unfold J_L_ticks_860 at hF
                                    refine lv_icmp_ne (tgt := 899) hx hb dL_ticks_860 (by decide) (fun h287 => ?_) (fun h287 => ?_)
                                    · have hF := it_f h287 hF
                                      refine lv_iconst (v := 0) hx hb dL_ticks_899 (by decide) ?_
                                      refine W.widen (k := (kc34 + 505)) (n := (ks34 + 3040)) (by omega) (by omega) ?_
                                      exact hJ900 (0 : Int32) C283 _ _ _ hF hw hS (lv_sub hl [0, 1, 2, 3, 4, 5, 6, 7, 8, 9, 10] rfl)
                                    · have hF := it_t h287 hF
                                      refine lv_iload hx hb dL_ticks_863 (lv_at hl 13 rfl) ?_
                                      refine lv_if_lt (tgt := 899) hx hb dL_ticks_865 (by decide) (fun h288 => ?_) (fun h288 => ?_)
                                      · have hF := it_t h288 hF
                                        refine lv_iconst (v := 0) hx hb dL_ticks_899 (by decide) ?_
                                        refine W.widen (k := (kc34 + 505)) (n := (ks34 + 3040)) (by omega) (by omega) ?_
                                        exact hJ900 (0 : Int32) C283 _ _ _ hF hw hS (lv_sub hl [0, 1, 2, 3, 4, 5, 6, 7, 8, 9, 10] rfl)
                                      · have hF := it_f h288 hF
                                        refine lv_iload hx hb dL_ticks_868 (lv_at hl 13 rfl) ?_
                                        refine lv_iload hx hb dL_ticks_870 (lv_at hl 12 rfl) ?_
                                        have hJ885 : ∀ (v290 : Int32) (H : Heap) (locs : List Loc) (ls : Array Slot), J_L_ticks_885 v32 v110 v119 v234 C283 v290 = some oo34 → Wd G n C283 H → LW G s H locs → lv_has ls 30 [(0, .ref (bb G + 0)), (2, .int r1), (3, .int v4), (4, .int v5), (5, .int r6), (6, .int r9), (7, .int v18), (8, .int v119), (9, .int v28), (10, .int v110), (12, .int v32)] → W p l e (rmX 11 204 11130 66990) s m ([.ref (bb G + 0), .int x1] : List Value).toArray below meth c H locs (kc34 + 201) (ks34 + 1220) (MQ below (QR G n (some (.int rR)) CR) ([.ref (bb G + 0), .int x1] : List Value).toArray s 11130 66990 (frA G)) (F0 m 885 ls [.int v290, .int v234]) := by
                                          intro v290 H locs ls hF hw hS hl
                                          unfold J_L_ticks_885 at hF
                                          refine lv_icmp_gt (tgt := 899) hx hb dL_ticks_885 (by decide) (fun h291 => ?_) (fun h291 => ?_)
                                          · have hF := it_t h291 hF
                                            refine lv_iconst (v := 0) hx hb dL_ticks_899 (by decide) ?_
                                            refine W.widen (k := (kc34 + 505)) (n := (ks34 + 3040)) (by omega) (by omega) ?_
                                            exact hJ900 (0 : Int32) C283 _ _ _ hF hw hS (lv_sub hl [0, 1, 2, 3, 4, 5, 6, 7, 8, 9, 10] rfl)
                                          · have hF := it_f h291 hF
                                            refine lv_aload_n hx hb dL_ticks_888 rfl (lv_at hl 0 rfl) ?_
                                            obtain ⟨r292, C294, hc293, hF⟩ := b2_t hF
                                            refine call_SNE hC (c_L_sound l (gP G H) (H.size - bb G) (hw.lp hn) (Nat.zero_le _) hfl  _ _ _ hc293) wsL_214 ⟨rfl, rfl, by decide, by decide⟩ hw hn hS hl.1 rfl (rest := []) rfl (Nat.le_of_ble_eq_true rfl) dL_ticks_889 ⟨(show (kc34 + 201) + 304 ≤ 11130 by omega), (show (ks34 + 1220) + 1820 ≤ 66990 by omega)⟩ (fun H locs hw hS hk => ?_)
                                            refine lv_if_eq (tgt := 899) hx hb dL_ticks_892 (by decide) (fun h295 => ?_) (fun h295 => ?_)
                                            · have hF := it_t h295 hF
                                              refine lv_iconst (v := 0) hx hb dL_ticks_899 (by decide) ?_
                                              exact hJ900 (0 : Int32) C294 _ _ _ hF hw hS (lv_sub hl [0, 1, 2, 3, 4, 5, 6, 7, 8, 9, 10] rfl)
                                            · have hF := it_f h295 hF
                                              refine lv_iconst (v := 1) hx hb dL_ticks_895 (by decide) ?_
                                              refine lv_goto (tgt := 900) hx hb dL_ticks_896 (by decide) ?_
                                              exact hJ900 (1 : Int32) C294 _ _ _ hF hw hS (lv_sub hl [0, 1, 2, 3, 4, 5, 6, 7, 8, 9, 10] rfl)
                                        refine lv_if_ne (tgt := 880) hx hb dL_ticks_872 (by decide) (fun h289 => ?_) (fun h289 => ?_)
                                        · have hF := it_f h289 hF
                                          refine lv_iconst (v := 1) hx hb dL_ticks_880 (by decide) ?_
                                          refine lv_goto (tgt := 885) hx hb dL_ticks_881 (by decide) ?_
                                          exact hJ885 (1 : Int32) _ _ _ hF hw hS (lv_sub hl [0, 1, 2, 3, 4, 5, 6, 7, 8, 9, 10] rfl)
                                        · have hF := it_t h289 hF
                                          refine lv_iload hx hb dL_ticks_875 (lv_at hl 11 rfl) ?_
                                          refine lv_if_eq (tgt := 884) hx hb dL_ticks_877 (by decide) (fun h296 => ?_) (fun h296 => ?_)
                                          · have hF := it_t h296 hF
                                            refine lv_iconst (v := 0) hx hb dL_ticks_884 (by decide) ?_
                                            exact hJ885 (0 : Int32) _ _ _ hF hw hS (lv_sub hl [0, 1, 2, 3, 4, 5, 6, 7, 8, 9, 10] rfl)
                                          · have hF := it_f h296 hF
                                            refine lv_iconst (v := 1) hx hb dL_ticks_880 (by decide) ?_
                                            refine lv_goto (tgt := 885) hx hb dL_ticks_881 (by decide) ?_
                                            exact hJ885 (1 : Int32) _ _ _ hF hw hS (lv_sub hl [0, 1, 2, 3, 4, 5, 6, 7, 8, 9, 10] rfl)
                                  refine lv_if_ne (tgt := 850) hx hb dL_ticks_842 (by decide) (fun h285 => ?_) (fun h285 => ?_)
                                  · have hF := it_f h285 hF
                                    refine lv_iload hx hb dL_ticks_850 (lv_at hl 20 rfl) ?_
                                    refine lv_if_ne (tgt := 859) hx hb dL_ticks_852 (by decide) (fun h297 => ?_) (fun h297 => ?_)
                                    · have hF := it_f h297 hF
                                      refine lv_iconst (v := 0) hx hb dL_ticks_859 (by decide) ?_
                                      exact hJ860 (0 : Int32) _ _ _ hF hw hS (lv_sub hl [0, 1, 2, 3, 4, 5, 6, 7, 8, 9, 10, 16, 17, 20] rfl)
                                    · have hF := it_t h297 hF
                                      refine lv_iconst (v := 1) hx hb dL_ticks_855 (by decide) ?_
                                      refine lv_goto (tgt := 860) hx hb dL_ticks_856 (by decide) ?_
                                      exact hJ860 (1 : Int32) _ _ _ hF hw hS (lv_sub hl [0, 1, 2, 3, 4, 5, 6, 7, 8, 9, 10, 16, 17, 20] rfl)
                                  · have hF := it_t h285 hF
                                    refine lv_iload hx hb dL_ticks_845 (lv_at hl 16 rfl) ?_
                                    refine lv_if_eq (tgt := 859) hx hb dL_ticks_847 (by decide) (fun h298 => ?_) (fun h298 => ?_)
                                    · have hF := it_t h298 hF
                                      refine lv_iconst (v := 0) hx hb dL_ticks_859 (by decide) ?_
                                      exact hJ860 (0 : Int32) _ _ _ hF hw hS (lv_sub hl [0, 1, 2, 3, 4, 5, 6, 7, 8, 9, 10, 16, 17, 20] rfl)
                                    · have hF := it_f h298 hF
                                      refine lv_iload hx hb dL_ticks_850 (lv_at hl 20 rfl) ?_
                                      refine lv_if_ne (tgt := 859) hx hb dL_ticks_852 (by decide) (fun h299 => ?_) (fun h299 => ?_)
                                      · have hF := it_f h299 hF
                                        refine lv_iconst (v := 0) hx hb dL_ticks_859 (by decide) ?_
                                        exact hJ860 (0 : Int32) _ _ _ hF hw hS (lv_sub hl [0, 1, 2, 3, 4, 5, 6, 7, 8, 9, 10, 16, 17, 20] rfl)
                                      · have hF := it_t h299 hF
                                        refine lv_iconst (v := 1) hx hb dL_ticks_855 (by decide) ?_
                                        refine lv_goto (tgt := 860) hx hb dL_ticks_856 (by decide) ?_
                                        exact hJ860 (1 : Int32) _ _ _ hF hw hS (lv_sub hl [0, 1, 2, 3, 4, 5, 6, 7, 8, 9, 10, 16, 17, 20] rfl)
                          refine lv_if_eq (tgt := 770) hx hb dL_ticks_759 (by decide) (fun h263 => ?_) (fun h263 => ?_)
                          · have hF := it_t h263 hF
                            exact hJ770  _ _ _ hF hw hS (lv_sub hl [2, 3, 4, 5, 6, 7, 8, 9, 10, 11, 13, 14, 15, 16, 17, 18, 19, 20, 24, 1, 0] rfl)
                          · have hF := it_f h263 hF
                            refine lv_iload hx hb dL_ticks_762 (lv_at hl 22 rfl) ?_
                            refine lv_iload hx hb dL_ticks_764 (lv_at hl 23 rfl) ?_
                            refine lv_iadd hx hb dL_ticks_766 ?_
                            refine lv_if_ne (tgt := 899) hx hb dL_ticks_767 (by decide) (fun h300 => ?_) (fun h300 => ?_)
                            · have hF := it_f h300 hF
                              refine lv_iconst (v := 0) hx hb dL_ticks_899 (by decide) ?_
                              refine W.widen (k := (kc34 + 505)) (n := (ks34 + 3040)) (by omega) (by omega) ?_
                              exact hJ900 (0 : Int32) C233 _ _ _ hF hw hS (lv_sub hl [2, 3, 4, 5, 6, 7, 8, 9, 10, 11, 13] rfl)
                            · have hF := it_t h300 hF
                              exact hJ770  _ _ _ hF hw hS (lv_sub hl [2, 3, 4, 5, 6, 7, 8, 9, 10, 11, 13, 14, 15, 16, 17, 18, 19, 20, 24, 1, 0] rfl)
                refine lv_icmp_ne (tgt := 710) hx hb dL_ticks_703 (by decide) (fun h226 => ?_) (fun h226 => ?_)
                · have hF := it_f h226 hF
                  refine lv_iconst (v := 0) hx hb dL_ticks_710 (by decide) ?_
                  exact hJ711 (0 : Int32) _ _ _ hF hw hS (lv_sub hl [2, 3, 4, 5, 6, 7, 8, 19, 9, 1, 20, 10, 11, 12, 13, 14, 15, 16, 17, 18, 21, 22, 23, 0] rfl)
                · have hF := it_t h226 hF
                  refine lv_iconst (v := 1) hx hb dL_ticks_706 (by decide) ?_
                  refine lv_goto (tgt := 711) hx hb dL_ticks_707 (by decide) ?_
                  exact hJ711 (1 : Int32) _ _ _ hF hw hS (lv_sub hl [2, 3, 4, 5, 6, 7, 8, 19, 9, 1, 20, 10, 11, 12, 13, 14, 15, 16, 17, 18, 21, 22, 23, 0] rfl)
              refine iter_soundN (P := fun (w118 : Nat) (x : Int32 × Int32 × Int32 × Int32 × Int32 × Int32 × Mem) => ∀ (kc118 ks118 : Nat) (H : Heap) (locs : List Loc) (ls : Array Slot), kc118 + 16 * w118 ≤ (kc34 + 174) → ks118 + 96 * w118 ≤ (ks34 + 1058) → Wd G n x.2.2.2.2.2.2 H → LW G s H locs → Row G n ra199 20 f83 H → lv_has ls 30 [(10, .int v110), (0, .ref (bb G + 0)), (2, .int r1), (3, .int v4), (4, .int v5), (5, .int r6), (6, .int r9), (7, .int v18), (9, .int v28), (12, .int v32), (13, .int r42), (14, .int r45), (15, .int r48), (16, .int r51), (17, .int r54), (18, .int v64), (19, .int v69), (20, .int v76), (21, .ref ra199), (8, .int x.1), (11, .int x.2.1), (23, .int x.2.2.1), (24, .int x.2.2.2.1), (25, .int x.2.2.2.2.1), (26, .int x.2.2.2.2.2.1)] → W p l e (rmX 11 204 11130 66990) s m ([.ref (bb G + 0), .int x1] : List Value).toArray below meth c H locs kc118 ks118 (MQ below (QR G n (some (.int rR)) CR) ([.ref (bb G + 0), .int x1] : List Value).toArray s 11130 66990 (frA G)) (F0 m 318 ls [])) (X := fun r => r = o118) ?_ 6 (v29, v31, (0 : Int32), (0 : Int32), (0 : Int32), (0 : Int32), C108) o118 hit118 rfl (kc34 + 78) (ks34 + 482) _ _ _ (by omega) (by omega) hw hS hr199 (lv_sub hl [4, 5, 6, 7, 8, 9, 10, 11, 13, 15, 16, 17, 18, 19, 20, 21, 22, 23, 24, 12, 14, 3, 2, 1, 0] rfl)
              intro w118 x oo118 hF hk118 hX118 kc118 ks118 H locs ls hc118 hs118 hw hS hr199 hl
              obtain ⟨v111, v112, v113, v114, v115, v116, C117⟩ := x
              have hF : S_L_ticks_318 r1 f83 v111 v112 v113 v114 v115 v116 C117 = some oo118 := hF
              have hw : Wd G n C117 H := hw
              have hr199 : Row G n ra199 20 f83 H := hr199
              have hl : lv_has ls 30 [(10, .int v110), (0, .ref (bb G + 0)), (2, .int r1), (3, .int v4), (4, .int v5), (5, .int r6), (6, .int r9), (7, .int v18), (9, .int v28), (12, .int v32), (13, .int r42), (14, .int r45), (15, .int r48), (16, .int r51), (17, .int r54), (18, .int v64), (19, .int v69), (20, .int v76), (21, .ref ra199), (8, .int v111), (11, .int v112), (23, .int v113), (24, .int v114), (25, .int v115), (26, .int v116)] := hl
              unfold S_L_ticks_318 at hF
              refine lv_iload hx hb dL_ticks_318 (lv_at hl 24 rfl) ?_
              refine lv_iload_n hx hb dL_ticks_320 rfl (lv_at hl 2 rfl) ?_
              refine lv_icmp_ge (tgt := 688) hx hb dL_ticks_321 (by decide) (fun h126 => ?_) (fun h126 => ?_)
              · have hF := it_t h126 hF
                refine W.widen (k := (kc34 + 174)) (n := (ks34 + 1058)) (by omega) (by omega) ?_
                exact hR118 _ _ _ _ _ _ _ _ _ _ (it_exit hF hX118).symm hw hS (lv_sub hl [0, 1, 2, 3, 4, 5, 6, 7, 8, 9, 10, 11, 12, 13, 14, 15, 16, 17, 19, 20, 21, 22, 23] rfl)
              · have hF := it_f h126 hF
                refine lv_iload hx hb dL_ticks_324 (lv_at hl 20 rfl) ?_
                refine lv_if_eq (tgt := 688) hx hb dL_ticks_326 (by decide) (fun h127 => ?_) (fun h127 => ?_)
                · have hF := it_t h127 hF
                  refine W.widen (k := (kc34 + 174)) (n := (ks34 + 1058)) (by omega) (by omega) ?_
                  exact hR118 _ _ _ _ _ _ _ _ _ _ (it_exit hF hX118).symm hw hS (lv_sub hl [0, 1, 2, 3, 4, 5, 6, 7, 8, 9, 10, 11, 12, 13, 14, 15, 16, 17, 19, 20, 21, 22, 23] rfl)
                · have hF := it_f h127 hF
                  refine lv_aload_n hx hb dL_ticks_329 rfl (lv_at hl 1 rfl) ?_
                  refine lv_iload hx hb dL_ticks_330 (lv_at hl 24 rfl) ?_
                  refine lv_iconst (v := 5) hx hb dL_ticks_332 (by decide) ?_
                  obtain ⟨r128, C130, hc129, hF⟩ := b2_t hF
                  refine call_SWE hC (c_L_tryBoiler l (gP G H) (H.size - bb G) (hw.lp hn) (Nat.zero_le _) hfl v116 (5 : Int32) _ _ _ hc129) wwL_151 ⟨rfl, rfl, by decide, by decide⟩ hw hn hS hl.1 rfl (rest := []) rfl (Nat.le_of_ble_eq_true rfl) dL_ticks_333 ⟨(show kc118 + 2 ≤ 11130 by omega), (show ks118 + 12 ≤ 66990 by omega)⟩ (fun H locs hw hS hk => ?_)
                  have hr199 := hr199.kp hn hk
                  refine lv_aload hx hb dL_ticks_336 (lv_at hl 18 rfl) ?_
                  refine lv_iconst (v := 4) hx hb dL_ticks_338 (by decide) ?_
                  refine lv_iload hx hb dL_ticks_339 (lv_at hl 24 rfl) ?_
                  refine lv_imul hx hb dL_ticks_341 ?_
                  refine lv_iconst (v := 1) hx hb dL_ticks_342 (by decide) ?_
                  refine lv_iadd hx hb dL_ticks_343 ?_
                  obtain ⟨g131, hF⟩ := gi_t hF
                  refine r_iald hC hr199 g131 dL_ticks_344 ?_
                  refine lv_iconst (v := 1) hx hb dL_ticks_345 (by decide) ?_
                  refine lv_iadd hx hb dL_ticks_346 ?_
                  have hJ355 : ∀ (v133 : Int32) (H : Heap) (locs : List Loc) (ls : Array Slot), J_L_ticks_355 f83 v111 v113 v114 v115 v116 C130 v133 = some oo118 → Wd G n C130 H → LW G s H locs → Row G n ra199 20 f83 H → lv_has ls 30 [(0, .ref (bb G + 0)), (2, .int r1), (3, .int v4), (4, .int v5), (5, .int r6), (6, .int r9), (7, .int v18), (8, .int v111), (9, .int v28), (10, .int v110), (12, .int v32), (13, .int r42), (14, .int r45), (15, .int r48), (16, .int r51), (17, .int r54), (18, .int v64), (19, .int v69), (20, .int v76), (21, .ref ra199), (23, .int v113), (24, .int v114), (25, .int v115), (26, .int v116)] → W p l e (rmX 11 204 11130 66990) s m ([.ref (bb G + 0), .int x1] : List Value).toArray below meth c H locs (kc118 + 2) (ks118 + 12) (MQ below (QR G n (some (.int rR)) CR) ([.ref (bb G + 0), .int x1] : List Value).toArray s 11130 66990 (frA G)) (F0 m 355 ls [.int v133]) := by
                    intro v133 H locs ls hF hw hS hr199 hl
                    unfold J_L_ticks_355 at hF
                    refine lv_istore (lv' := [(27, .int v133), (0, .ref (bb G + 0)), (2, .int r1), (3, .int v4), (4, .int v5), (5, .int r6), (6, .int r9), (7, .int v18), (8, .int v111), (9, .int v28), (10, .int v110), (12, .int v32), (13, .int r42), (14, .int r45), (15, .int r48), (16, .int r51), (17, .int r54), (18, .int v64), (19, .int v69), (20, .int v76), (21, .ref ra199), (23, .int v113), (24, .int v114), (25, .int v115), (26, .int v116)]) hx hb dL_ticks_355 hl (by decide) rfl (fun ls hl => ?_)
                    refine lv_aload_n hx hb dL_ticks_357 rfl (lv_at hl 1 rfl) ?_
                    refine lv_iload hx hb dL_ticks_358 (lv_at hl 24 rfl) ?_
                    refine lv_iconst (v := 4) hx hb dL_ticks_360 (by decide) ?_
                    obtain ⟨r134, C136, hc135, hF⟩ := b2_t hF
                    refine call_SWE hC (c_L_tryBoiler l (gP G H) (H.size - bb G) (hw.lp hn) (Nat.zero_le _) hfl v116 (4 : Int32) _ _ _ hc135) wwL_151 ⟨rfl, rfl, by decide, by decide⟩ hw hn hS hl.1 rfl (rest := []) rfl (Nat.le_of_ble_eq_true rfl) dL_ticks_361 ⟨(show (kc118 + 2) + 2 ≤ 11130 by omega), (show (ks118 + 12) + 12 ≤ 66990 by omega)⟩ (fun H locs hw hS hk => ?_)
                    have hr199 := hr199.kp hn hk
                    refine lv_aload hx hb dL_ticks_364 (lv_at hl 20 rfl) ?_
                    refine lv_iconst (v := 4) hx hb dL_ticks_366 (by decide) ?_
                    refine lv_iload hx hb dL_ticks_367 (lv_at hl 24 rfl) ?_
                    refine lv_imul hx hb dL_ticks_369 ?_
                    refine lv_iconst (v := 2) hx hb dL_ticks_370 (by decide) ?_
                    refine lv_iadd hx hb dL_ticks_371 ?_
                    obtain ⟨g137, hF⟩ := gi_t hF
                    refine r_iald hC hr199 g137 dL_ticks_372 ?_
                    refine lv_iconst (v := 1) hx hb dL_ticks_373 (by decide) ?_
                    refine lv_iadd hx hb dL_ticks_374 ?_
                    have hJ383 : ∀ (v139 : Int32) (H : Heap) (locs : List Loc) (ls : Array Slot), J_L_ticks_383 f83 v111 v113 v114 v115 v116 v133 C136 v139 = some oo118 → Wd G n C136 H → LW G s H locs → Row G n ra199 20 f83 H → lv_has ls 30 [(0, .ref (bb G + 0)), (2, .int r1), (3, .int v4), (4, .int v5), (5, .int r6), (6, .int r9), (7, .int v18), (8, .int v111), (9, .int v28), (10, .int v110), (12, .int v32), (13, .int r42), (14, .int r45), (15, .int r48), (16, .int r51), (17, .int r54), (18, .int v64), (19, .int v69), (20, .int v76), (21, .ref ra199), (23, .int v113), (24, .int v114), (25, .int v115), (26, .int v116), (27, .int v133)] → W p l e (rmX 11 204 11130 66990) s m ([.ref (bb G + 0), .int x1] : List Value).toArray below meth c H locs (kc118 + 4) (ks118 + 24) (MQ below (QR G n (some (.int rR)) CR) ([.ref (bb G + 0), .int x1] : List Value).toArray s 11130 66990 (frA G)) (F0 m 383 ls [.int v139]) := by
                      intro v139 H locs ls hF hw hS hr199 hl
                      unfold J_L_ticks_383 at hF
                      refine lv_istore (lv' := [(28, .int v139), (0, .ref (bb G + 0)), (2, .int r1), (3, .int v4), (4, .int v5), (5, .int r6), (6, .int r9), (7, .int v18), (8, .int v111), (9, .int v28), (10, .int v110), (12, .int v32), (13, .int r42), (14, .int r45), (15, .int r48), (16, .int r51), (17, .int r54), (18, .int v64), (19, .int v69), (20, .int v76), (21, .ref ra199), (23, .int v113), (24, .int v114), (25, .int v115), (26, .int v116), (27, .int v133)]) hx hb dL_ticks_383 hl (by decide) rfl (fun ls hl => ?_)
                      refine lv_aload_n hx hb dL_ticks_385 rfl (lv_at hl 1 rfl) ?_
                      refine lv_iload hx hb dL_ticks_386 (lv_at hl 24 rfl) ?_
                      refine lv_iconst (v := 2) hx hb dL_ticks_388 (by decide) ?_
                      obtain ⟨r140, C142, hc141, hF⟩ := b2_t hF
                      refine call_SWE hC (c_L_tryBoiler l (gP G H) (H.size - bb G) (hw.lp hn) (Nat.zero_le _) hfl v116 (2 : Int32) _ _ _ hc141) wwL_151 ⟨rfl, rfl, by decide, by decide⟩ hw hn hS hl.1 rfl (rest := []) rfl (Nat.le_of_ble_eq_true rfl) dL_ticks_389 ⟨(show (kc118 + 4) + 2 ≤ 11130 by omega), (show (ks118 + 24) + 12 ≤ 66990 by omega)⟩ (fun H locs hw hS hk => ?_)
                      have hr199 := hr199.kp hn hk
                      refine lv_istore (lv' := [(29, .int r140), (28, .int v139), (0, .ref (bb G + 0)), (2, .int r1), (3, .int v4), (4, .int v5), (5, .int r6), (6, .int r9), (7, .int v18), (8, .int v111), (9, .int v28), (10, .int v110), (12, .int v32), (13, .int r42), (14, .int r45), (15, .int r48), (16, .int r51), (17, .int r54), (18, .int v64), (19, .int v69), (20, .int v76), (21, .ref ra199), (23, .int v113), (24, .int v114), (25, .int v115), (26, .int v116), (27, .int v133)]) hx hb dL_ticks_392 hl (by decide) rfl (fun ls hl => ?_)
                      refine lv_iload hx hb dL_ticks_394 (lv_at hl 22 rfl) ?_
                      refine lv_iload hx hb dL_ticks_396 (lv_at hl 26 rfl) ?_
                      have hJ406 : ∀ (v144 : Int32) (H : Heap) (locs : List Loc) (ls : Array Slot), J_L_ticks_406 f83 v111 v113 v114 v115 v116 v133 v139 r140 C142 v144 = some oo118 → Wd G n C142 H → LW G s H locs → Row G n ra199 20 f83 H → lv_has ls 30 [(0, .ref (bb G + 0)), (2, .int r1), (3, .int v4), (4, .int v5), (5, .int r6), (6, .int r9), (7, .int v18), (8, .int v111), (9, .int v28), (10, .int v110), (12, .int v32), (13, .int r42), (14, .int r45), (15, .int r48), (16, .int r51), (17, .int r54), (18, .int v64), (19, .int v69), (20, .int v76), (21, .ref ra199), (24, .int v114), (25, .int v115), (26, .int v116), (27, .int v133), (28, .int v139), (29, .int r140)] → W p l e (rmX 11 204 11130 66990) s m ([.ref (bb G + 0), .int x1] : List Value).toArray below meth c H locs (kc118 + 6) (ks118 + 36) (MQ below (QR G n (some (.int rR)) CR) ([.ref (bb G + 0), .int x1] : List Value).toArray s 11130 66990 (frA G)) (F0 m 406 ls [.int v144, .int v113]) := by
                        intro v144 H locs ls hF hw hS hr199 hl
                        unfold J_L_ticks_406 at hF
                        refine lv_iadd hx hb dL_ticks_406 ?_
                        obtain ⟨v145, ev145, hF⟩ := nm_t hF
                        refine lv_nmi ev145 ?_
                        refine lv_istore (lv' := [(23, .int v145), (0, .ref (bb G + 0)), (2, .int r1), (3, .int v4), (4, .int v5), (5, .int r6), (6, .int r9), (7, .int v18), (8, .int v111), (9, .int v28), (10, .int v110), (12, .int v32), (13, .int r42), (14, .int r45), (15, .int r48), (16, .int r51), (17, .int r54), (18, .int v64), (19, .int v69), (20, .int v76), (21, .ref ra199), (24, .int v114), (25, .int v115), (26, .int v116), (27, .int v133), (28, .int v139), (29, .int r140)]) hx hb dL_ticks_407 hl (by decide) rfl (fun ls hl => ?_)
                        refine lv_iload hx hb dL_ticks_409 (lv_at hl 21 rfl) ?_
                        refine lv_aload hx hb dL_ticks_411 (lv_at hl 20 rfl) ?_
                        refine lv_iconst (v := 4) hx hb dL_ticks_413 (by decide) ?_
                        refine lv_iload hx hb dL_ticks_414 (lv_at hl 23 rfl) ?_
                        refine lv_imul hx hb dL_ticks_416 ?_
                        obtain ⟨g146, hF⟩ := gi_t hF
                        refine r_iald hC hr199 g146 dL_ticks_417 ?_
                        refine lv_iconst (v := 2) hx hb dL_ticks_418 (by decide) ?_
                        have hJ433 : ∀ (v148 : Int32) (H : Heap) (locs : List Loc) (ls : Array Slot), J_L_ticks_433 f83 v111 v114 v115 v116 v133 v139 r140 C142 v145 v148 = some oo118 → Wd G n C142 H → LW G s H locs → Row G n ra199 20 f83 H → lv_has ls 30 [(0, .ref (bb G + 0)), (2, .int r1), (3, .int v4), (4, .int v5), (5, .int r6), (6, .int r9), (7, .int v18), (8, .int v111), (9, .int v28), (10, .int v110), (12, .int v32), (13, .int r42), (14, .int r45), (15, .int r48), (16, .int r51), (17, .int r54), (18, .int v64), (19, .int v69), (20, .int v76), (21, .ref ra199), (23, .int v145), (25, .int v115), (26, .int v116), (27, .int v133), (28, .int v139), (29, .int r140)] → W p l e (rmX 11 204 11130 66990) s m ([.ref (bb G + 0), .int x1] : List Value).toArray below meth c H locs (kc118 + 6) (ks118 + 36) (MQ below (QR G n (some (.int rR)) CR) ([.ref (bb G + 0), .int x1] : List Value).toArray s 11130 66990 (frA G)) (F0 m 433 ls [.int v148, .int v114]) := by
                          intro v148 H locs ls hF hw hS hr199 hl
                          unfold J_L_ticks_433 at hF
                          refine lv_iadd hx hb dL_ticks_433 ?_
                          obtain ⟨v149, ev149, hF⟩ := nm_t hF
                          refine lv_nmi ev149 ?_
                          refine lv_istore (lv' := [(24, .int v149), (0, .ref (bb G + 0)), (2, .int r1), (3, .int v4), (4, .int v5), (5, .int r6), (6, .int r9), (7, .int v18), (8, .int v111), (9, .int v28), (10, .int v110), (12, .int v32), (13, .int r42), (14, .int r45), (15, .int r48), (16, .int r51), (17, .int r54), (18, .int v64), (19, .int v69), (20, .int v76), (21, .ref ra199), (23, .int v145), (25, .int v115), (26, .int v116), (27, .int v133), (28, .int v139), (29, .int r140)]) hx hb dL_ticks_434 hl (by decide) rfl (fun ls hl => ?_)
                          refine lv_iload hx hb dL_ticks_436 (lv_at hl 22 rfl) ?_
                          refine lv_iload hx hb dL_ticks_438 (lv_at hl 25 rfl) ?_
                          have hJ454 : ∀ (v151 : Int32) (C152 : Mem) (H : Heap) (locs : List Loc) (ls : Array Slot), J_L_ticks_454 f83 v111 v115 v116 v133 v139 r140 v145 v149 v151 C152 = some oo118 → Wd G n C152 H → LW G s H locs → Row G n ra199 20 f83 H → lv_has ls 30 [(0, .ref (bb G + 0)), (2, .int r1), (3, .int v4), (4, .int v5), (5, .int r6), (6, .int r9), (7, .int v18), (8, .int v111), (9, .int v28), (10, .int v110), (12, .int v32), (13, .int r42), (14, .int r45), (15, .int r48), (16, .int r51), (17, .int r54), (18, .int v64), (19, .int v69), (20, .int v76), (21, .ref ra199), (23, .int v145), (24, .int v149), (26, .int v116), (27, .int v133), (28, .int v139), (29, .int r140)] → W p l e (rmX 11 204 11130 66990) s m ([.ref (bb G + 0), .int x1] : List Value).toArray below meth c H locs (kc118 + 8) (ks118 + 48) (MQ below (QR G n (some (.int rR)) CR) ([.ref (bb G + 0), .int x1] : List Value).toArray s 11130 66990 (frA G)) (F0 m 454 ls [.int v151, .int v115]) := by
                            intro v151 C152 H locs ls hF hw hS hr199 hl
                            unfold J_L_ticks_454 at hF
                            refine lv_iadd hx hb dL_ticks_454 ?_
                            obtain ⟨v153, ev153, hF⟩ := nm_t hF
                            refine lv_nmi ev153 ?_
                            refine lv_istore (lv' := [(25, .int v153), (0, .ref (bb G + 0)), (2, .int r1), (3, .int v4), (4, .int v5), (5, .int r6), (6, .int r9), (7, .int v18), (8, .int v111), (9, .int v28), (10, .int v110), (12, .int v32), (13, .int r42), (14, .int r45), (15, .int r48), (16, .int r51), (17, .int r54), (18, .int v64), (19, .int v69), (20, .int v76), (21, .ref ra199), (23, .int v145), (24, .int v149), (26, .int v116), (27, .int v133), (28, .int v139), (29, .int r140)]) hx hb dL_ticks_455 hl (by decide) rfl (fun ls hl => ?_)
                            refine lv_iload hx hb dL_ticks_457 (lv_at hl 8 rfl) ?_
                            refine lv_iload hx hb dL_ticks_459 (lv_at hl 24 rfl) ?_
                            have hJ469 : ∀ (v155 : Int32) (H : Heap) (locs : List Loc) (ls : Array Slot), J_L_ticks_469 f83 v111 v116 v133 v139 r140 v145 v149 C152 v153 v155 = some oo118 → Wd G n C152 H → LW G s H locs → Row G n ra199 20 f83 H → lv_has ls 30 [(0, .ref (bb G + 0)), (2, .int r1), (3, .int v4), (4, .int v5), (5, .int r6), (6, .int r9), (7, .int v18), (9, .int v28), (10, .int v110), (12, .int v32), (13, .int r42), (14, .int r45), (15, .int r48), (16, .int r51), (17, .int r54), (18, .int v64), (19, .int v69), (20, .int v76), (21, .ref ra199), (23, .int v145), (24, .int v149), (25, .int v153), (26, .int v116), (27, .int v133), (28, .int v139), (29, .int r140)] → W p l e (rmX 11 204 11130 66990) s m ([.ref (bb G + 0), .int x1] : List Value).toArray below meth c H locs (kc118 + 8) (ks118 + 48) (MQ below (QR G n (some (.int rR)) CR) ([.ref (bb G + 0), .int x1] : List Value).toArray s 11130 66990 (frA G)) (F0 m 469 ls [.int v155, .int v111]) := by
                              intro v155 H locs ls hF hw hS hr199 hl
                              unfold J_L_ticks_469 at hF
                              refine lv_isub hx hb dL_ticks_469 ?_
                              obtain ⟨v156, ev156, hF⟩ := nm_t hF
                              refine lv_nmi ev156 ?_
                              refine lv_istore (lv' := [(8, .int v156), (0, .ref (bb G + 0)), (2, .int r1), (3, .int v4), (4, .int v5), (5, .int r6), (6, .int r9), (7, .int v18), (9, .int v28), (10, .int v110), (12, .int v32), (13, .int r42), (14, .int r45), (15, .int r48), (16, .int r51), (17, .int r54), (18, .int v64), (19, .int v69), (20, .int v76), (21, .ref ra199), (23, .int v145), (24, .int v149), (25, .int v153), (26, .int v116), (27, .int v133), (28, .int v139), (29, .int r140)]) hx hb dL_ticks_470 hl (by decide) rfl (fun ls hl => ?_)
                              refine lv_iload hx hb dL_ticks_472 (lv_at hl 24 rfl) ?_
                              have hJ496 : ∀ (C158 : Mem) (H : Heap) (locs : List Loc) (ls : Array Slot), J_L_ticks_496 f83 v116 v133 v139 r140 v145 v149 v153 v156 C158 = some oo118 → Wd G n C158 H → LW G s H locs → Row G n ra199 20 f83 H → lv_has ls 30 [(0, .ref (bb G + 0)), (2, .int r1), (3, .int v4), (4, .int v5), (5, .int r6), (6, .int r9), (7, .int v18), (8, .int v156), (9, .int v28), (10, .int v110), (12, .int v32), (13, .int r42), (14, .int r45), (15, .int r48), (16, .int r51), (17, .int r54), (18, .int v64), (19, .int v69), (20, .int v76), (21, .ref ra199), (23, .int v145), (24, .int v149), (25, .int v153), (26, .int v116), (27, .int v133), (28, .int v139), (29, .int r140)] → W p l e (rmX 11 204 11130 66990) s m ([.ref (bb G + 0), .int x1] : List Value).toArray below meth c H locs (kc118 + 10) (ks118 + 60) (MQ below (QR G n (some (.int rR)) CR) ([.ref (bb G + 0), .int x1] : List Value).toArray s 11130 66990 (frA G)) (F0 m 496 ls []) := by
                                intro C158 H locs ls hF hw hS hr199 hl
                                unfold J_L_ticks_496 at hF
                                refine lv_iload hx hb dL_ticks_496 (lv_at hl 25 rfl) ?_
                                have hJ520 : ∀ (C160 : Mem) (H : Heap) (locs : List Loc) (ls : Array Slot), J_L_ticks_520 f83 v116 v133 v139 r140 v145 v149 v153 v156 C160 = some oo118 → Wd G n C160 H → LW G s H locs → Row G n ra199 20 f83 H → lv_has ls 30 [(0, .ref (bb G + 0)), (2, .int r1), (3, .int v4), (4, .int v5), (5, .int r6), (6, .int r9), (7, .int v18), (8, .int v156), (9, .int v28), (10, .int v110), (12, .int v32), (13, .int r42), (14, .int r45), (15, .int r48), (16, .int r51), (17, .int r54), (18, .int v64), (19, .int v69), (20, .int v76), (21, .ref ra199), (23, .int v145), (24, .int v149), (25, .int v153), (26, .int v116), (27, .int v133), (28, .int v139), (29, .int r140)] → W p l e (rmX 11 204 11130 66990) s m ([.ref (bb G + 0), .int x1] : List Value).toArray below meth c H locs (kc118 + 12) (ks118 + 72) (MQ below (QR G n (some (.int rR)) CR) ([.ref (bb G + 0), .int x1] : List Value).toArray s 11130 66990 (frA G)) (F0 m 520 ls []) := by
                                  intro C160 H locs ls hF hw hS hr199 hl
                                  unfold J_L_ticks_520 at hF
                                  refine lv_iload hx hb dL_ticks_520 (lv_at hl 25 rfl) ?_
                                  refine lv_aload hx hb dL_ticks_522 (lv_at hl 19 rfl) ?_
                                  refine lv_iconst (v := 4) hx hb dL_ticks_524 (by decide) ?_
                                  refine lv_iload hx hb dL_ticks_525 (lv_at hl 23 rfl) ?_
                                  refine lv_imul hx hb dL_ticks_527 ?_
                                  obtain ⟨g161, hF⟩ := gi_t hF
                                  refine r_iald hC hr199 g161 dL_ticks_528 ?_
                                  refine lv_iconst (v := 2) hx hb dL_ticks_529 (by decide) ?_
                                  have hJ560 : ∀ (v163 : Int32) (H : Heap) (locs : List Loc) (ls : Array Slot), J_L_ticks_560 f83 v116 v133 v139 r140 v145 v149 v153 v156 C160 v163 = some oo118 → Wd G n C160 H → LW G s H locs → Row G n ra199 20 f83 H → lv_has ls 30 [(0, .ref (bb G + 0)), (2, .int r1), (3, .int v4), (4, .int v5), (5, .int r6), (6, .int r9), (7, .int v18), (8, .int v156), (9, .int v28), (10, .int v110), (12, .int v32), (13, .int r42), (14, .int r45), (15, .int r48), (16, .int r51), (17, .int r54), (18, .int v64), (19, .int v69), (20, .int v76), (21, .ref ra199), (23, .int v145), (24, .int v149), (25, .int v153), (26, .int v116), (27, .int v133), (28, .int v139), (29, .int r140)] → W p l e (rmX 11 204 11130 66990) s m ([.ref (bb G + 0), .int x1] : List Value).toArray below meth c H locs (kc118 + 12) (ks118 + 72) (MQ below (QR G n (some (.int rR)) CR) ([.ref (bb G + 0), .int x1] : List Value).toArray s 11130 66990 (frA G)) (F0 m 560 ls [.int v163, .int v139]) := by
                                    intro v163 H locs ls hF hw hS hr199 hl
                                    unfold J_L_ticks_560 at hF
                                    refine lv_icmp_ne (tgt := 679) hx hb dL_ticks_560 (by decide) (fun h164 => ?_) (fun h164 => ?_)
                                    · have hF := it_f h164 hF
                                      refine lv_iconst (v := 0) hx hb dL_ticks_679 (by decide) ?_
                                      refine lv_istore (lv' := [(11, .int (0 : Int32)), (0, .ref (bb G + 0)), (2, .int r1), (3, .int v4), (4, .int v5), (5, .int r6), (6, .int r9), (7, .int v18), (8, .int v156), (9, .int v28), (10, .int v110), (12, .int v32), (13, .int r42), (14, .int r45), (15, .int r48), (16, .int r51), (17, .int r54), (18, .int v64), (19, .int v69), (20, .int v76), (21, .ref ra199), (23, .int v145), (24, .int v149), (25, .int v153), (26, .int v116), (27, .int v133), (28, .int v139), (29, .int r140)]) hx hb dL_ticks_680 hl (by decide) rfl (fun ls hl => ?_)
                                      obtain ⟨v165, ev165, hF⟩ := nm_t hF
                                      refine lv_iinc (v := v165) (lv' := [(26, .int v165), (11, .int (0 : Int32)), (0, .ref (bb G + 0)), (2, .int r1), (3, .int v4), (4, .int v5), (5, .int r6), (6, .int r9), (7, .int v18), (8, .int v156), (9, .int v28), (10, .int v110), (12, .int v32), (13, .int r42), (14, .int r45), (15, .int r48), (16, .int r51), (17, .int r54), (18, .int v64), (19, .int v69), (20, .int v76), (21, .ref ra199), (23, .int v145), (24, .int v149), (25, .int v153), (27, .int v133), (28, .int v139), (29, .int r140)]) hx hb dL_ticks_682 hl (k := 24) rfl (by rw [ev165]; rfl) (by decide) rfl (fun ls hl => ?_)
                                      refine lv_goto (tgt := 318) hx hb dL_ticks_685 (by decide) ?_
                                      exact it_back hF hk118 (kc118 + 12) (ks118 + 72) _ _ _ (by omega) (by omega) hw hS hr199 (lv_sub hl [11, 2, 3, 4, 5, 6, 7, 8, 10, 12, 13, 14, 15, 16, 17, 18, 19, 20, 21, 9, 1, 22, 23, 24, 0] rfl)
                                    · have hF := it_t h164 hF
                                      refine lv_aload_n hx hb dL_ticks_563 rfl (lv_at hl 0 rfl) ?_
                                      refine lv_iload hx hb dL_ticks_564 (lv_at hl 23 rfl) ?_
                                      refine lv_bipush (v := 6) hx hb dL_ticks_566 (by decide) ?_
                                      obtain ⟨r166, C168, hc167, hF⟩ := b2_t hF
                                      refine call_SWE hC (c_L_tryBoiler l (gP G H) (H.size - bb G) (hw.lp hn) (Nat.zero_le _) hfl v116 (6 : Int32) _ _ _ hc167) wwL_151 ⟨rfl, rfl, by decide, by decide⟩ hw hn hS hl.1 rfl (rest := []) rfl (Nat.le_of_ble_eq_true rfl) dL_ticks_568 ⟨(show (kc118 + 12) + 2 ≤ 11130 by omega), (show (ks118 + 72) + 12 ≤ 66990 by omega)⟩ (fun H locs hw hS hk => ?_)
                                      have hr199 := hr199.kp hn hk
                                      refine lv_aload hx hb dL_ticks_571 (lv_at hl 19 rfl) ?_
                                      refine lv_iconst (v := 4) hx hb dL_ticks_573 (by decide) ?_
                                      refine lv_iload hx hb dL_ticks_574 (lv_at hl 23 rfl) ?_
                                      refine lv_imul hx hb dL_ticks_576 ?_
                                      refine lv_iconst (v := 3) hx hb dL_ticks_577 (by decide) ?_
                                      refine lv_iadd hx hb dL_ticks_578 ?_
                                      obtain ⟨g169, hF⟩ := gi_t hF
                                      refine r_iald hC hr199 g169 dL_ticks_579 ?_
                                      refine lv_isub hx hb dL_ticks_580 ?_
                                      refine lv_iload hx hb dL_ticks_581 (lv_at hl 25 rfl) ?_
                                      have hJ607 : ∀ (v171 : Int32) (C172 : Mem) (H : Heap) (locs : List Loc) (ls : Array Slot), J_L_ticks_607 f83 v116 v133 r140 v145 v149 v153 v156 r166 v171 C172 = some oo118 → Wd G n C172 H → LW G s H locs → Row G n ra199 20 f83 H → lv_has ls 30 [(0, .ref (bb G + 0)), (2, .int r1), (3, .int v4), (4, .int v5), (5, .int r6), (6, .int r9), (7, .int v18), (8, .int v156), (9, .int v28), (10, .int v110), (12, .int v32), (13, .int r42), (14, .int r45), (15, .int r48), (16, .int r51), (17, .int r54), (18, .int v64), (19, .int v69), (20, .int v76), (21, .ref ra199), (23, .int v145), (24, .int v149), (25, .int v153), (26, .int v116), (27, .int v133), (29, .int r140)] → W p l e (rmX 11 204 11130 66990) s m ([.ref (bb G + 0), .int x1] : List Value).toArray below meth c H locs (kc118 + 16) (ks118 + 96) (MQ below (QR G n (some (.int rR)) CR) ([.ref (bb G + 0), .int x1] : List Value).toArray s 11130 66990 (frA G)) (F0 m 607 ls [.int v171, .int (r166 - (f83 ((((4 : Int32) * v116) + (3 : Int32))).toNatClampNeg))]) := by
                                        intro v171 C172 H locs ls hF hw hS hr199 hl
                                        unfold J_L_ticks_607 at hF
                                        refine lv_icmp_ne (tgt := 679) hx hb dL_ticks_607 (by decide) (fun h173 => ?_) (fun h173 => ?_)
                                        · have hF := it_f h173 hF
                                          refine lv_iconst (v := 0) hx hb dL_ticks_679 (by decide) ?_
                                          refine lv_istore (lv' := [(11, .int (0 : Int32)), (0, .ref (bb G + 0)), (2, .int r1), (3, .int v4), (4, .int v5), (5, .int r6), (6, .int r9), (7, .int v18), (8, .int v156), (9, .int v28), (10, .int v110), (12, .int v32), (13, .int r42), (14, .int r45), (15, .int r48), (16, .int r51), (17, .int r54), (18, .int v64), (19, .int v69), (20, .int v76), (21, .ref ra199), (23, .int v145), (24, .int v149), (25, .int v153), (26, .int v116), (27, .int v133), (29, .int r140)]) hx hb dL_ticks_680 hl (by decide) rfl (fun ls hl => ?_)
                                          obtain ⟨v174, ev174, hF⟩ := nm_t hF
                                          refine lv_iinc (v := v174) (lv' := [(26, .int v174), (11, .int (0 : Int32)), (0, .ref (bb G + 0)), (2, .int r1), (3, .int v4), (4, .int v5), (5, .int r6), (6, .int r9), (7, .int v18), (8, .int v156), (9, .int v28), (10, .int v110), (12, .int v32), (13, .int r42), (14, .int r45), (15, .int r48), (16, .int r51), (17, .int r54), (18, .int v64), (19, .int v69), (20, .int v76), (21, .ref ra199), (23, .int v145), (24, .int v149), (25, .int v153), (27, .int v133), (29, .int r140)]) hx hb dL_ticks_682 hl (k := 24) rfl (by rw [ev174]; rfl) (by decide) rfl (fun ls hl => ?_)
                                          refine lv_goto (tgt := 318) hx hb dL_ticks_685 (by decide) ?_
                                          exact it_back hF hk118 (kc118 + 16) (ks118 + 96) _ _ _ (by omega) (by omega) hw hS hr199 (lv_sub hl [11, 2, 3, 4, 5, 6, 7, 8, 10, 12, 13, 14, 15, 16, 17, 18, 19, 20, 21, 9, 1, 22, 23, 24, 0] rfl)
                                        · have hF := it_t h173 hF
                                          refine lv_iload hx hb dL_ticks_610 (lv_at hl 24 rfl) ?_
                                          have hJ636 : ∀  (H : Heap) (locs : List Loc) (ls : Array Slot), J_L_ticks_636 f83 v116 v133 r140 v145 v149 v153 v156 C172  = some oo118 → Wd G n C172 H → LW G s H locs → Row G n ra199 20 f83 H → lv_has ls 30 [(0, .ref (bb G + 0)), (2, .int r1), (3, .int v4), (4, .int v5), (5, .int r6), (6, .int r9), (7, .int v18), (8, .int v156), (9, .int v28), (10, .int v110), (12, .int v32), (13, .int r42), (14, .int r45), (15, .int r48), (16, .int r51), (17, .int r54), (18, .int v64), (19, .int v69), (20, .int v76), (21, .ref ra199), (23, .int v145), (24, .int v149), (25, .int v153), (26, .int v116), (27, .int v133), (29, .int r140)] → W p l e (rmX 11 204 11130 66990) s m ([.ref (bb G + 0), .int x1] : List Value).toArray below meth c H locs (kc118 + 16) (ks118 + 96) (MQ below (QR G n (some (.int rR)) CR) ([.ref (bb G + 0), .int x1] : List Value).toArray s 11130 66990 (frA G)) (F0 m 636 ls []) := by
                                            intro  H locs ls hF hw hS hr199 hl
                                            unfold J_L_ticks_636 at hF
                                            refine lv_aload hx hb dL_ticks_636 (lv_at hl 19 rfl) ?_
                                            refine lv_iconst (v := 4) hx hb dL_ticks_638 (by decide) ?_
                                            refine lv_iload hx hb dL_ticks_639 (lv_at hl 23 rfl) ?_
                                            refine lv_imul hx hb dL_ticks_641 ?_
                                            obtain ⟨g176, hF⟩ := gi_t hF
                                            refine r_iald hC hr199 g176 dL_ticks_642 ?_
                                            refine lv_iconst (v := 4) hx hb dL_ticks_643 (by decide) ?_
                                            have hJ653 : ∀  (H : Heap) (locs : List Loc) (ls : Array Slot), J_L_ticks_653 f83 v116 v133 r140 v145 v149 v153 v156 C172  = some oo118 → Wd G n C172 H → LW G s H locs → Row G n ra199 20 f83 H → lv_has ls 30 [(0, .ref (bb G + 0)), (2, .int r1), (3, .int v4), (4, .int v5), (5, .int r6), (6, .int r9), (7, .int v18), (8, .int v156), (9, .int v28), (10, .int v110), (12, .int v32), (13, .int r42), (14, .int r45), (15, .int r48), (16, .int r51), (17, .int r54), (18, .int v64), (19, .int v69), (20, .int v76), (21, .ref ra199), (23, .int v145), (24, .int v149), (25, .int v153), (26, .int v116), (27, .int v133), (29, .int r140)] → W p l e (rmX 11 204 11130 66990) s m ([.ref (bb G + 0), .int x1] : List Value).toArray below meth c H locs (kc118 + 16) (ks118 + 96) (MQ below (QR G n (some (.int rR)) CR) ([.ref (bb G + 0), .int x1] : List Value).toArray s 11130 66990 (frA G)) (F0 m 653 ls []) := by
                                              intro  H locs ls hF hw hS hr199 hl
                                              unfold J_L_ticks_653 at hF
                                              refine lv_aload hx hb dL_ticks_653 (lv_at hl 19 rfl) ?_
                                              refine lv_iconst (v := 4) hx hb dL_ticks_655 (by decide) ?_
                                              refine lv_iload hx hb dL_ticks_656 (lv_at hl 23 rfl) ?_
                                              refine lv_imul hx hb dL_ticks_658 ?_
                                              obtain ⟨g178, hF⟩ := gi_t hF
                                              refine r_iald hC hr199 g178 dL_ticks_659 ?_
                                              refine lv_iconst (v := 3) hx hb dL_ticks_660 (by decide) ?_
                                              refine lv_icmp_ne (tgt := 675) hx hb dL_ticks_661 (by decide) (fun h179 => ?_) (fun h179 => ?_)
                                              · have hF := it_f h179 hF
                                                refine lv_iconst (v := 1) hx hb dL_ticks_675 (by decide) ?_
                                                refine lv_goto (tgt := 680) hx hb dL_ticks_676 (by decide) ?_
                                                refine lv_istore (lv' := [(11, .int (1 : Int32)), (0, .ref (bb G + 0)), (2, .int r1), (3, .int v4), (4, .int v5), (5, .int r6), (6, .int r9), (7, .int v18), (8, .int v156), (9, .int v28), (10, .int v110), (12, .int v32), (13, .int r42), (14, .int r45), (15, .int r48), (16, .int r51), (17, .int r54), (18, .int v64), (19, .int v69), (20, .int v76), (21, .ref ra199), (23, .int v145), (24, .int v149), (25, .int v153), (26, .int v116), (27, .int v133), (29, .int r140)]) hx hb dL_ticks_680 hl (by decide) rfl (fun ls hl => ?_)
                                                obtain ⟨v180, ev180, hF⟩ := nm_t hF
                                                refine lv_iinc (v := v180) (lv' := [(26, .int v180), (11, .int (1 : Int32)), (0, .ref (bb G + 0)), (2, .int r1), (3, .int v4), (4, .int v5), (5, .int r6), (6, .int r9), (7, .int v18), (8, .int v156), (9, .int v28), (10, .int v110), (12, .int v32), (13, .int r42), (14, .int r45), (15, .int r48), (16, .int r51), (17, .int r54), (18, .int v64), (19, .int v69), (20, .int v76), (21, .ref ra199), (23, .int v145), (24, .int v149), (25, .int v153), (27, .int v133), (29, .int r140)]) hx hb dL_ticks_682 hl (k := 24) rfl (by rw [ev180]; rfl) (by decide) rfl (fun ls hl => ?_)
                                                refine lv_goto (tgt := 318) hx hb dL_ticks_685 (by decide) ?_
                                                exact it_back hF hk118 (kc118 + 16) (ks118 + 96) _ _ _ (by omega) (by omega) hw hS hr199 (lv_sub hl [11, 2, 3, 4, 5, 6, 7, 8, 10, 12, 13, 14, 15, 16, 17, 18, 19, 20, 21, 9, 1, 22, 23, 24, 0] rfl)
                                              · have hF := it_t h179 hF
                                                refine lv_iload hx hb dL_ticks_664 (lv_at hl 24 rfl) ?_
                                                refine lv_if_ne (tgt := 675) hx hb dL_ticks_666 (by decide) (fun h181 => ?_) (fun h181 => ?_)
                                                · have hF := it_f h181 hF
                                                  refine lv_iconst (v := 1) hx hb dL_ticks_675 (by decide) ?_
                                                  refine lv_goto (tgt := 680) hx hb dL_ticks_676 (by decide) ?_
                                                  refine lv_istore (lv' := [(11, .int (1 : Int32)), (0, .ref (bb G + 0)), (2, .int r1), (3, .int v4), (4, .int v5), (5, .int r6), (6, .int r9), (7, .int v18), (8, .int v156), (9, .int v28), (10, .int v110), (12, .int v32), (13, .int r42), (14, .int r45), (15, .int r48), (16, .int r51), (17, .int r54), (18, .int v64), (19, .int v69), (20, .int v76), (21, .ref ra199), (23, .int v145), (24, .int v149), (25, .int v153), (26, .int v116), (27, .int v133), (29, .int r140)]) hx hb dL_ticks_680 hl (by decide) rfl (fun ls hl => ?_)
                                                  obtain ⟨v182, ev182, hF⟩ := nm_t hF
                                                  refine lv_iinc (v := v182) (lv' := [(26, .int v182), (11, .int (1 : Int32)), (0, .ref (bb G + 0)), (2, .int r1), (3, .int v4), (4, .int v5), (5, .int r6), (6, .int r9), (7, .int v18), (8, .int v156), (9, .int v28), (10, .int v110), (12, .int v32), (13, .int r42), (14, .int r45), (15, .int r48), (16, .int r51), (17, .int r54), (18, .int v64), (19, .int v69), (20, .int v76), (21, .ref ra199), (23, .int v145), (24, .int v149), (25, .int v153), (27, .int v133), (29, .int r140)]) hx hb dL_ticks_682 hl (k := 24) rfl (by rw [ev182]; rfl) (by decide) rfl (fun ls hl => ?_)
                                                  refine lv_goto (tgt := 318) hx hb dL_ticks_685 (by decide) ?_
                                                  exact it_back hF hk118 (kc118 + 16) (ks118 + 96) _ _ _ (by omega) (by omega) hw hS hr199 (lv_sub hl [11, 2, 3, 4, 5, 6, 7, 8, 10, 12, 13, 14, 15, 16, 17, 18, 19, 20, 21, 9, 1, 22, 23, 24, 0] rfl)
                                                · have hF := it_t h181 hF
                                                  refine lv_iload hx hb dL_ticks_669 (lv_at hl 25 rfl) ?_
                                                  refine lv_iconst (v := 3) hx hb dL_ticks_671 (by decide) ?_
                                                  refine lv_icmp_ne (tgt := 679) hx hb dL_ticks_672 (by decide) (fun h183 => ?_) (fun h183 => ?_)
                                                  · have hF := it_f h183 hF
                                                    refine lv_iconst (v := 0) hx hb dL_ticks_679 (by decide) ?_
                                                    refine lv_istore (lv' := [(11, .int (0 : Int32)), (0, .ref (bb G + 0)), (2, .int r1), (3, .int v4), (4, .int v5), (5, .int r6), (6, .int r9), (7, .int v18), (8, .int v156), (9, .int v28), (10, .int v110), (12, .int v32), (13, .int r42), (14, .int r45), (15, .int r48), (16, .int r51), (17, .int r54), (18, .int v64), (19, .int v69), (20, .int v76), (21, .ref ra199), (23, .int v145), (24, .int v149), (25, .int v153), (26, .int v116), (27, .int v133), (29, .int r140)]) hx hb dL_ticks_680 hl (by decide) rfl (fun ls hl => ?_)
                                                    obtain ⟨v184, ev184, hF⟩ := nm_t hF
                                                    refine lv_iinc (v := v184) (lv' := [(26, .int v184), (11, .int (0 : Int32)), (0, .ref (bb G + 0)), (2, .int r1), (3, .int v4), (4, .int v5), (5, .int r6), (6, .int r9), (7, .int v18), (8, .int v156), (9, .int v28), (10, .int v110), (12, .int v32), (13, .int r42), (14, .int r45), (15, .int r48), (16, .int r51), (17, .int r54), (18, .int v64), (19, .int v69), (20, .int v76), (21, .ref ra199), (23, .int v145), (24, .int v149), (25, .int v153), (27, .int v133), (29, .int r140)]) hx hb dL_ticks_682 hl (k := 24) rfl (by rw [ev184]; rfl) (by decide) rfl (fun ls hl => ?_)
                                                    refine lv_goto (tgt := 318) hx hb dL_ticks_685 (by decide) ?_
                                                    exact it_back hF hk118 (kc118 + 16) (ks118 + 96) _ _ _ (by omega) (by omega) hw hS hr199 (lv_sub hl [11, 2, 3, 4, 5, 6, 7, 8, 10, 12, 13, 14, 15, 16, 17, 18, 19, 20, 21, 9, 1, 22, 23, 24, 0] rfl)
                                                  · have hF := it_t h183 hF
                                                    refine lv_iconst (v := 1) hx hb dL_ticks_675 (by decide) ?_
                                                    refine lv_goto (tgt := 680) hx hb dL_ticks_676 (by decide) ?_
                                                    refine lv_istore (lv' := [(11, .int (1 : Int32)), (0, .ref (bb G + 0)), (2, .int r1), (3, .int v4), (4, .int v5), (5, .int r6), (6, .int r9), (7, .int v18), (8, .int v156), (9, .int v28), (10, .int v110), (12, .int v32), (13, .int r42), (14, .int r45), (15, .int r48), (16, .int r51), (17, .int r54), (18, .int v64), (19, .int v69), (20, .int v76), (21, .ref ra199), (23, .int v145), (24, .int v149), (25, .int v153), (26, .int v116), (27, .int v133), (29, .int r140)]) hx hb dL_ticks_680 hl (by decide) rfl (fun ls hl => ?_)
                                                    obtain ⟨v185, ev185, hF⟩ := nm_t hF
                                                    refine lv_iinc (v := v185) (lv' := [(26, .int v185), (11, .int (1 : Int32)), (0, .ref (bb G + 0)), (2, .int r1), (3, .int v4), (4, .int v5), (5, .int r6), (6, .int r9), (7, .int v18), (8, .int v156), (9, .int v28), (10, .int v110), (12, .int v32), (13, .int r42), (14, .int r45), (15, .int r48), (16, .int r51), (17, .int r54), (18, .int v64), (19, .int v69), (20, .int v76), (21, .ref ra199), (23, .int v145), (24, .int v149), (25, .int v153), (27, .int v133), (29, .int r140)]) hx hb dL_ticks_682 hl (k := 24) rfl (by rw [ev185]; rfl) (by decide) rfl (fun ls hl => ?_)
                                                    refine lv_goto (tgt := 318) hx hb dL_ticks_685 (by decide) ?_
                                                    exact it_back hF hk118 (kc118 + 16) (ks118 + 96) _ _ _ (by omega) (by omega) hw hS hr199 (lv_sub hl [11, 2, 3, 4, 5, 6, 7, 8, 10, 12, 13, 14, 15, 16, 17, 18, 19, 20, 21, 9, 1, 22, 23, 24, 0] rfl)
                                            refine lv_icmp_ne (tgt := 653) hx hb dL_ticks_644 (by decide) (fun h177 => ?_) (fun h177 => ?_)
                                            · have hF := it_f h177 hF
                                              exact hJ653  _ _ _ hF hw hS hr199 (lv_sub hl [0, 1, 2, 3, 4, 5, 6, 7, 8, 9, 10, 11, 12, 13, 14, 15, 16, 17, 18, 19, 20, 21, 22, 23, 24, 25] rfl)
                                            · have hF := it_t h177 hF
                                              refine lv_iload hx hb dL_ticks_647 (lv_at hl 25 rfl) ?_
                                              refine lv_iconst (v := 4) hx hb dL_ticks_649 (by decide) ?_
                                              refine lv_icmp_ne (tgt := 679) hx hb dL_ticks_650 (by decide) (fun h186 => ?_) (fun h186 => ?_)
                                              · have hF := it_f h186 hF
                                                refine lv_iconst (v := 0) hx hb dL_ticks_679 (by decide) ?_
                                                refine lv_istore (lv' := [(11, .int (0 : Int32)), (0, .ref (bb G + 0)), (2, .int r1), (3, .int v4), (4, .int v5), (5, .int r6), (6, .int r9), (7, .int v18), (8, .int v156), (9, .int v28), (10, .int v110), (12, .int v32), (13, .int r42), (14, .int r45), (15, .int r48), (16, .int r51), (17, .int r54), (18, .int v64), (19, .int v69), (20, .int v76), (21, .ref ra199), (23, .int v145), (24, .int v149), (25, .int v153), (26, .int v116), (27, .int v133), (29, .int r140)]) hx hb dL_ticks_680 hl (by decide) rfl (fun ls hl => ?_)
                                                obtain ⟨v187, ev187, hF⟩ := nm_t hF
                                                refine lv_iinc (v := v187) (lv' := [(26, .int v187), (11, .int (0 : Int32)), (0, .ref (bb G + 0)), (2, .int r1), (3, .int v4), (4, .int v5), (5, .int r6), (6, .int r9), (7, .int v18), (8, .int v156), (9, .int v28), (10, .int v110), (12, .int v32), (13, .int r42), (14, .int r45), (15, .int r48), (16, .int r51), (17, .int r54), (18, .int v64), (19, .int v69), (20, .int v76), (21, .ref ra199), (23, .int v145), (24, .int v149), (25, .int v153), (27, .int v133), (29, .int r140)]) hx hb dL_ticks_682 hl (k := 24) rfl (by rw [ev187]; rfl) (by decide) rfl (fun ls hl => ?_)
                                                refine lv_goto (tgt := 318) hx hb dL_ticks_685 (by decide) ?_
                                                exact it_back hF hk118 (kc118 + 16) (ks118 + 96) _ _ _ (by omega) (by omega) hw hS hr199 (lv_sub hl [11, 2, 3, 4, 5, 6, 7, 8, 10, 12, 13, 14, 15, 16, 17, 18, 19, 20, 21, 9, 1, 22, 23, 24, 0] rfl)
                                              · have hF := it_t h186 hF
                                                exact hJ653  _ _ _ hF hw hS hr199 (lv_sub hl [0, 1, 2, 3, 4, 5, 6, 7, 8, 9, 10, 11, 12, 13, 14, 15, 16, 17, 18, 19, 20, 21, 22, 23, 24, 25] rfl)
                                          refine lv_if_eq (tgt := 636) hx hb dL_ticks_612 (by decide) (fun h175 => ?_) (fun h175 => ?_)
                                          · have hF := it_t h175 hF
                                            exact hJ636  _ _ _ hF hw hS hr199 (lv_sub hl [0, 1, 2, 3, 4, 5, 6, 7, 8, 9, 10, 11, 12, 13, 14, 15, 16, 17, 18, 19, 20, 21, 22, 23, 24, 25] rfl)
                                          · have hF := it_f h175 hF
                                            refine lv_aload hx hb dL_ticks_615 (lv_at hl 19 rfl) ?_
                                            refine lv_iconst (v := 4) hx hb dL_ticks_617 (by decide) ?_
                                            refine lv_iload hx hb dL_ticks_618 (lv_at hl 23 rfl) ?_
                                            refine lv_imul hx hb dL_ticks_620 ?_
                                            obtain ⟨g188, hF⟩ := gi_t hF
                                            refine r_iald hC hr199 g188 dL_ticks_621 ?_
                                            refine lv_if_eq (tgt := 636) hx hb dL_ticks_622 (by decide) (fun h189 => ?_) (fun h189 => ?_)
                                            · have hF := it_t h189 hF
                                              exact hJ636  _ _ _ hF hw hS hr199 (lv_sub hl [0, 1, 2, 3, 4, 5, 6, 7, 8, 9, 10, 11, 12, 13, 14, 15, 16, 17, 18, 19, 20, 21, 22, 23, 24, 25] rfl)
                                            · have hF := it_f h189 hF
                                              refine lv_aload hx hb dL_ticks_625 (lv_at hl 19 rfl) ?_
                                              refine lv_iconst (v := 4) hx hb dL_ticks_627 (by decide) ?_
                                              refine lv_iload hx hb dL_ticks_628 (lv_at hl 23 rfl) ?_
                                              refine lv_imul hx hb dL_ticks_630 ?_
                                              obtain ⟨g190, hF⟩ := gi_t hF
                                              refine r_iald hC hr199 g190 dL_ticks_631 ?_
                                              refine lv_iconst (v := 3) hx hb dL_ticks_632 (by decide) ?_
                                              refine lv_icmp_ne (tgt := 679) hx hb dL_ticks_633 (by decide) (fun h191 => ?_) (fun h191 => ?_)
                                              · have hF := it_f h191 hF
                                                refine lv_iconst (v := 0) hx hb dL_ticks_679 (by decide) ?_
                                                refine lv_istore (lv' := [(11, .int (0 : Int32)), (0, .ref (bb G + 0)), (2, .int r1), (3, .int v4), (4, .int v5), (5, .int r6), (6, .int r9), (7, .int v18), (8, .int v156), (9, .int v28), (10, .int v110), (12, .int v32), (13, .int r42), (14, .int r45), (15, .int r48), (16, .int r51), (17, .int r54), (18, .int v64), (19, .int v69), (20, .int v76), (21, .ref ra199), (23, .int v145), (24, .int v149), (25, .int v153), (26, .int v116), (27, .int v133), (29, .int r140)]) hx hb dL_ticks_680 hl (by decide) rfl (fun ls hl => ?_)
                                                obtain ⟨v192, ev192, hF⟩ := nm_t hF
                                                refine lv_iinc (v := v192) (lv' := [(26, .int v192), (11, .int (0 : Int32)), (0, .ref (bb G + 0)), (2, .int r1), (3, .int v4), (4, .int v5), (5, .int r6), (6, .int r9), (7, .int v18), (8, .int v156), (9, .int v28), (10, .int v110), (12, .int v32), (13, .int r42), (14, .int r45), (15, .int r48), (16, .int r51), (17, .int r54), (18, .int v64), (19, .int v69), (20, .int v76), (21, .ref ra199), (23, .int v145), (24, .int v149), (25, .int v153), (27, .int v133), (29, .int r140)]) hx hb dL_ticks_682 hl (k := 24) rfl (by rw [ev192]; rfl) (by decide) rfl (fun ls hl => ?_)
                                                refine lv_goto (tgt := 318) hx hb dL_ticks_685 (by decide) ?_
                                                exact it_back hF hk118 (kc118 + 16) (ks118 + 96) _ _ _ (by omega) (by omega) hw hS hr199 (lv_sub hl [11, 2, 3, 4, 5, 6, 7, 8, 10, 12, 13, 14, 15, 16, 17, 18, 19, 20, 21, 9, 1, 22, 23, 24, 0] rfl)
                                              · have hF := it_t h191 hF
                                                exact hJ636  _ _ _ hF hw hS hr199 (lv_sub hl [0, 1, 2, 3, 4, 5, 6, 7, 8, 9, 10, 11, 12, 13, 14, 15, 16, 17, 18, 19, 20, 21, 22, 23, 24, 25] rfl)
                                      refine lv_if_eq (tgt := 596) hx hb dL_ticks_583 (by decide) (fun h170 => ?_) (fun h170 => ?_)
                                      · have hF := it_t h170 hF
                                        refine lv_iload hx hb dL_ticks_596 (lv_at hl 26 rfl) ?_
                                        refine lv_iconst (v := 3) hx hb dL_ticks_598 (by decide) ?_
                                        refine lv_icmp_ne (tgt := 606) hx hb dL_ticks_599 (by decide) (fun h193 => ?_) (fun h193 => ?_)
                                        · have hF := it_f h193 hF
                                          refine lv_iconst (v := 0) hx hb dL_ticks_606 (by decide) ?_
                                          refine W.widen (k := (kc118 + 16)) (n := (ks118 + 96)) (by omega) (by omega) ?_
                                          exact hJ607 (0 : Int32) C168 _ _ _ hF hw hS hr199 (lv_sub hl [0, 1, 2, 3, 4, 5, 6, 7, 8, 9, 10, 11, 12, 13, 14, 15, 16, 17, 18, 19, 20, 21, 22, 23, 24, 26] rfl)
                                        · have hF := it_t h193 hF
                                          refine lv_iconst (v := 1) hx hb dL_ticks_602 (by decide) ?_
                                          refine lv_goto (tgt := 607) hx hb dL_ticks_603 (by decide) ?_
                                          refine W.widen (k := (kc118 + 16)) (n := (ks118 + 96)) (by omega) (by omega) ?_
                                          exact hJ607 (1 : Int32) C168 _ _ _ hF hw hS hr199 (lv_sub hl [0, 1, 2, 3, 4, 5, 6, 7, 8, 9, 10, 11, 12, 13, 14, 15, 16, 17, 18, 19, 20, 21, 22, 23, 24, 26] rfl)
                                      · have hF := it_f h170 hF
                                        refine lv_aload_n hx hb dL_ticks_586 rfl (lv_at hl 0 rfl) ?_
                                        refine lv_iload hx hb dL_ticks_587 (lv_at hl 23 rfl) ?_
                                        refine lv_iconst (v := 0) hx hb dL_ticks_589 (by decide) ?_
                                        obtain ⟨r194, C196, hc195, hF⟩ := b2_t hF
                                        refine call_SWE hC (c_L_tryBoiler l (gP G H) (H.size - bb G) (hw.lp hn) (Nat.zero_le _) hfl v116 (0 : Int32) _ _ _ hc195) wwL_151 ⟨rfl, rfl, by decide, by decide⟩ hw hn hS hl.1 rfl (rest := [.int (r166 - (f83 ((((4 : Int32) * v116) + (3 : Int32))).toNatClampNeg))]) rfl (Nat.le_of_ble_eq_true rfl) dL_ticks_590 ⟨(show (kc118 + 14) + 2 ≤ 11130 by omega), (show (ks118 + 84) + 12 ≤ 66990 by omega)⟩ (fun H locs hw hS hk => ?_)
                                        have hr199 := hr199.kp hn hk
                                        refine lv_goto (tgt := 607) hx hb dL_ticks_593 (by decide) ?_
                                        exact hJ607 r194 C196 _ _ _ hF hw hS hr199 (lv_sub hl [0, 1, 2, 3, 4, 5, 6, 7, 8, 9, 10, 11, 12, 13, 14, 15, 16, 17, 18, 19, 20, 21, 22, 23, 24, 26] rfl)
                                  refine lv_icmp_ne (tgt := 539) hx hb dL_ticks_530 (by decide) (fun h162 => ?_) (fun h162 => ?_)
                                  · have hF := it_f h162 hF
                                    refine lv_aload hx hb dL_ticks_539 (lv_at hl 19 rfl) ?_
                                    refine lv_iconst (v := 4) hx hb dL_ticks_541 (by decide) ?_
                                    refine lv_iload hx hb dL_ticks_542 (lv_at hl 23 rfl) ?_
                                    refine lv_imul hx hb dL_ticks_544 ?_
                                    obtain ⟨g197, hF⟩ := gi_t hF
                                    refine r_iald hC hr199 g197 dL_ticks_545 ?_
                                    refine lv_iconst (v := 3) hx hb dL_ticks_546 (by decide) ?_
                                    refine lv_icmp_ne (tgt := 559) hx hb dL_ticks_547 (by decide) (fun h198 => ?_) (fun h198 => ?_)
                                    · have hF := it_f h198 hF
                                      refine lv_iconst (v := 0) hx hb dL_ticks_559 (by decide) ?_
                                      exact hJ560 (0 : Int32) _ _ _ hF hw hS hr199 (lv_sub hl [0, 1, 2, 3, 4, 5, 6, 7, 8, 9, 10, 11, 12, 13, 14, 15, 16, 17, 18, 19, 20, 21, 22, 23, 24, 25, 26] rfl)
                                    · have hF := it_t h198 hF
                                      refine lv_iload hx hb dL_ticks_550 (lv_at hl 24 rfl) ?_
                                      refine lv_if_eq (tgt := 559) hx hb dL_ticks_552 (by decide) (fun h199 => ?_) (fun h199 => ?_)
                                      · have hF := it_t h199 hF
                                        refine lv_iconst (v := 0) hx hb dL_ticks_559 (by decide) ?_
                                        exact hJ560 (0 : Int32) _ _ _ hF hw hS hr199 (lv_sub hl [0, 1, 2, 3, 4, 5, 6, 7, 8, 9, 10, 11, 12, 13, 14, 15, 16, 17, 18, 19, 20, 21, 22, 23, 24, 25, 26] rfl)
                                      · have hF := it_f h199 hF
                                        refine lv_iconst (v := 1) hx hb dL_ticks_555 (by decide) ?_
                                        refine lv_goto (tgt := 560) hx hb dL_ticks_556 (by decide) ?_
                                        exact hJ560 (1 : Int32) _ _ _ hF hw hS hr199 (lv_sub hl [0, 1, 2, 3, 4, 5, 6, 7, 8, 9, 10, 11, 12, 13, 14, 15, 16, 17, 18, 19, 20, 21, 22, 23, 24, 25, 26] rfl)
                                  · have hF := it_t h162 hF
                                    refine lv_iload hx hb dL_ticks_533 (lv_at hl 26 rfl) ?_
                                    refine lv_iconst (v := 2) hx hb dL_ticks_535 (by decide) ?_
                                    refine lv_icmp_eq (tgt := 555) hx hb dL_ticks_536 (by decide) (fun h200 => ?_) (fun h200 => ?_)
                                    · have hF := it_t h200 hF
                                      refine lv_iconst (v := 1) hx hb dL_ticks_555 (by decide) ?_
                                      refine lv_goto (tgt := 560) hx hb dL_ticks_556 (by decide) ?_
                                      exact hJ560 (1 : Int32) _ _ _ hF hw hS hr199 (lv_sub hl [0, 1, 2, 3, 4, 5, 6, 7, 8, 9, 10, 11, 12, 13, 14, 15, 16, 17, 18, 19, 20, 21, 22, 23, 24, 25, 26] rfl)
                                    · have hF := it_f h200 hF
                                      refine lv_aload hx hb dL_ticks_539 (lv_at hl 19 rfl) ?_
                                      refine lv_iconst (v := 4) hx hb dL_ticks_541 (by decide) ?_
                                      refine lv_iload hx hb dL_ticks_542 (lv_at hl 23 rfl) ?_
                                      refine lv_imul hx hb dL_ticks_544 ?_
                                      obtain ⟨g201, hF⟩ := gi_t hF
                                      refine r_iald hC hr199 g201 dL_ticks_545 ?_
                                      refine lv_iconst (v := 3) hx hb dL_ticks_546 (by decide) ?_
                                      refine lv_icmp_ne (tgt := 559) hx hb dL_ticks_547 (by decide) (fun h202 => ?_) (fun h202 => ?_)
                                      · have hF := it_f h202 hF
                                        refine lv_iconst (v := 0) hx hb dL_ticks_559 (by decide) ?_
                                        exact hJ560 (0 : Int32) _ _ _ hF hw hS hr199 (lv_sub hl [0, 1, 2, 3, 4, 5, 6, 7, 8, 9, 10, 11, 12, 13, 14, 15, 16, 17, 18, 19, 20, 21, 22, 23, 24, 25, 26] rfl)
                                      · have hF := it_t h202 hF
                                        refine lv_iload hx hb dL_ticks_550 (lv_at hl 24 rfl) ?_
                                        refine lv_if_eq (tgt := 559) hx hb dL_ticks_552 (by decide) (fun h203 => ?_) (fun h203 => ?_)
                                        · have hF := it_t h203 hF
                                          refine lv_iconst (v := 0) hx hb dL_ticks_559 (by decide) ?_
                                          exact hJ560 (0 : Int32) _ _ _ hF hw hS hr199 (lv_sub hl [0, 1, 2, 3, 4, 5, 6, 7, 8, 9, 10, 11, 12, 13, 14, 15, 16, 17, 18, 19, 20, 21, 22, 23, 24, 25, 26] rfl)
                                        · have hF := it_f h203 hF
                                          refine lv_iconst (v := 1) hx hb dL_ticks_555 (by decide) ?_
                                          refine lv_goto (tgt := 560) hx hb dL_ticks_556 (by decide) ?_
                                          exact hJ560 (1 : Int32) _ _ _ hF hw hS hr199 (lv_sub hl [0, 1, 2, 3, 4, 5, 6, 7, 8, 9, 10, 11, 12, 13, 14, 15, 16, 17, 18, 19, 20, 21, 22, 23, 24, 25, 26] rfl)
                                refine lv_if_ne (tgt := 520) hx hb dL_ticks_498 (by decide) (fun h159 => ?_) (fun h159 => ?_)
                                · have hF := it_f h159 hF
                                  refine W.widen (k := (kc118 + 12)) (n := (ks118 + 72)) (by omega) (by omega) ?_
                                  exact hJ520 C158 _ _ _ hF hw hS hr199 (lv_sub hl [0, 1, 2, 3, 4, 5, 6, 7, 8, 9, 10, 11, 12, 13, 14, 15, 16, 17, 18, 19, 20, 21, 22, 23, 24, 25, 26] rfl)
                                · have hF := it_t h159 hF
                                  refine lv_aload_n hx hb dL_ticks_501 rfl (lv_at hl 0 rfl) ?_
                                  refine lv_iload hx hb dL_ticks_502 (lv_at hl 23 rfl) ?_
                                  refine lv_iconst (v := 4) hx hb dL_ticks_504 (by decide) ?_
                                  obtain ⟨r204, C206, hc205, hF⟩ := b2_t hF
                                  refine call_SWE hC (c_L_tryBoiler l (gP G H) (H.size - bb G) (hw.lp hn) (Nat.zero_le _) hfl v116 (4 : Int32) _ _ _ hc205) wwL_151 ⟨rfl, rfl, by decide, by decide⟩ hw hn hS hl.1 rfl (rest := []) rfl (Nat.le_of_ble_eq_true rfl) dL_ticks_505 ⟨(show (kc118 + 10) + 2 ≤ 11130 by omega), (show (ks118 + 60) + 12 ≤ 66990 by omega)⟩ (fun H locs hw hS hk => ?_)
                                  have hr199 := hr199.kp hn hk
                                  refine lv_aload hx hb dL_ticks_508 (lv_at hl 19 rfl) ?_
                                  refine lv_iconst (v := 4) hx hb dL_ticks_510 (by decide) ?_
                                  refine lv_iload hx hb dL_ticks_511 (lv_at hl 23 rfl) ?_
                                  refine lv_imul hx hb dL_ticks_513 ?_
                                  refine lv_iconst (v := 2) hx hb dL_ticks_514 (by decide) ?_
                                  refine lv_iadd hx hb dL_ticks_515 ?_
                                  obtain ⟨g207, hF⟩ := gi_t hF
                                  refine r_iald hC hr199 g207 dL_ticks_516 ?_
                                  refine lv_icmp_ne (tgt := 679) hx hb dL_ticks_517 (by decide) (fun h208 => ?_) (fun h208 => ?_)
                                  · have hF := it_f h208 hF
                                    refine lv_iconst (v := 0) hx hb dL_ticks_679 (by decide) ?_
                                    refine lv_istore (lv' := [(11, .int (0 : Int32)), (0, .ref (bb G + 0)), (2, .int r1), (3, .int v4), (4, .int v5), (5, .int r6), (6, .int r9), (7, .int v18), (8, .int v156), (9, .int v28), (10, .int v110), (12, .int v32), (13, .int r42), (14, .int r45), (15, .int r48), (16, .int r51), (17, .int r54), (18, .int v64), (19, .int v69), (20, .int v76), (21, .ref ra199), (23, .int v145), (24, .int v149), (25, .int v153), (26, .int v116), (27, .int v133), (28, .int v139), (29, .int r140)]) hx hb dL_ticks_680 hl (by decide) rfl (fun ls hl => ?_)
                                    obtain ⟨v209, ev209, hF⟩ := nm_t hF
                                    refine lv_iinc (v := v209) (lv' := [(26, .int v209), (11, .int (0 : Int32)), (0, .ref (bb G + 0)), (2, .int r1), (3, .int v4), (4, .int v5), (5, .int r6), (6, .int r9), (7, .int v18), (8, .int v156), (9, .int v28), (10, .int v110), (12, .int v32), (13, .int r42), (14, .int r45), (15, .int r48), (16, .int r51), (17, .int r54), (18, .int v64), (19, .int v69), (20, .int v76), (21, .ref ra199), (23, .int v145), (24, .int v149), (25, .int v153), (27, .int v133), (28, .int v139), (29, .int r140)]) hx hb dL_ticks_682 hl (k := 24) rfl (by rw [ev209]; rfl) (by decide) rfl (fun ls hl => ?_)
                                    refine lv_goto (tgt := 318) hx hb dL_ticks_685 (by decide) ?_
                                    exact it_back hF hk118 (kc118 + 12) (ks118 + 72) _ _ _ (by omega) (by omega) hw hS hr199 (lv_sub hl [11, 2, 3, 4, 5, 6, 7, 8, 10, 12, 13, 14, 15, 16, 17, 18, 19, 20, 21, 9, 1, 22, 23, 24, 0] rfl)
                                  · have hF := it_t h208 hF
                                    exact hJ520 C206 _ _ _ hF hw hS hr199 (lv_sub hl [0, 1, 2, 3, 4, 5, 6, 7, 8, 9, 10, 11, 12, 13, 14, 15, 16, 17, 18, 19, 20, 21, 22, 23, 24, 25, 26] rfl)
                              refine lv_if_ne (tgt := 496) hx hb dL_ticks_474 (by decide) (fun h157 => ?_) (fun h157 => ?_)
                              · have hF := it_f h157 hF
                                refine W.widen (k := (kc118 + 10)) (n := (ks118 + 60)) (by omega) (by omega) ?_
                                exact hJ496 C152 _ _ _ hF hw hS hr199 (lv_sub hl [1, 2, 3, 4, 5, 6, 7, 0, 8, 9, 10, 11, 12, 13, 14, 15, 16, 17, 18, 19, 20, 21, 22, 23, 24, 25, 26] rfl)
                              · have hF := it_t h157 hF
                                refine lv_aload_n hx hb dL_ticks_477 rfl (lv_at hl 1 rfl) ?_
                                refine lv_iload hx hb dL_ticks_478 (lv_at hl 23 rfl) ?_
                                refine lv_iconst (v := 5) hx hb dL_ticks_480 (by decide) ?_
                                obtain ⟨r210, C212, hc211, hF⟩ := b2_t hF
                                refine call_SWE hC (c_L_tryBoiler l (gP G H) (H.size - bb G) (hw.lp hn) (Nat.zero_le _) hfl v116 (5 : Int32) _ _ _ hc211) wwL_151 ⟨rfl, rfl, by decide, by decide⟩ hw hn hS hl.1 rfl (rest := []) rfl (Nat.le_of_ble_eq_true rfl) dL_ticks_481 ⟨(show (kc118 + 8) + 2 ≤ 11130 by omega), (show (ks118 + 48) + 12 ≤ 66990 by omega)⟩ (fun H locs hw hS hk => ?_)
                                have hr199 := hr199.kp hn hk
                                refine lv_aload hx hb dL_ticks_484 (lv_at hl 19 rfl) ?_
                                refine lv_iconst (v := 4) hx hb dL_ticks_486 (by decide) ?_
                                refine lv_iload hx hb dL_ticks_487 (lv_at hl 23 rfl) ?_
                                refine lv_imul hx hb dL_ticks_489 ?_
                                refine lv_iconst (v := 1) hx hb dL_ticks_490 (by decide) ?_
                                refine lv_iadd hx hb dL_ticks_491 ?_
                                obtain ⟨g213, hF⟩ := gi_t hF
                                refine r_iald hC hr199 g213 dL_ticks_492 ?_
                                refine lv_icmp_ne (tgt := 679) hx hb dL_ticks_493 (by decide) (fun h214 => ?_) (fun h214 => ?_)
                                · have hF := it_f h214 hF
                                  refine lv_iconst (v := 0) hx hb dL_ticks_679 (by decide) ?_
                                  refine lv_istore (lv' := [(11, .int (0 : Int32)), (8, .int v156), (0, .ref (bb G + 0)), (2, .int r1), (3, .int v4), (4, .int v5), (5, .int r6), (6, .int r9), (7, .int v18), (9, .int v28), (10, .int v110), (12, .int v32), (13, .int r42), (14, .int r45), (15, .int r48), (16, .int r51), (17, .int r54), (18, .int v64), (19, .int v69), (20, .int v76), (21, .ref ra199), (23, .int v145), (24, .int v149), (25, .int v153), (26, .int v116), (27, .int v133), (28, .int v139), (29, .int r140)]) hx hb dL_ticks_680 hl (by decide) rfl (fun ls hl => ?_)
                                  obtain ⟨v215, ev215, hF⟩ := nm_t hF
                                  refine lv_iinc (v := v215) (lv' := [(26, .int v215), (11, .int (0 : Int32)), (8, .int v156), (0, .ref (bb G + 0)), (2, .int r1), (3, .int v4), (4, .int v5), (5, .int r6), (6, .int r9), (7, .int v18), (9, .int v28), (10, .int v110), (12, .int v32), (13, .int r42), (14, .int r45), (15, .int r48), (16, .int r51), (17, .int r54), (18, .int v64), (19, .int v69), (20, .int v76), (21, .ref ra199), (23, .int v145), (24, .int v149), (25, .int v153), (27, .int v133), (28, .int v139), (29, .int r140)]) hx hb dL_ticks_682 hl (k := 24) rfl (by rw [ev215]; rfl) (by decide) rfl (fun ls hl => ?_)
                                  refine lv_goto (tgt := 318) hx hb dL_ticks_685 (by decide) ?_
                                  exact it_back hF hk118 (kc118 + 10) (ks118 + 60) _ _ _ (by omega) (by omega) hw hS hr199 (lv_sub hl [11, 3, 4, 5, 6, 7, 8, 9, 10, 12, 13, 14, 15, 16, 17, 18, 19, 20, 21, 2, 1, 22, 23, 24, 0] rfl)
                                · have hF := it_t h214 hF
                                  exact hJ496 C212 _ _ _ hF hw hS hr199 (lv_sub hl [1, 2, 3, 4, 5, 6, 7, 0, 8, 9, 10, 11, 12, 13, 14, 15, 16, 17, 18, 19, 20, 21, 22, 23, 24, 25, 26] rfl)
                            refine lv_if_eq (tgt := 468) hx hb dL_ticks_461 (by decide) (fun h154 => ?_) (fun h154 => ?_)
                            · have hF := it_t h154 hF
                              refine lv_iconst (v := 0) hx hb dL_ticks_468 (by decide) ?_
                              exact hJ469 (0 : Int32) _ _ _ hF hw hS hr199 (lv_sub hl [1, 2, 3, 4, 5, 6, 7, 9, 10, 11, 12, 13, 14, 15, 16, 17, 18, 19, 20, 21, 22, 0, 23, 24, 25, 26] rfl)
                            · have hF := it_f h154 hF
                              refine lv_iconst (v := 1) hx hb dL_ticks_464 (by decide) ?_
                              refine lv_goto (tgt := 469) hx hb dL_ticks_465 (by decide) ?_
                              exact hJ469 (1 : Int32) _ _ _ hF hw hS hr199 (lv_sub hl [1, 2, 3, 4, 5, 6, 7, 9, 10, 11, 12, 13, 14, 15, 16, 17, 18, 19, 20, 21, 22, 0, 23, 24, 25, 26] rfl)
                          refine lv_if_eq (tgt := 453) hx hb dL_ticks_440 (by decide) (fun h150 => ?_) (fun h150 => ?_)
                          · have hF := it_t h150 hF
                            refine lv_iconst (v := 0) hx hb dL_ticks_453 (by decide) ?_
                            refine W.widen (k := (kc118 + 8)) (n := (ks118 + 48)) (by omega) (by omega) ?_
                            exact hJ454 (0 : Int32) C142 _ _ _ hF hw hS hr199 (lv_sub hl [1, 2, 3, 4, 5, 6, 7, 8, 9, 10, 11, 12, 13, 14, 15, 16, 17, 18, 19, 20, 21, 0, 23, 24, 25, 26] rfl)
                          · have hF := it_f h150 hF
                            refine lv_aload_n hx hb dL_ticks_443 rfl (lv_at hl 1 rfl) ?_
                            refine lv_iload hx hb dL_ticks_444 (lv_at hl 23 rfl) ?_
                            refine lv_iconst (v := 0) hx hb dL_ticks_446 (by decide) ?_
                            obtain ⟨r216, C218, hc217, hF⟩ := b2_t hF
                            refine call_SWE hC (c_L_tryBoiler l (gP G H) (H.size - bb G) (hw.lp hn) (Nat.zero_le _) hfl v116 (0 : Int32) _ _ _ hc217) wwL_151 ⟨rfl, rfl, by decide, by decide⟩ hw hn hS hl.1 rfl (rest := [.int v115]) rfl (Nat.le_of_ble_eq_true rfl) dL_ticks_447 ⟨(show (kc118 + 6) + 2 ≤ 11130 by omega), (show (ks118 + 36) + 12 ≤ 66990 by omega)⟩ (fun H locs hw hS hk => ?_)
                            have hr199 := hr199.kp hn hk
                            refine lv_goto (tgt := 454) hx hb dL_ticks_450 (by decide) ?_
                            exact hJ454 r216 C218 _ _ _ hF hw hS hr199 (lv_sub hl [1, 2, 3, 4, 5, 6, 7, 8, 9, 10, 11, 12, 13, 14, 15, 16, 17, 18, 19, 20, 21, 0, 23, 24, 25, 26] rfl)
                        refine lv_icmp_ne (tgt := 432) hx hb dL_ticks_419 (by decide) (fun h147 => ?_) (fun h147 => ?_)
                        · have hF := it_f h147 hF
                          refine lv_iconst (v := 0) hx hb dL_ticks_432 (by decide) ?_
                          exact hJ433 (0 : Int32) _ _ _ hF hw hS hr199 (lv_sub hl [1, 2, 3, 4, 5, 6, 7, 8, 9, 10, 11, 12, 13, 14, 15, 16, 17, 18, 19, 20, 0, 22, 23, 24, 25, 26] rfl)
                        · have hF := it_t h147 hF
                          refine lv_iload hx hb dL_ticks_422 (lv_at hl 26 rfl) ?_
                          refine lv_iconst (v := 3) hx hb dL_ticks_424 (by decide) ?_
                          refine lv_icmp_ne (tgt := 432) hx hb dL_ticks_425 (by decide) (fun h219 => ?_) (fun h219 => ?_)
                          · have hF := it_f h219 hF
                            refine lv_iconst (v := 0) hx hb dL_ticks_432 (by decide) ?_
                            exact hJ433 (0 : Int32) _ _ _ hF hw hS hr199 (lv_sub hl [1, 2, 3, 4, 5, 6, 7, 8, 9, 10, 11, 12, 13, 14, 15, 16, 17, 18, 19, 20, 0, 22, 23, 24, 25, 26] rfl)
                          · have hF := it_t h219 hF
                            refine lv_iconst (v := 1) hx hb dL_ticks_428 (by decide) ?_
                            refine lv_goto (tgt := 433) hx hb dL_ticks_429 (by decide) ?_
                            exact hJ433 (1 : Int32) _ _ _ hF hw hS hr199 (lv_sub hl [1, 2, 3, 4, 5, 6, 7, 8, 9, 10, 11, 12, 13, 14, 15, 16, 17, 18, 19, 20, 0, 22, 23, 24, 25, 26] rfl)
                      refine lv_if_eq (tgt := 405) hx hb dL_ticks_398 (by decide) (fun h143 => ?_) (fun h143 => ?_)
                      · have hF := it_t h143 hF
                        refine lv_iconst (v := 0) hx hb dL_ticks_405 (by decide) ?_
                        exact hJ406 (0 : Int32) _ _ _ hF hw hS hr199 (lv_sub hl [2, 3, 4, 5, 6, 7, 8, 9, 10, 11, 12, 13, 14, 15, 16, 17, 18, 19, 20, 21, 23, 24, 25, 26, 1, 0] rfl)
                      · have hF := it_f h143 hF
                        refine lv_iconst (v := 1) hx hb dL_ticks_401 (by decide) ?_
                        refine lv_goto (tgt := 406) hx hb dL_ticks_402 (by decide) ?_
                        exact hJ406 (1 : Int32) _ _ _ hF hw hS hr199 (lv_sub hl [2, 3, 4, 5, 6, 7, 8, 9, 10, 11, 12, 13, 14, 15, 16, 17, 18, 19, 20, 21, 23, 24, 25, 26, 1, 0] rfl)
                    refine lv_icmp_ne (tgt := 382) hx hb dL_ticks_375 (by decide) (fun h138 => ?_) (fun h138 => ?_)
                    · have hF := it_f h138 hF
                      refine lv_iconst (v := 0) hx hb dL_ticks_382 (by decide) ?_
                      exact hJ383 (0 : Int32) _ _ _ hF hw hS hr199 (lv_sub hl [1, 2, 3, 4, 5, 6, 7, 8, 9, 10, 11, 12, 13, 14, 15, 16, 17, 18, 19, 20, 21, 22, 23, 24, 0] rfl)
                    · have hF := it_t h138 hF
                      refine lv_iconst (v := 1) hx hb dL_ticks_378 (by decide) ?_
                      refine lv_goto (tgt := 383) hx hb dL_ticks_379 (by decide) ?_
                      exact hJ383 (1 : Int32) _ _ _ hF hw hS hr199 (lv_sub hl [1, 2, 3, 4, 5, 6, 7, 8, 9, 10, 11, 12, 13, 14, 15, 16, 17, 18, 19, 20, 21, 22, 23, 24, 0] rfl)
                  refine lv_icmp_ne (tgt := 354) hx hb dL_ticks_347 (by decide) (fun h132 => ?_) (fun h132 => ?_)
                  · have hF := it_f h132 hF
                    refine lv_iconst (v := 0) hx hb dL_ticks_354 (by decide) ?_
                    exact hJ355 (0 : Int32) _ _ _ hF hw hS hr199 (lv_sub hl [1, 2, 3, 4, 5, 6, 7, 19, 8, 0, 9, 10, 11, 12, 13, 14, 15, 16, 17, 18, 21, 22, 23, 24] rfl)
                  · have hF := it_t h132 hF
                    refine lv_iconst (v := 1) hx hb dL_ticks_350 (by decide) ?_
                    refine lv_goto (tgt := 355) hx hb dL_ticks_351 (by decide) ?_
                    exact hJ355 (1 : Int32) _ _ _ hF hw hS hr199 (lv_sub hl [1, 2, 3, 4, 5, 6, 7, 19, 8, 0, 9, 10, 11, 12, 13, 14, 15, 16, 17, 18, 21, 22, 23, 24] rfl)
            refine lv_icmp_ge (tgt := 302) hx hb dL_ticks_294 (by decide) (fun h109 => ?_) (fun h109 => ?_)
            · have hF := it_t h109 hF
              refine lv_iload hx hb dL_ticks_302 (lv_at hl 13 rfl) ?_
              exact hJ304 v30 _ _ _ hF hw hS hr199 (lv_sub hl [4, 5, 6, 7, 8, 9, 10, 11, 12, 14, 15, 16, 17, 18, 19, 20, 21, 3, 2, 1] rfl)
            · have hF := it_f h109 hF
              refine lv_iload hx hb dL_ticks_297 (lv_at hl 0 rfl) ?_
              refine lv_goto (tgt := 304) hx hb dL_ticks_299 (by decide) ?_
              exact hJ304 r106 _ _ _ hF hw hS hr199 (lv_sub hl [4, 5, 6, 7, 8, 9, 10, 11, 12, 14, 15, 16, 17, 18, 19, 20, 21, 3, 2, 1] rfl)
          refine iter_soundN (P := fun (w79 : Nat) (x : Int32 × Mem × (Nat → Int32)) => ∀ (kc79 ks79 : Nat) (H : Heap) (locs : List Loc) (ls : Array Slot), kc79 + 8 * w79 ≤ (kc34 + 76) → ks79 + 48 * w79 ≤ (ks34 + 470) → Wd G n x.2.1 H → LW G s H locs → Row G n ra199 20 x.2.2 H → lv_has ls 30 [(21, .ref ra199), (20, .int v76), (19, .int v69), (0, .ref (bb G + 0)), (2, .int r1), (3, .int v4), (4, .int v5), (5, .int r6), (6, .int r9), (7, .int v18), (8, .int v29), (9, .int v28), (10, .int v30), (11, .int v31), (12, .int v32), (13, .int r42), (14, .int r45), (15, .int r48), (16, .int r51), (17, .int r54), (18, .int v64), (22, .int x.1)] → W p l e (rmX 11 204 11130 66990) s m ([.ref (bb G + 0), .int x1] : List Value).toArray below meth c H locs kc79 ks79 (MQ below (QR G n (some (.int rR)) CR) ([.ref (bb G + 0), .int x1] : List Value).toArray s 11130 66990 (frA G)) (F0 m 206 ls [])) (X := fun r => r = o79) ?_ 6 ((0 : Int32), C75, (fun _ => 0)) o79 hit79 rfl (kc34 + 28) (ks34 + 182) _ _ _ (by omega) (by omega) hw hS hr199 (lv_sub hl [1, 2, 3, 4, 5, 6, 7, 8, 9, 10, 11, 12, 13, 14, 15, 16, 17, 18, 19, 20, 21, 0] rfl)
          intro w79 x oo79 hF hk79 hX79 kc79 ks79 H locs ls hc79 hs79 hw hS hr199 hl
          obtain ⟨v77, C78, f80⟩ := x
          have hF : S_L_ticks_206 r1 v77 C78 f80 = some oo79 := hF
          have hw : Wd G n C78 H := hw
          have hr199 : Row G n ra199 20 f80 H := hr199
          have hl : lv_has ls 30 [(21, .ref ra199), (20, .int v76), (19, .int v69), (0, .ref (bb G + 0)), (2, .int r1), (3, .int v4), (4, .int v5), (5, .int r6), (6, .int r9), (7, .int v18), (8, .int v29), (9, .int v28), (10, .int v30), (11, .int v31), (12, .int v32), (13, .int r42), (14, .int r45), (15, .int r48), (16, .int r51), (17, .int r54), (18, .int v64), (22, .int v77)] := hl
          unfold S_L_ticks_206 at hF
          refine lv_iload hx hb dL_ticks_206 (lv_at hl 21 rfl) ?_
          refine lv_iload_n hx hb dL_ticks_208 rfl (lv_at hl 4 rfl) ?_
          refine lv_icmp_ge (tgt := 281) hx hb dL_ticks_209 (by decide) (fun h84 => ?_) (fun h84 => ?_)
          · have hF := it_t h84 hF
            refine W.widen (k := (kc34 + 76)) (n := (ks34 + 470)) (by omega) (by omega) ?_
            exact hR79 _ _ _ _ _ _ (it_exit hF hX79).symm hw hS hr199 (lv_sub hl [0, 1, 2, 3, 4, 5, 6, 7, 8, 9, 10, 11, 12, 13, 14, 15, 16, 17, 18, 19, 20] rfl)
          · have hF := it_f h84 hF
            refine lv_aload hx hb dL_ticks_212 (lv_at hl 0 rfl) ?_
            refine lv_iconst (v := 4) hx hb dL_ticks_214 (by decide) ?_
            refine lv_iload hx hb dL_ticks_215 (lv_at hl 21 rfl) ?_
            refine lv_imul hx hb dL_ticks_217 ?_
            refine lv_aload_n hx hb dL_ticks_218 rfl (lv_at hl 3 rfl) ?_
            refine lv_iload hx hb dL_ticks_219 (lv_at hl 21 rfl) ?_
            refine lv_iconst (v := 2) hx hb dL_ticks_221 (by decide) ?_
            obtain ⟨r85, C87, hc86, hF⟩ := b2_t hF
            refine call_SWE hC (c_L_tryBoiler l (gP G H) (H.size - bb G) (hw.lp hn) (Nat.zero_le _) hfl v77 (2 : Int32) _ _ _ hc86) wwL_151 ⟨rfl, rfl, by decide, by decide⟩ hw hn hS hl.1 rfl (rest := [.int ((4 : Int32) * v77), .ref ra199]) rfl (Nat.le_of_ble_eq_true rfl) dL_ticks_222 ⟨(show kc79 + 2 ≤ 11130 by omega), (show ks79 + 12 ≤ 66990 by omega)⟩ (fun H locs hw hS hk => ?_)
            have hr199 := hr199.kp hn hk
            obtain ⟨g88, hF⟩ := gi_t hF
            refine r_iast hC hw hn hS hr199 g88 dL_ticks_225 (fun H locs hw hS hr199 => ?_)
            obtain ⟨f89, ef89, hF⟩ := nm_t hF
            rw [← ef89] at hr199
            refine lv_aload hx hb dL_ticks_226 (lv_at hl 0 rfl) ?_
            refine lv_iconst (v := 4) hx hb dL_ticks_228 (by decide) ?_
            refine lv_iload hx hb dL_ticks_229 (lv_at hl 21 rfl) ?_
            refine lv_imul hx hb dL_ticks_231 ?_
            refine lv_iconst (v := 1) hx hb dL_ticks_232 (by decide) ?_
            refine lv_iadd hx hb dL_ticks_233 ?_
            refine lv_aload_n hx hb dL_ticks_234 rfl (lv_at hl 3 rfl) ?_
            refine lv_iload hx hb dL_ticks_235 (lv_at hl 21 rfl) ?_
            refine lv_iconst (v := 5) hx hb dL_ticks_237 (by decide) ?_
            obtain ⟨r90, C92, hc91, hF⟩ := b2_t hF
            refine call_SWE hC (c_L_tryBoiler l (gP G H) (H.size - bb G) (hw.lp hn) (Nat.zero_le _) hfl v77 (5 : Int32) _ _ _ hc91) wwL_151 ⟨rfl, rfl, by decide, by decide⟩ hw hn hS hl.1 rfl (rest := [.int (((4 : Int32) * v77) + (1 : Int32)), .ref ra199]) rfl (Nat.le_of_ble_eq_true rfl) dL_ticks_238 ⟨(show (kc79 + 2) + 2 ≤ 11130 by omega), (show (ks79 + 12) + 12 ≤ 66990 by omega)⟩ (fun H locs hw hS hk => ?_)
            have hr199 := hr199.kp hn hk
            obtain ⟨g93, hF⟩ := gi_t hF
            refine r_iast hC hw hn hS hr199 g93 dL_ticks_241 (fun H locs hw hS hr199 => ?_)
            obtain ⟨f94, ef94, hF⟩ := nm_t hF
            rw [← ef94] at hr199
            refine lv_aload hx hb dL_ticks_242 (lv_at hl 0 rfl) ?_
            refine lv_iconst (v := 4) hx hb dL_ticks_244 (by decide) ?_
            refine lv_iload hx hb dL_ticks_245 (lv_at hl 21 rfl) ?_
            refine lv_imul hx hb dL_ticks_247 ?_
            refine lv_iconst (v := 2) hx hb dL_ticks_248 (by decide) ?_
            refine lv_iadd hx hb dL_ticks_249 ?_
            refine lv_aload_n hx hb dL_ticks_250 rfl (lv_at hl 3 rfl) ?_
            refine lv_iload hx hb dL_ticks_251 (lv_at hl 21 rfl) ?_
            refine lv_iconst (v := 4) hx hb dL_ticks_253 (by decide) ?_
            obtain ⟨r95, C97, hc96, hF⟩ := b2_t hF
            refine call_SWE hC (c_L_tryBoiler l (gP G H) (H.size - bb G) (hw.lp hn) (Nat.zero_le _) hfl v77 (4 : Int32) _ _ _ hc96) wwL_151 ⟨rfl, rfl, by decide, by decide⟩ hw hn hS hl.1 rfl (rest := [.int (((4 : Int32) * v77) + (2 : Int32)), .ref ra199]) rfl (Nat.le_of_ble_eq_true rfl) dL_ticks_254 ⟨(show (kc79 + 4) + 2 ≤ 11130 by omega), (show (ks79 + 24) + 12 ≤ 66990 by omega)⟩ (fun H locs hw hS hk => ?_)
            have hr199 := hr199.kp hn hk
            obtain ⟨g98, hF⟩ := gi_t hF
            refine r_iast hC hw hn hS hr199 g98 dL_ticks_257 (fun H locs hw hS hr199 => ?_)
            obtain ⟨f99, ef99, hF⟩ := nm_t hF
            rw [← ef99] at hr199
            refine lv_aload hx hb dL_ticks_258 (lv_at hl 0 rfl) ?_
            refine lv_iconst (v := 4) hx hb dL_ticks_260 (by decide) ?_
            refine lv_iload hx hb dL_ticks_261 (lv_at hl 21 rfl) ?_
            refine lv_imul hx hb dL_ticks_263 ?_
            refine lv_iconst (v := 3) hx hb dL_ticks_264 (by decide) ?_
            refine lv_iadd hx hb dL_ticks_265 ?_
            refine lv_aload_n hx hb dL_ticks_266 rfl (lv_at hl 3 rfl) ?_
            refine lv_iload hx hb dL_ticks_267 (lv_at hl 21 rfl) ?_
            refine lv_bipush (v := 6) hx hb dL_ticks_269 (by decide) ?_
            obtain ⟨r100, C102, hc101, hF⟩ := b2_t hF
            refine call_SWE hC (c_L_tryBoiler l (gP G H) (H.size - bb G) (hw.lp hn) (Nat.zero_le _) hfl v77 (6 : Int32) _ _ _ hc101) wwL_151 ⟨rfl, rfl, by decide, by decide⟩ hw hn hS hl.1 rfl (rest := [.int (((4 : Int32) * v77) + (3 : Int32)), .ref ra199]) rfl (Nat.le_of_ble_eq_true rfl) dL_ticks_271 ⟨(show (kc79 + 6) + 2 ≤ 11130 by omega), (show (ks79 + 36) + 12 ≤ 66990 by omega)⟩ (fun H locs hw hS hk => ?_)
            have hr199 := hr199.kp hn hk
            obtain ⟨g103, hF⟩ := gi_t hF
            refine r_iast hC hw hn hS hr199 g103 dL_ticks_274 (fun H locs hw hS hr199 => ?_)
            obtain ⟨f104, ef104, hF⟩ := nm_t hF
            rw [← ef104] at hr199
            obtain ⟨v105, ev105, hF⟩ := nm_t hF
            refine lv_iinc (v := v105) (lv' := [(22, .int v105), (21, .ref ra199), (20, .int v76), (19, .int v69), (0, .ref (bb G + 0)), (2, .int r1), (3, .int v4), (4, .int v5), (5, .int r6), (6, .int r9), (7, .int v18), (8, .int v29), (9, .int v28), (10, .int v30), (11, .int v31), (12, .int v32), (13, .int r42), (14, .int r45), (15, .int r48), (16, .int r51), (17, .int r54), (18, .int v64)]) hx hb dL_ticks_275 hl (k := 21) rfl (by rw [ev105]; rfl) (by decide) rfl (fun ls hl => ?_)
            refine lv_goto (tgt := 206) hx hb dL_ticks_278 (by decide) ?_
            exact it_back hF hk79 (kc79 + 8) (ks79 + 48) _ _ _ (by omega) (by omega) hw hS hr199 (lv_sub hl [1, 2, 3, 4, 5, 6, 7, 8, 9, 10, 11, 12, 13, 14, 15, 16, 17, 18, 19, 20, 21, 0] rfl)
        refine lv_icmp_ne (tgt := 179) hx hb dL_ticks_172 (by decide) (fun h68 => ?_) (fun h68 => ?_)
        · have hF := it_f h68 hF
          refine lv_iconst (v := 0) hx hb dL_ticks_179 (by decide) ?_
          exact hJ180 (0 : Int32) _ _ _ hF hw hS (lv_sub hl [1, 2, 3, 4, 5, 6, 7, 8, 9, 10, 11, 12, 13, 14, 15, 16, 17, 0] rfl)
        · have hF := it_t h68 hF
          refine lv_iconst (v := 1) hx hb dL_ticks_175 (by decide) ?_
          refine lv_goto (tgt := 180) hx hb dL_ticks_176 (by decide) ?_
          exact hJ180 (1 : Int32) _ _ _ hF hw hS (lv_sub hl [1, 2, 3, 4, 5, 6, 7, 8, 9, 10, 11, 12, 13, 14, 15, 16, 17, 0] rfl)
      refine lv_icmp_ne (tgt := 162) hx hb dL_ticks_155 (by decide) (fun h63 => ?_) (fun h63 => ?_)
      · have hF := it_f h63 hF
        refine lv_iconst (v := 0) hx hb dL_ticks_162 (by decide) ?_
        exact hJ163 (0 : Int32) _ _ _ hF hw hS (lv_sub hl [12, 11, 10, 9, 8, 7, 6, 13, 5, 14, 15, 16, 4, 3, 2, 1, 0] rfl)
      · have hF := it_t h63 hF
        refine lv_iconst (v := 1) hx hb dL_ticks_158 (by decide) ?_
        refine lv_goto (tgt := 163) hx hb dL_ticks_159 (by decide) ?_
        exact hJ163 (1 : Int32) _ _ _ hF hw hS (lv_sub hl [12, 11, 10, 9, 8, 7, 6, 13, 5, 14, 15, 16, 4, 3, 2, 1, 0] rfl)
