/-! contracts, by program out of the bytecode -/
set_option maxHeartbeats 4000000 in
set_option maxRecDepth 100000 in
theorem c_X9_errorPosition (l : Launch) (G : GG) (n : Nat) (hn : 252 ≤ n) (hn2 : n ≤ 253)  (C : Mem) (rR : Int32) (CR : Mem) (hF : F_X9_errorPosition  C = some (rR, CR)) : Ct l yX9_errorPosition cX9_errorPosition 1 (some .int) (rmN 5 116) G n C [.ref (bb G + 244)] (some (.int rR)) CR := by
  refine Ct.of (by decide) (Nat.le_of_ble_eq_true rfl) ?_
  intro p e s m below meth c ls hC hr hlk hw hl
  have hx := hC.1
  have hb := hC.2.1
  have hS : LW G s s.heap [] := va_S.rf
  have hl : lv_has ls 1 [(0, .ref (bb G + 244))] := hl
  unfold F_X9_errorPosition at hF
  refine lv_aload_n hx hb dX9_errorPosition_0 rfl (lv_at hl 0 rfl) ?_
  refine lv_iconst (v := 0) hx hb dX9_errorPosition_1 (by decide) ?_
  refine pX9_43 hC hw hS (by omega) hn2  dX9_errorPosition_2 (fun H locs hw hS _ => ?_)
  obtain ⟨C1, eC1, hF⟩ := nm_t hF
  have hw := Wd.cast eC1 hw
  refine lv_aload_n hx hb dX9_errorPosition_5 rfl (lv_at hl 0 rfl) ?_
  obtain ⟨r2, C3, hc4, hF⟩ := b2_t hF
  refine call_Vi hC (c_X9_readAll l G n (by omega) hn2  _ _ _ hc4) wvX9_153 ⟨rfl, rfl, by decide, by decide⟩ hw hS (by omega) ca_model rfl hl.1 rfl (rest := []) rfl (Nat.le_of_ble_eq_true rfl) dX9_errorPosition_6 ⟨by decide, by decide⟩ (fun H locs hw hS _ => ?_)
  refine lv_if_eq (tgt := 17) hx hb dX9_errorPosition_9 (by decide) (fun h5 => ?_) (fun h5 => ?_)
  · have hF := it_t h5 hF
    refine lv_aload_n hx hb dX9_errorPosition_17 rfl (lv_at hl 0 rfl) ?_
    refine gX9_130 hC hw (by omega)  dX9_errorPosition_18 ?_
    exact m_iret hC hr hlk hw hS dX9_errorPosition_21 hF
  · have hF := it_f h5 hF
    refine lv_bipush (v := -9) hx hb dX9_errorPosition_12 (by decide) ?_
    refine lv_goto (tgt := 21) hx hb dX9_errorPosition_14 (by decide) ?_
    exact m_iret hC hr hlk hw hS dX9_errorPosition_21 hF
set_option maxHeartbeats 4000000 in
set_option maxRecDepth 100000 in
theorem c_X9_load (l : Launch) (G : GG) (n : Nat) (hn : 252 ≤ n) (hn2 : n ≤ 253)  (C : Mem) (rR : Int32) (CR : Mem) (hF : F_X9_load  C = some (rR, CR)) : Ct l yX9_load cX9_load 1 (some .int) (rmN 5 116) G n C [.ref (bb G + 244)] (some (.int rR)) CR := by
  refine Ct.of (by decide) (Nat.le_of_ble_eq_true rfl) ?_
  intro p e s m below meth c ls hC hr hlk hw hl
  have hx := hC.1
  have hb := hC.2.1
  have hS : LW G s s.heap [] := va_S.rf
  have hl : lv_has ls 1 [(0, .ref (bb G + 244))] := hl
  unfold F_X9_load at hF
  refine lv_aload_n hx hb dX9_load_0 rfl (lv_at hl 0 rfl) ?_
  refine lv_aload_n hx hb dX9_load_1 rfl (lv_at hl 0 rfl) ?_
  obtain ⟨r1, C2, hc3, hF⟩ := b2_t hF
  refine call_Vi hC (c_X9_readAll l G n (by omega) hn2  _ _ _ hc3) wvX9_153 ⟨rfl, rfl, by decide, by decide⟩ hw hS (by omega) ca_model rfl hl.1 rfl (rest := [.ref (bb G + 244)]) rfl (Nat.le_of_ble_eq_true rfl) dX9_load_2 ⟨by decide, by decide⟩ (fun H locs hw hS _ => ?_)
  have hJ13 : ∀ (v5 : Int32) (H : Heap) (locs : List Loc) (ls : Array Slot), J_X9_load_13 C2 v5 = some (rR, CR) → Wd G n C2 H → LW G s H locs → lv_has ls 1 [(0, .ref (bb G + 244))] → W p l e (rmN 5 116) s m ([.ref (bb G + 244)] : List Value).toArray below meth c H locs 0 0 (MQ below (QR G n (some (.int rR)) CR) ([.ref (bb G + 244)] : List Value).toArray s 0 0 (frA G)) (F0 m 13 ls [.int v5, .ref (bb G + 244)]) := by
    intro v5 H locs ls hF hw hS hl
    unfold J_X9_load_13 at hF
    obtain ⟨r6, C7, hc8, hF⟩ := b2_t hF
    refine call_Vi hC (c_X9_refused l G n (by omega) hn2 v5 _ _ _ hc8) wvX9_127 ⟨rfl, rfl, by decide, by decide⟩ hw hS (by omega) ca_model rfl hl.1 rfl (rest := []) rfl (Nat.le_of_ble_eq_true rfl) dX9_load_13 ⟨by decide, by decide⟩ (fun H locs hw hS _ => ?_)
    refine lv_if_eq (tgt := 21) hx hb dX9_load_16 (by decide) (fun h9 => ?_) (fun h9 => ?_)
    · have hF := it_t h9 hF
      refine lv_aload_n hx hb dX9_load_21 rfl (lv_at hl 0 rfl) ?_
      refine lv_aload_n hx hb dX9_load_22 rfl (lv_at hl 0 rfl) ?_
      refine gX9_137 hC hw (by omega)  dX9_load_23 ?_
      refine pX9_13 hC hw hS (by omega) hn2  dX9_load_26 (fun H locs hw hS _ => ?_)
      obtain ⟨C10, eC10, hF⟩ := nm_t hF
      have hw := Wd.cast eC10 hw
      refine lv_aload_n hx hb dX9_load_29 rfl (lv_at hl 0 rfl) ?_
      refine lv_aload_n hx hb dX9_load_30 rfl (lv_at hl 0 rfl) ?_
      refine gX9_146 hC hw (by omega)  dX9_load_31 ?_
      refine pX9_17 hC hw hS (by omega) hn2  dX9_load_34 (fun H locs hw hS _ => ?_)
      obtain ⟨C11, eC11, hF⟩ := nm_t hF
      have hw := Wd.cast eC11 hw
      refine lv_aload_n hx hb dX9_load_37 rfl (lv_at hl 0 rfl) ?_
      refine gX9_20 hC hw (by omega)  dX9_load_38 ?_
      refine lv_iconst (v := 0) hx hb dX9_load_41 (by decide) ?_
      refine lv_aload_n hx hb dX9_load_42 rfl (lv_at hl 0 rfl) ?_
      refine gX9_23 hC hw (by omega)  dX9_load_43 ?_
      refine lv_iconst (v := 0) hx hb dX9_load_46 (by decide) ?_
      obtain ⟨r12, C13, hc14, hF⟩ := b2_t hF
      refine call_Sv hC (c_X9_copyPage l G n (by omega) hn2 32 (show 31 ≤ 32 ∧ 32 ≤ 36 by decide) (0 : Int32) 33 (show 31 ≤ 33 ∧ 33 ≤ 36 by decide) (0 : Int32) _ _ _ hc14) wsX9_156 ⟨rfl, rfl, by decide, by decide⟩ hw hS hl.1 rfl (rest := []) rfl (Nat.le_of_ble_eq_true rfl) dX9_load_47 ⟨by decide, by decide⟩ (fun H locs hw hS _ => ?_)
      refine lv_aload_n hx hb dX9_load_50 rfl (lv_at hl 0 rfl) ?_
      refine lv_iconst (v := 0) hx hb dX9_load_51 (by decide) ?_
      refine pX9_160 hC hw hS (by omega) hn2  dX9_load_52 (fun H locs hw hS _ => ?_)
      obtain ⟨C15, eC15, hF⟩ := nm_t hF
      have hw := Wd.cast eC15 hw
      refine lv_aload_n hx hb dX9_load_55 rfl (lv_at hl 0 rfl) ?_
      refine gX9_35 hC hw (by omega)  dX9_load_56 ?_
      refine lv_iconst (v := 0) hx hb dX9_load_59 (by decide) ?_
      refine lv_iconst (v := 0) hx hb dX9_load_60 (by decide) ?_
      refine st_kept hC hw hS (by omega) hn2  (show vp_in (0 : Int32) 2 by unfold vp_in; decide) (by decide) dX9_load_61 (fun H locs hw hS _ => ?_)
      obtain ⟨C16, eC16, hF⟩ := nm_t hF
      have hw := Wd.cast eC16 hw
      refine lv_aload_n hx hb dX9_load_62 rfl (lv_at hl 0 rfl) ?_
      refine gX9_35 hC hw (by omega)  dX9_load_63 ?_
      refine lv_iconst (v := 1) hx hb dX9_load_66 (by decide) ?_
      refine lv_iconst (v := 0) hx hb dX9_load_67 (by decide) ?_
      refine st_kept hC hw hS (by omega) hn2  (show vp_in (1 : Int32) 2 by unfold vp_in; decide) (by decide) dX9_load_68 (fun H locs hw hS _ => ?_)
      obtain ⟨C17, eC17, hF⟩ := nm_t hF
      have hw := Wd.cast eC17 hw
      refine lv_aload_n hx hb dX9_load_69 rfl (lv_at hl 0 rfl) ?_
      refine gX9_13 hC hw (by omega)  dX9_load_70 ?_
      exact m_iret hC hr hlk hw hS dX9_load_73 hF
    · have hF := it_f h9 hF
      refine lv_iconst (v := 0) hx hb dX9_load_19 (by decide) ?_
      exact m_iret hC hr hlk hw hS dX9_load_20 hF
  refine lv_if_eq (tgt := 12) hx hb dX9_load_5 (by decide) (fun h4 => ?_) (fun h4 => ?_)
  · have hF := it_t h4 hF
    refine lv_iconst (v := 1) hx hb dX9_load_12 (by decide) ?_
    exact hJ13 (1 : Int32) _ _ _ hF hw hS (lv_sub hl [0] rfl)
  · have hF := it_f h4 hF
    refine lv_iconst (v := 0) hx hb dX9_load_8 (by decide) ?_
    refine lv_goto (tgt := 13) hx hb dX9_load_9 (by decide) ?_
    exact hJ13 (0 : Int32) _ _ _ hF hw hS (lv_sub hl [0] rfl)
set_option maxHeartbeats 4000000 in
set_option maxRecDepth 100000 in
theorem c_X9_isBoiler (l : Launch) (G : GG) (n : Nat) (hn : 252 ≤ n) (hn2 : n ≤ 253) (x0 : Int32) (C : Mem) (rR : Int32) (CR : Mem) (hF : F_X9_isBoiler x0 C = some (rR, CR)) : Ct l yX9_isBoiler cX9_isBoiler 2 (some .boolean) (rmN 1 25) G n C [.ref (bb G + 244), .int x0] (some (.int rR)) CR := by
  refine Ct.of (by decide) (Nat.le_of_ble_eq_true rfl) ?_
  intro p e s m below meth c ls hC hr hlk hw hl
  have hx := hC.1
  have hb := hC.2.1
  have hS : LW G s s.heap [] := va_S.rf
  have hl : lv_has ls 2 [(0, .ref (bb G + 244)), (1, .int x0)] := hl
  unfold F_X9_isBoiler at hF
  refine lv_iload_n hx hb dX9_isBoiler_0 rfl (lv_at hl 1 rfl) ?_
  refine lv_i2l (v := (x0).toInt64) hx hb dX9_isBoiler_1 rfl ?_
  refine lv_lconst (v := 0) hx hb dX9_isBoiler_2 (by decide) ?_
  refine lv_aload_n hx hb dX9_isBoiler_3 rfl (lv_at hl 0 rfl) ?_
  refine gX9_13 hC hw (by omega)  dX9_isBoiler_4 ?_
  refine lv_iconst (v := 1) hx hb dX9_isBoiler_7 (by decide) ?_
  refine lv_isub hx hb dX9_isBoiler_8 ?_
  refine lv_i2l (v := (((C 30 4) - (1 : Int32))).toInt64) hx hb dX9_isBoiler_9 rfl ?_
  obtain ⟨r1, C2, hc3, hF⟩ := b2_t hF
  refine call_Si hC (c_X9_in l G n (by omega) hn2 ((x0).toInt64) (0 : Int64) ((((C 30 4) - (1 : Int32))).toInt64) _ _ _ hc3) wsX9_50 ⟨rfl, rfl, by decide, by decide⟩ hw hS hl.1 rfl (rest := []) rfl (Nat.le_of_ble_eq_true rfl) dX9_isBoiler_10 ⟨by decide, by decide⟩ (fun H locs hw hS _ => ?_)
  obtain ⟨g4, hF⟩ := gb_t hF
  exact m_zret hC hr hlk hw hS dX9_isBoiler_13 g4 hF
set_option maxHeartbeats 4000000 in
set_option maxRecDepth 100000 in
theorem c_X9_about (l : Launch) (G : GG) (n : Nat) (hn : 252 ≤ n) (hn2 : n ≤ 253) (x0 : Int32) (C : Mem) (rR : Int32) (CR : Mem) (hF : F_X9_about x0 C = some (rR, CR)) : Ct l yX9_about cX9_about 2 (some .int) (rmN 2 44) G n C [.ref (bb G + 244), .int x0] (some (.int rR)) CR := by
  refine Ct.of (by decide) (Nat.le_of_ble_eq_true rfl) ?_
  intro p e s m below meth c ls hC hr hlk hw hl
  have hx := hC.1
  have hb := hC.2.1
  have hS : LW G s s.heap [] := va_S.rf
  have hl : lv_has ls 2 [(0, .ref (bb G + 244)), (1, .int x0)] := hl
  unfold F_X9_about at hF
  refine lv_aload_n hx hb dX9_about_0 rfl (lv_at hl 0 rfl) ?_
  refine lv_iload_n hx hb dX9_about_1 rfl (lv_at hl 1 rfl) ?_
  refine lv_i2l (v := (x0).toInt64) hx hb dX9_about_2 rfl ?_
  refine lv_lconst (v := 0) hx hb dX9_about_3 (by decide) ?_
  refine lv_ldc2 (v := 16) hx hb hC.2.2.2.1 (hC.2.2.2.2.1 _ kcX9_163) dX9_about_4 ?_
  obtain ⟨r1, C2, hc3, hF⟩ := b2_t hF
  refine call_Si hC (c_X9_in l G n (by omega) hn2 ((x0).toInt64) (0 : Int64) (16 : Int64) _ _ _ hc3) wsX9_50 ⟨rfl, rfl, by decide, by decide⟩ hw hS hl.1 rfl (rest := [.ref (bb G + 244)]) rfl (Nat.le_of_ble_eq_true rfl) dX9_about_7 ⟨by decide, by decide⟩ (fun H locs hw hS _ => ?_)
  have hJ18 : ∀ (v5 : Int32) (H : Heap) (locs : List Loc) (ls : Array Slot), J_X9_about_18 x0 C2 v5 = some (rR, CR) → Wd G n C2 H → LW G s H locs → lv_has ls 2 [(0, .ref (bb G + 244)), (1, .int x0)] → W p l e (rmN 2 44) s m ([.ref (bb G + 244), .int x0] : List Value).toArray below meth c H locs 0 0 (MQ below (QR G n (some (.int rR)) CR) ([.ref (bb G + 244), .int x0] : List Value).toArray s 0 0 (frA G)) (F0 m 18 ls [.int v5, .ref (bb G + 244)]) := by
    intro v5 H locs ls hF hw hS hl
    unfold J_X9_about_18 at hF
    obtain ⟨r6, C7, hc8, hF⟩ := b2_t hF
    refine call_Vi hC (c_X9_refused l G n (by omega) hn2 v5 _ _ _ hc8) wvX9_127 ⟨rfl, rfl, by decide, by decide⟩ hw hS (by omega) ca_model rfl hl.1 rfl (rest := []) rfl (Nat.le_of_ble_eq_true rfl) dX9_about_18 ⟨by decide, by decide⟩ (fun H locs hw hS _ => ?_)
    refine lv_if_eq (tgt := 26) hx hb dX9_about_21 (by decide) (fun h9 => ?_) (fun h9 => ?_)
    · have hF := it_t h9 hF
      refine lv_iload_n hx hb dX9_about_26 rfl (lv_at hl 1 rfl) ?_
      by_cases h10 : x0 = (6 : Int32)
      · have hF := it_t h10 hF
        refine lv_tableIn (tgt := 84) (off := 57) hx hb dX9_about_27 (by rw [h10]; decide) (by rw [h10]; decide) (by rw [h10]; rfl) (by decide) ?_
        refine lv_aload_n hx hb dX9_about_84 rfl (lv_at hl 0 rfl) ?_
        refine gX9_13 hC hw (by omega)  dX9_about_85 ?_
        exact m_iret hC hr hlk hw hS dX9_about_88 hF
      have hF := it_f h10 hF
      by_cases h11 : x0 = (7 : Int32)
      · have hF := it_t h11 hF
        refine lv_tableIn (tgt := 89) (off := 62) hx hb dX9_about_27 (by rw [h11]; decide) (by rw [h11]; decide) (by rw [h11]; rfl) (by decide) ?_
        refine lv_aload_n hx hb dX9_about_89 rfl (lv_at hl 0 rfl) ?_
        refine gX9_17 hC hw (by omega)  dX9_about_90 ?_
        exact m_iret hC hr hlk hw hS dX9_about_93 hF
      have hF := it_f h11 hF
      by_cases h12 : x0 = (8 : Int32)
      · have hF := it_t h12 hF
        refine lv_tableIn (tgt := 94) (off := 67) hx hb dX9_about_27 (by rw [h12]; decide) (by rw [h12]; decide) (by rw [h12]; rfl) (by decide) ?_
        refine lv_aload_n hx hb dX9_about_94 rfl (lv_at hl 0 rfl) ?_
        refine gX9_23 hC hw (by omega)  dX9_about_95 ?_
        refine lv_bipush (v := 6) hx hb dX9_about_98 (by decide) ?_
        obtain ⟨g21, hF⟩ := gi_t hF
        refine ld_marr hC hw (by omega) (show 31 ≤ 33 ∧ 33 ≤ 36 by decide) g21 dX9_about_100 ?_
        exact m_iret hC hr hlk hw hS dX9_about_101 hF
      have hF := it_f h12 hF
      by_cases h13 : x0 = (9 : Int32)
      · have hF := it_t h13 hF
        refine lv_tableIn (tgt := 102) (off := 75) hx hb dX9_about_27 (by rw [h13]; decide) (by rw [h13]; decide) (by rw [h13]; rfl) (by decide) ?_
        refine lv_aload_n hx hb dX9_about_102 rfl (lv_at hl 0 rfl) ?_
        refine lv_aload_n hx hb dX9_about_103 rfl (lv_at hl 0 rfl) ?_
        refine gX9_23 hC hw (by omega)  dX9_about_104 ?_
        obtain ⟨r22, C23, hc24, hF⟩ := b2_t hF
        refine call_Vi hC (c_X9_meanOf l G n (by omega) hn2 33 (show 31 ≤ 33 ∧ 33 ≤ 36 by decide) _ _ _ hc24) wvX9_87 ⟨rfl, rfl, by decide, by decide⟩ hw hS (by omega) ca_model rfl hl.1 rfl (rest := []) rfl (Nat.le_of_ble_eq_true rfl) dX9_about_107 ⟨by decide, by decide⟩ (fun H locs hw hS _ => ?_)
        exact m_iret hC hr hlk hw hS dX9_about_110 hF
      have hF := it_f h13 hF
      by_cases h14 : x0 = (10 : Int32)
      · have hF := it_t h14 hF
        refine lv_tableIn (tgt := 121) (off := 94) hx hb dX9_about_27 (by rw [h14]; decide) (by rw [h14]; decide) (by rw [h14]; rfl) (by decide) ?_
        refine lv_iload_n hx hb dX9_about_121 rfl (lv_at hl 1 rfl) ?_
        refine lv_bipush (v := 6) hx hb dX9_about_122 (by decide) ?_
        refine lv_icmp_ge (tgt := 136) hx hb dX9_about_124 (by decide) (fun h25 => ?_) (fun h25 => ?_)
        · have hF := it_t h25 hF
          refine lv_aload_n hx hb dX9_about_136 rfl (lv_at hl 0 rfl) ?_
          refine gX9_23 hC hw (by omega)  dX9_about_137 ?_
          refine lv_bipush (v := 7) hx hb dX9_about_140 (by decide) ?_
          refine lv_iload_n hx hb dX9_about_142 rfl (lv_at hl 1 rfl) ?_
          refine lv_iadd hx hb dX9_about_143 ?_
          refine lv_bipush (v := 10) hx hb dX9_about_144 (by decide) ?_
          refine lv_isub hx hb dX9_about_146 ?_
          obtain ⟨g26, hF⟩ := gi_t hF
          refine ld_marr hC hw (by omega) (show 31 ≤ 33 ∧ 33 ≤ 36 by decide) g26 dX9_about_147 ?_
          exact m_iret hC hr hlk hw hS dX9_about_148 hF
        · have hF := it_f h25 hF
          refine lv_aload_n hx hb dX9_about_127 rfl (lv_at hl 0 rfl) ?_
          refine gX9_23 hC hw (by omega)  dX9_about_128 ?_
          refine lv_iload_n hx hb dX9_about_131 rfl (lv_at hl 1 rfl) ?_
          obtain ⟨g27, hF⟩ := gi_t hF
          refine ld_marr hC hw (by omega) (show 31 ≤ 33 ∧ 33 ≤ 36 by decide) g27 dX9_about_132 ?_
          refine lv_goto (tgt := 148) hx hb dX9_about_133 (by decide) ?_
          exact m_iret hC hr hlk hw hS dX9_about_148 hF
      have hF := it_f h14 hF
      by_cases h15 : x0 = (11 : Int32)
      · have hF := it_t h15 hF
        refine lv_tableIn (tgt := 121) (off := 94) hx hb dX9_about_27 (by rw [h15]; decide) (by rw [h15]; decide) (by rw [h15]; rfl) (by decide) ?_
        refine lv_iload_n hx hb dX9_about_121 rfl (lv_at hl 1 rfl) ?_
        refine lv_bipush (v := 6) hx hb dX9_about_122 (by decide) ?_
        refine lv_icmp_ge (tgt := 136) hx hb dX9_about_124 (by decide) (fun h28 => ?_) (fun h28 => ?_)
        · have hF := it_t h28 hF
          refine lv_aload_n hx hb dX9_about_136 rfl (lv_at hl 0 rfl) ?_
          refine gX9_23 hC hw (by omega)  dX9_about_137 ?_
          refine lv_bipush (v := 7) hx hb dX9_about_140 (by decide) ?_
          refine lv_iload_n hx hb dX9_about_142 rfl (lv_at hl 1 rfl) ?_
          refine lv_iadd hx hb dX9_about_143 ?_
          refine lv_bipush (v := 10) hx hb dX9_about_144 (by decide) ?_
          refine lv_isub hx hb dX9_about_146 ?_
          obtain ⟨g29, hF⟩ := gi_t hF
          refine ld_marr hC hw (by omega) (show 31 ≤ 33 ∧ 33 ≤ 36 by decide) g29 dX9_about_147 ?_
          exact m_iret hC hr hlk hw hS dX9_about_148 hF
        · have hF := it_f h28 hF
          refine lv_aload_n hx hb dX9_about_127 rfl (lv_at hl 0 rfl) ?_
          refine gX9_23 hC hw (by omega)  dX9_about_128 ?_
          refine lv_iload_n hx hb dX9_about_131 rfl (lv_at hl 1 rfl) ?_
          obtain ⟨g30, hF⟩ := gi_t hF
          refine ld_marr hC hw (by omega) (show 31 ≤ 33 ∧ 33 ≤ 36 by decide) g30 dX9_about_132 ?_
          refine lv_goto (tgt := 148) hx hb dX9_about_133 (by decide) ?_
          exact m_iret hC hr hlk hw hS dX9_about_148 hF
      have hF := it_f h15 hF
      by_cases h16 : x0 = (12 : Int32)
      · have hF := it_t h16 hF
        refine lv_tableIn (tgt := 121) (off := 94) hx hb dX9_about_27 (by rw [h16]; decide) (by rw [h16]; decide) (by rw [h16]; rfl) (by decide) ?_
        refine lv_iload_n hx hb dX9_about_121 rfl (lv_at hl 1 rfl) ?_
        refine lv_bipush (v := 6) hx hb dX9_about_122 (by decide) ?_
        refine lv_icmp_ge (tgt := 136) hx hb dX9_about_124 (by decide) (fun h31 => ?_) (fun h31 => ?_)
        · have hF := it_t h31 hF
          refine lv_aload_n hx hb dX9_about_136 rfl (lv_at hl 0 rfl) ?_
          refine gX9_23 hC hw (by omega)  dX9_about_137 ?_
          refine lv_bipush (v := 7) hx hb dX9_about_140 (by decide) ?_
          refine lv_iload_n hx hb dX9_about_142 rfl (lv_at hl 1 rfl) ?_
          refine lv_iadd hx hb dX9_about_143 ?_
          refine lv_bipush (v := 10) hx hb dX9_about_144 (by decide) ?_
          refine lv_isub hx hb dX9_about_146 ?_
          obtain ⟨g32, hF⟩ := gi_t hF
          refine ld_marr hC hw (by omega) (show 31 ≤ 33 ∧ 33 ≤ 36 by decide) g32 dX9_about_147 ?_
          exact m_iret hC hr hlk hw hS dX9_about_148 hF
        · have hF := it_f h31 hF
          refine lv_aload_n hx hb dX9_about_127 rfl (lv_at hl 0 rfl) ?_
          refine gX9_23 hC hw (by omega)  dX9_about_128 ?_
          refine lv_iload_n hx hb dX9_about_131 rfl (lv_at hl 1 rfl) ?_
          obtain ⟨g33, hF⟩ := gi_t hF
          refine ld_marr hC hw (by omega) (show 31 ≤ 33 ∧ 33 ≤ 36 by decide) g33 dX9_about_132 ?_
          refine lv_goto (tgt := 148) hx hb dX9_about_133 (by decide) ?_
          exact m_iret hC hr hlk hw hS dX9_about_148 hF
      have hF := it_f h16 hF
      by_cases h17 : x0 = (13 : Int32)
      · have hF := it_t h17 hF
        refine lv_tableIn (tgt := 121) (off := 94) hx hb dX9_about_27 (by rw [h17]; decide) (by rw [h17]; decide) (by rw [h17]; rfl) (by decide) ?_
        refine lv_iload_n hx hb dX9_about_121 rfl (lv_at hl 1 rfl) ?_
        refine lv_bipush (v := 6) hx hb dX9_about_122 (by decide) ?_
        refine lv_icmp_ge (tgt := 136) hx hb dX9_about_124 (by decide) (fun h34 => ?_) (fun h34 => ?_)
        · have hF := it_t h34 hF
          refine lv_aload_n hx hb dX9_about_136 rfl (lv_at hl 0 rfl) ?_
          refine gX9_23 hC hw (by omega)  dX9_about_137 ?_
          refine lv_bipush (v := 7) hx hb dX9_about_140 (by decide) ?_
          refine lv_iload_n hx hb dX9_about_142 rfl (lv_at hl 1 rfl) ?_
          refine lv_iadd hx hb dX9_about_143 ?_
          refine lv_bipush (v := 10) hx hb dX9_about_144 (by decide) ?_
          refine lv_isub hx hb dX9_about_146 ?_
          obtain ⟨g35, hF⟩ := gi_t hF
          refine ld_marr hC hw (by omega) (show 31 ≤ 33 ∧ 33 ≤ 36 by decide) g35 dX9_about_147 ?_
          exact m_iret hC hr hlk hw hS dX9_about_148 hF
        · have hF := it_f h34 hF
          refine lv_aload_n hx hb dX9_about_127 rfl (lv_at hl 0 rfl) ?_
          refine gX9_23 hC hw (by omega)  dX9_about_128 ?_
          refine lv_iload_n hx hb dX9_about_131 rfl (lv_at hl 1 rfl) ?_
          obtain ⟨g36, hF⟩ := gi_t hF
          refine ld_marr hC hw (by omega) (show 31 ≤ 33 ∧ 33 ≤ 36 by decide) g36 dX9_about_132 ?_
          refine lv_goto (tgt := 148) hx hb dX9_about_133 (by decide) ?_
          exact m_iret hC hr hlk hw hS dX9_about_148 hF
      have hF := it_f h17 hF
      by_cases h18 : x0 = (14 : Int32)
      · have hF := it_t h18 hF
        refine lv_tableIn (tgt := 121) (off := 94) hx hb dX9_about_27 (by rw [h18]; decide) (by rw [h18]; decide) (by rw [h18]; rfl) (by decide) ?_
        refine lv_iload_n hx hb dX9_about_121 rfl (lv_at hl 1 rfl) ?_
        refine lv_bipush (v := 6) hx hb dX9_about_122 (by decide) ?_
        refine lv_icmp_ge (tgt := 136) hx hb dX9_about_124 (by decide) (fun h37 => ?_) (fun h37 => ?_)
        · have hF := it_t h37 hF
          refine lv_aload_n hx hb dX9_about_136 rfl (lv_at hl 0 rfl) ?_
          refine gX9_23 hC hw (by omega)  dX9_about_137 ?_
          refine lv_bipush (v := 7) hx hb dX9_about_140 (by decide) ?_
          refine lv_iload_n hx hb dX9_about_142 rfl (lv_at hl 1 rfl) ?_
          refine lv_iadd hx hb dX9_about_143 ?_
          refine lv_bipush (v := 10) hx hb dX9_about_144 (by decide) ?_
          refine lv_isub hx hb dX9_about_146 ?_
          obtain ⟨g38, hF⟩ := gi_t hF
          refine ld_marr hC hw (by omega) (show 31 ≤ 33 ∧ 33 ≤ 36 by decide) g38 dX9_about_147 ?_
          exact m_iret hC hr hlk hw hS dX9_about_148 hF
        · have hF := it_f h37 hF
          refine lv_aload_n hx hb dX9_about_127 rfl (lv_at hl 0 rfl) ?_
          refine gX9_23 hC hw (by omega)  dX9_about_128 ?_
          refine lv_iload_n hx hb dX9_about_131 rfl (lv_at hl 1 rfl) ?_
          obtain ⟨g39, hF⟩ := gi_t hF
          refine ld_marr hC hw (by omega) (show 31 ≤ 33 ∧ 33 ≤ 36 by decide) g39 dX9_about_132 ?_
          refine lv_goto (tgt := 148) hx hb dX9_about_133 (by decide) ?_
          exact m_iret hC hr hlk hw hS dX9_about_148 hF
      have hF := it_f h18 hF
      by_cases h19 : x0 = (15 : Int32)
      · have hF := it_t h19 hF
        refine lv_tableIn (tgt := 121) (off := 94) hx hb dX9_about_27 (by rw [h19]; decide) (by rw [h19]; decide) (by rw [h19]; rfl) (by decide) ?_
        refine lv_iload_n hx hb dX9_about_121 rfl (lv_at hl 1 rfl) ?_
        refine lv_bipush (v := 6) hx hb dX9_about_122 (by decide) ?_
        refine lv_icmp_ge (tgt := 136) hx hb dX9_about_124 (by decide) (fun h40 => ?_) (fun h40 => ?_)
        · have hF := it_t h40 hF
          refine lv_aload_n hx hb dX9_about_136 rfl (lv_at hl 0 rfl) ?_
          refine gX9_23 hC hw (by omega)  dX9_about_137 ?_
          refine lv_bipush (v := 7) hx hb dX9_about_140 (by decide) ?_
          refine lv_iload_n hx hb dX9_about_142 rfl (lv_at hl 1 rfl) ?_
          refine lv_iadd hx hb dX9_about_143 ?_
          refine lv_bipush (v := 10) hx hb dX9_about_144 (by decide) ?_
          refine lv_isub hx hb dX9_about_146 ?_
          obtain ⟨g41, hF⟩ := gi_t hF
          refine ld_marr hC hw (by omega) (show 31 ≤ 33 ∧ 33 ≤ 36 by decide) g41 dX9_about_147 ?_
          exact m_iret hC hr hlk hw hS dX9_about_148 hF
        · have hF := it_f h40 hF
          refine lv_aload_n hx hb dX9_about_127 rfl (lv_at hl 0 rfl) ?_
          refine gX9_23 hC hw (by omega)  dX9_about_128 ?_
          refine lv_iload_n hx hb dX9_about_131 rfl (lv_at hl 1 rfl) ?_
          obtain ⟨g42, hF⟩ := gi_t hF
          refine ld_marr hC hw (by omega) (show 31 ≤ 33 ∧ 33 ≤ 36 by decide) g42 dX9_about_132 ?_
          refine lv_goto (tgt := 148) hx hb dX9_about_133 (by decide) ?_
          exact m_iret hC hr hlk hw hS dX9_about_148 hF
      have hF := it_f h19 hF
      by_cases h20 : x0 = (16 : Int32)
      · have hF := it_t h20 hF
        refine lv_tableIn (tgt := 111) (off := 84) hx hb dX9_about_27 (by rw [h20]; decide) (by rw [h20]; decide) (by rw [h20]; rfl) (by decide) ?_
        refine lv_aload_n hx hb dX9_about_111 rfl (lv_at hl 0 rfl) ?_
        refine lv_aload_n hx hb dX9_about_112 rfl (lv_at hl 0 rfl) ?_
        refine gX9_23 hC hw (by omega)  dX9_about_113 ?_
        refine lv_iconst (v := 2) hx hb dX9_about_116 (by decide) ?_
        obtain ⟨r43, C44, hc45, hF⟩ := b2_t hF
        refine call_Vi hC (c_X9_count l G n (by omega) hn2 33 (show 31 ≤ 33 ∧ 33 ≤ 36 by decide) (2 : Int32) _ _ _ hc45) wvX9_165 ⟨rfl, rfl, by decide, by decide⟩ hw hS (by omega) ca_model rfl hl.1 rfl (rest := []) rfl (Nat.le_of_ble_eq_true rfl) dX9_about_117 ⟨by decide, by decide⟩ (fun H locs hw hS _ => ?_)
        exact m_iret hC hr hlk hw hS dX9_about_120 hF
      have hF := it_f h20 hF
      refine lv_tableOut (tgt := 121) hx hb dX9_about_27 (sw_out (fun k ka kb kc => by (have kd : k = 6 ∨ k = 7 ∨ k = 8 ∨ k = 9 ∨ k = 10 ∨ k = 11 ∨ k = 12 ∨ k = 13 ∨ k = 14 ∨ k = 15 ∨ k = 16 := by omega); exact kd.elim (fun kd => by subst kd; exact lv_neT h10 (by decide) kc) (fun kd => kd.elim (fun kd => by subst kd; exact lv_neT h11 (by decide) kc) (fun kd => kd.elim (fun kd => by subst kd; exact lv_neT h12 (by decide) kc) (fun kd => kd.elim (fun kd => by subst kd; exact lv_neT h13 (by decide) kc) (fun kd => kd.elim (fun kd => by subst kd; exact lv_neT h14 (by decide) kc) (fun kd => kd.elim (fun kd => by subst kd; exact lv_neT h15 (by decide) kc) (fun kd => kd.elim (fun kd => by subst kd; exact lv_neT h16 (by decide) kc) (fun kd => kd.elim (fun kd => by subst kd; exact lv_neT h17 (by decide) kc) (fun kd => kd.elim (fun kd => by subst kd; exact lv_neT h18 (by decide) kc) (fun kd => kd.elim (fun kd => by subst kd; exact lv_neT h19 (by decide) kc) (fun kd => (by subst kd; exact lv_neT h20 (by decide) kc))))))))))))) (by decide) ?_
      refine lv_iload_n hx hb dX9_about_121 rfl (lv_at hl 1 rfl) ?_
      refine lv_bipush (v := 6) hx hb dX9_about_122 (by decide) ?_
      refine lv_icmp_ge (tgt := 136) hx hb dX9_about_124 (by decide) (fun h46 => ?_) (fun h46 => ?_)
      · have hF := it_t h46 hF
        refine lv_aload_n hx hb dX9_about_136 rfl (lv_at hl 0 rfl) ?_
        refine gX9_23 hC hw (by omega)  dX9_about_137 ?_
        refine lv_bipush (v := 7) hx hb dX9_about_140 (by decide) ?_
        refine lv_iload_n hx hb dX9_about_142 rfl (lv_at hl 1 rfl) ?_
        refine lv_iadd hx hb dX9_about_143 ?_
        refine lv_bipush (v := 10) hx hb dX9_about_144 (by decide) ?_
        refine lv_isub hx hb dX9_about_146 ?_
        obtain ⟨g47, hF⟩ := gi_t hF
        refine ld_marr hC hw (by omega) (show 31 ≤ 33 ∧ 33 ≤ 36 by decide) g47 dX9_about_147 ?_
        exact m_iret hC hr hlk hw hS dX9_about_148 hF
      · have hF := it_f h46 hF
        refine lv_aload_n hx hb dX9_about_127 rfl (lv_at hl 0 rfl) ?_
        refine gX9_23 hC hw (by omega)  dX9_about_128 ?_
        refine lv_iload_n hx hb dX9_about_131 rfl (lv_at hl 1 rfl) ?_
        obtain ⟨g48, hF⟩ := gi_t hF
        refine ld_marr hC hw (by omega) (show 31 ≤ 33 ∧ 33 ≤ 36 by decide) g48 dX9_about_132 ?_
        refine lv_goto (tgt := 148) hx hb dX9_about_133 (by decide) ?_
        exact m_iret hC hr hlk hw hS dX9_about_148 hF
    · have hF := it_f h9 hF
      refine lv_iconst (v := 0) hx hb dX9_about_24 (by decide) ?_
      exact m_iret hC hr hlk hw hS dX9_about_25 hF
  refine lv_if_eq (tgt := 17) hx hb dX9_about_10 (by decide) (fun h4 => ?_) (fun h4 => ?_)
  · have hF := it_t h4 hF
    refine lv_iconst (v := 1) hx hb dX9_about_17 (by decide) ?_
    exact hJ18 (1 : Int32) _ _ _ hF hw hS (lv_sub hl [0, 1] rfl)
  · have hF := it_f h4 hF
    refine lv_iconst (v := 0) hx hb dX9_about_13 (by decide) ?_
    refine lv_goto (tgt := 18) hx hb dX9_about_14 (by decide) ?_
    exact hJ18 (0 : Int32) _ _ _ hF hw hS (lv_sub hl [0, 1] rfl)
set_option maxHeartbeats 4000000 in
set_option maxRecDepth 100000 in
theorem c_X9_boiler (l : Launch) (G : GG) (n : Nat) (hn : 252 ≤ n) (hn2 : n ≤ 253) (x0 : Int32) (x1 : Int32) (C : Mem) (rR : Int32) (CR : Mem) (hF : F_X9_boiler x0 x1 C = some (rR, CR)) : Ct l yX9_boiler cX9_boiler 3 (some .int) (rmN 3 67) G n C [.ref (bb G + 244), .int x0, .int x1] (some (.int rR)) CR := by
  refine Ct.of (by decide) (Nat.le_of_ble_eq_true rfl) ?_
  intro p e s m below meth c ls hC hr hlk hw hl
  have hx := hC.1
  have hb := hC.2.1
  have hS : LW G s s.heap [] := va_S.rf
  have hl : lv_has ls 3 [(0, .ref (bb G + 244)), (1, .int x0), (2, .int x1)] := hl
  unfold F_X9_boiler at hF
  refine lv_aload_n hx hb dX9_boiler_0 rfl (lv_at hl 0 rfl) ?_
  refine lv_aload_n hx hb dX9_boiler_1 rfl (lv_at hl 0 rfl) ?_
  refine lv_iload_n hx hb dX9_boiler_2 rfl (lv_at hl 1 rfl) ?_
  obtain ⟨r1, C2, hc3, hF⟩ := b2_t hF
  refine call_Vi hC (c_X9_isBoiler l G n (by omega) hn2 x0 _ _ _ hc3) wvX9_168 ⟨rfl, rfl, by decide, by decide⟩ hw hS (by omega) ca_model rfl hl.1 rfl (rest := [.ref (bb G + 244)]) rfl (Nat.le_of_ble_eq_true rfl) dX9_boiler_3 ⟨by decide, by decide⟩ (fun H locs hw hS _ => ?_)
  have hJ30 : ∀ (v5 : Int32) (C6 : Mem) (H : Heap) (locs : List Loc) (ls : Array Slot), J_X9_boiler_30 x0 x1 v5 C6 = some (rR, CR) → Wd G n C6 H → LW G s H locs → lv_has ls 3 [(0, .ref (bb G + 244)), (1, .int x0), (2, .int x1)] → W p l e (rmN 3 67) s m ([.ref (bb G + 244), .int x0, .int x1] : List Value).toArray below meth c H locs 0 0 (MQ below (QR G n (some (.int rR)) CR) ([.ref (bb G + 244), .int x0, .int x1] : List Value).toArray s 0 0 (frA G)) (F0 m 30 ls [.int v5, .ref (bb G + 244)]) := by
    intro v5 C6 H locs ls hF hw hS hl
    unfold J_X9_boiler_30 at hF
    obtain ⟨r7, C8, hc9, hF⟩ := b2_t hF
    refine call_Vi hC (c_X9_refused l G n (by omega) hn2 v5 _ _ _ hc9) wvX9_127 ⟨rfl, rfl, by decide, by decide⟩ hw hS (by omega) ca_model rfl hl.1 rfl (rest := []) rfl (Nat.le_of_ble_eq_true rfl) dX9_boiler_30 ⟨by decide, by decide⟩ (fun H locs hw hS _ => ?_)
    refine lv_if_eq (tgt := 38) hx hb dX9_boiler_33 (by decide) (fun h10 => ?_) (fun h10 => ?_)
    · have hF := it_t h10 hF
      refine lv_iload_n hx hb dX9_boiler_38 rfl (lv_at hl 2 rfl) ?_
      refine lv_bipush (v := 7) hx hb dX9_boiler_39 (by decide) ?_
      refine lv_icmp_ge (tgt := 58) hx hb dX9_boiler_41 (by decide) (fun h11 => ?_) (fun h11 => ?_)
      · have hF := it_t h11 hF
        refine lv_aload_n hx hb dX9_boiler_58 rfl (lv_at hl 0 rfl) ?_
        refine lv_aload_n hx hb dX9_boiler_59 rfl (lv_at hl 0 rfl) ?_
        refine gX9_23 hC hw (by omega)  dX9_boiler_60 ?_
        refine lv_iload_n hx hb dX9_boiler_63 rfl (lv_at hl 1 rfl) ?_
        obtain ⟨r12, C13, hc14, hF⟩ := b2_t hF
        refine call_Vi hC (c_X9_canStart l G n (by omega) hn2 33 (show 31 ≤ 33 ∧ 33 ≤ 36 by decide) x0 _ _ _ hc14) wvX9_83 ⟨rfl, rfl, by decide, by decide⟩ hw hS (by omega) ca_model rfl hl.1 rfl (rest := []) rfl (Nat.le_of_ble_eq_true rfl) dX9_boiler_64 ⟨by decide, by decide⟩ (fun H locs hw hS _ => ?_)
        refine lv_if_eq (tgt := 74) hx hb dX9_boiler_67 (by decide) (fun h15 => ?_) (fun h15 => ?_)
        · have hF := it_t h15 hF
          refine lv_iconst (v := 0) hx hb dX9_boiler_74 (by decide) ?_
          exact m_iret hC hr hlk hw hS dX9_boiler_75 hF
        · have hF := it_f h15 hF
          refine lv_iconst (v := 1) hx hb dX9_boiler_70 (by decide) ?_
          refine lv_goto (tgt := 75) hx hb dX9_boiler_71 (by decide) ?_
          exact m_iret hC hr hlk hw hS dX9_boiler_75 hF
      · have hF := it_f h11 hF
        refine lv_aload_n hx hb dX9_boiler_44 rfl (lv_at hl 0 rfl) ?_
        refine gX9_23 hC hw (by omega)  dX9_boiler_45 ?_
        refine lv_iload_n hx hb dX9_boiler_48 rfl (lv_at hl 1 rfl) ?_
        obtain ⟨r16, C17, hc18, hF⟩ := b2_t hF
        refine call_Si hC (c_X9_at l G n (by omega) hn2 x0 _ _ _ hc18) wsX9_68 ⟨rfl, rfl, by decide, by decide⟩ hw hS hl.1 rfl (rest := [.ref (bb G + (33 + 214))]) rfl (Nat.le_of_ble_eq_true rfl) dX9_boiler_49 ⟨by decide, by decide⟩ (fun H locs hw hS _ => ?_)
        refine lv_iload_n hx hb dX9_boiler_52 rfl (lv_at hl 2 rfl) ?_
        refine lv_iadd hx hb dX9_boiler_53 ?_
        obtain ⟨g19, hF⟩ := gi_t hF
        refine ld_marr hC hw (by omega) (show 31 ≤ 33 ∧ 33 ≤ 36 by decide) g19 dX9_boiler_54 ?_
        refine lv_goto (tgt := 75) hx hb dX9_boiler_55 (by decide) ?_
        exact m_iret hC hr hlk hw hS dX9_boiler_75 hF
    · have hF := it_f h10 hF
      refine lv_iconst (v := 0) hx hb dX9_boiler_36 (by decide) ?_
      exact m_iret hC hr hlk hw hS dX9_boiler_37 hF
  refine lv_if_ne (tgt := 13) hx hb dX9_boiler_6 (by decide) (fun h4 => ?_) (fun h4 => ?_)
  · have hF := it_f h4 hF
    refine lv_iload_n hx hb dX9_boiler_13 rfl (lv_at hl 2 rfl) ?_
    refine lv_i2l (v := (x1).toInt64) hx hb dX9_boiler_14 rfl ?_
    refine lv_lconst (v := 0) hx hb dX9_boiler_15 (by decide) ?_
    refine lv_ldc2 (v := 7) hx hb hC.2.2.2.1 (hC.2.2.2.2.1 _ kcX9_171) dX9_boiler_16 ?_
    obtain ⟨r20, C21, hc22, hF⟩ := b2_t hF
    refine call_Si hC (c_X9_in l G n (by omega) hn2 ((x1).toInt64) (0 : Int64) (7 : Int64) _ _ _ hc22) wsX9_50 ⟨rfl, rfl, by decide, by decide⟩ hw hS hl.1 rfl (rest := [.ref (bb G + 244)]) rfl (Nat.le_of_ble_eq_true rfl) dX9_boiler_19 ⟨by decide, by decide⟩ (fun H locs hw hS _ => ?_)
    refine lv_if_ne (tgt := 29) hx hb dX9_boiler_22 (by decide) (fun h23 => ?_) (fun h23 => ?_)
    · have hF := it_f h23 hF
      refine lv_iconst (v := 0) hx hb dX9_boiler_29 (by decide) ?_
      exact hJ30 (0 : Int32) C21 _ _ _ hF hw hS (lv_sub hl [0, 1, 2] rfl)
    · have hF := it_t h23 hF
      refine lv_iconst (v := 2) hx hb dX9_boiler_25 (by decide) ?_
      refine lv_goto (tgt := 30) hx hb dX9_boiler_26 (by decide) ?_
      exact hJ30 (2 : Int32) C21 _ _ _ hF hw hS (lv_sub hl [0, 1, 2] rfl)
  · have hF := it_t h4 hF
    refine lv_iconst (v := 1) hx hb dX9_boiler_9 (by decide) ?_
    refine lv_goto (tgt := 30) hx hb dX9_boiler_10 (by decide) ?_
    exact hJ30 (1 : Int32) C2 _ _ _ hF hw hS (lv_sub hl [0, 1, 2] rfl)
set_option maxHeartbeats 4000000 in
set_option maxRecDepth 100000 in
theorem c_X9_flue (l : Launch) (G : GG) (n : Nat) (hn : 252 ≤ n) (hn2 : n ≤ 253) (x0 : Int32) (x1 : Int32) (C : Mem) (rR : Int32) (CR : Mem) (hF : F_X9_flue x0 x1 C = some (rR, CR)) : Ct l yX9_flue cX9_flue 5 (some .int) (rmN 2 44) G n C [.ref (bb G + 244), .int x0, .int x1] (some (.int rR)) CR := by
  refine Ct.of (by decide) (Nat.le_of_ble_eq_true rfl) ?_
  intro p e s m below meth c ls hC hr hlk hw hl
  have hx := hC.1
  have hb := hC.2.1
  have hS : LW G s s.heap [] := va_S.rf
  have hl : lv_has ls 5 [(0, .ref (bb G + 244)), (1, .int x0), (2, .int x1)] := hl
  unfold F_X9_flue at hF
  refine lv_aload_n hx hb dX9_flue_0 rfl (lv_at hl 0 rfl) ?_
  refine lv_iload_n hx hb dX9_flue_1 rfl (lv_at hl 1 rfl) ?_
  refine lv_i2l (v := (x0).toInt64) hx hb dX9_flue_2 rfl ?_
  refine lv_lconst (v := 0) hx hb dX9_flue_3 (by decide) ?_
  refine lv_lconst (v := 1) hx hb dX9_flue_4 (by decide) ?_
  obtain ⟨r1, C2, hc3, hF⟩ := b2_t hF
  refine call_Si hC (c_X9_in l G n (by omega) hn2 ((x0).toInt64) (0 : Int64) (1 : Int64) _ _ _ hc3) wsX9_50 ⟨rfl, rfl, by decide, by decide⟩ hw hS hl.1 rfl (rest := [.ref (bb G + 244)]) rfl (Nat.le_of_ble_eq_true rfl) dX9_flue_5 ⟨by decide, by decide⟩ (fun H locs hw hS _ => ?_)
  have hJ32 : ∀ (v5 : Int32) (C6 : Mem) (H : Heap) (locs : List Loc) (ls : Array Slot), J_X9_flue_32 x0 x1 v5 C6 = some (rR, CR) → Wd G n C6 H → LW G s H locs → lv_has ls 5 [(0, .ref (bb G + 244)), (1, .int x0), (2, .int x1)] → W p l e (rmN 2 44) s m ([.ref (bb G + 244), .int x0, .int x1] : List Value).toArray below meth c H locs 0 0 (MQ below (QR G n (some (.int rR)) CR) ([.ref (bb G + 244), .int x0, .int x1] : List Value).toArray s 0 0 (frA G)) (F0 m 32 ls [.int v5, .ref (bb G + 244)]) := by
    intro v5 C6 H locs ls hF hw hS hl
    unfold J_X9_flue_32 at hF
    obtain ⟨r7, C8, hc9, hF⟩ := b2_t hF
    refine call_Vi hC (c_X9_refused l G n (by omega) hn2 v5 _ _ _ hc9) wvX9_127 ⟨rfl, rfl, by decide, by decide⟩ hw hS (by omega) ca_model rfl hl.1 rfl (rest := []) rfl (Nat.le_of_ble_eq_true rfl) dX9_flue_32 ⟨by decide, by decide⟩ (fun H locs hw hS _ => ?_)
    refine lv_if_eq (tgt := 40) hx hb dX9_flue_35 (by decide) (fun h10 => ?_) (fun h10 => ?_)
    · have hF := it_t h10 hF
      refine lv_iconst (v := 0) hx hb dX9_flue_40 (by decide) ?_
      refine lv_istore_n (lv' := [(3, .int (0 : Int32)), (0, .ref (bb G + 244)), (1, .int x0), (2, .int x1)]) hx hb dX9_flue_41 rfl hl (by decide) rfl (fun ls hl => ?_)
      refine lv_iconst (v := 0) hx hb dX9_flue_42 (by decide) ?_
      refine lv_istore (lv' := [(4, .int (0 : Int32)), (3, .int (0 : Int32)), (0, .ref (bb G + 244)), (1, .int x0), (2, .int x1)]) hx hb dX9_flue_43 hl (by decide) rfl (fun ls hl => ?_)
      obtain ⟨o14, hit14, hG14⟩ := b1_t hF
      have hR14 : ∀ (v15 : Int32) (v16 : Int32) (C17 : Mem) (H : Heap) (locs : List Loc) (ls : Array Slot), o14 = (v15, v16, C17) → Wd G n C17 H → LW G s H locs → lv_has ls 5 [(0, .ref (bb G + 244)), (1, .int x0), (2, .int x1), (3, .int v15)] → W p l e (rmN 2 44) s m ([.ref (bb G + 244), .int x0, .int x1] : List Value).toArray below meth c H locs 0 0 (MQ below (QR G n (some (.int rR)) CR) ([.ref (bb G + 244), .int x0, .int x1] : List Value).toArray s 0 0 (frA G)) (F0 m 84 ls []) := by
        intro v15 v16 C17 H locs ls hE hw hS hl
        subst hE
        have hF := u3_t (hG14)
        refine lv_iload_n hx hb dX9_flue_84 rfl (lv_at hl 2 rfl) ?_
        refine lv_if_ne (tgt := 100) hx hb dX9_flue_85 (by decide) (fun h28 => ?_) (fun h28 => ?_)
        · have hF := it_f h28 hF
          refine lv_iload_n hx hb dX9_flue_100 rfl (lv_at hl 2 rfl) ?_
          refine lv_iconst (v := 1) hx hb dX9_flue_101 (by decide) ?_
          refine lv_icmp_ne (tgt := 117) hx hb dX9_flue_102 (by decide) (fun h29 => ?_) (fun h29 => ?_)
          · have hF := it_f h29 hF
            refine lv_iload_n hx hb dX9_flue_117 rfl (lv_at hl 2 rfl) ?_
            refine lv_iconst (v := 2) hx hb dX9_flue_118 (by decide) ?_
            refine lv_icmp_ne (tgt := 134) hx hb dX9_flue_119 (by decide) (fun h30 => ?_) (fun h30 => ?_)
            · have hF := it_f h30 hF
              refine lv_iload_n hx hb dX9_flue_134 rfl (lv_at hl 3 rfl) ?_
              exact m_iret hC hr hlk hw hS dX9_flue_135 hF
            · have hF := it_t h30 hF
              refine lv_aload_n hx hb dX9_flue_122 rfl (lv_at hl 0 rfl) ?_
              refine gX9_23 hC hw (by omega)  dX9_flue_123 ?_
              refine lv_bipush (v := 20) hx hb dX9_flue_126 (by decide) ?_
              refine lv_iload_n hx hb dX9_flue_128 rfl (lv_at hl 1 rfl) ?_
              refine lv_iadd hx hb dX9_flue_129 ?_
              obtain ⟨g31, hF⟩ := gi_t hF
              refine ld_marr hC hw (by omega) (show 31 ≤ 33 ∧ 33 ≤ 36 by decide) g31 dX9_flue_130 ?_
              refine lv_goto (tgt := 135) hx hb dX9_flue_131 (by decide) ?_
              exact m_iret hC hr hlk hw hS dX9_flue_135 hF
          · have hF := it_t h29 hF
            refine lv_aload_n hx hb dX9_flue_105 rfl (lv_at hl 0 rfl) ?_
            refine lv_aload_n hx hb dX9_flue_106 rfl (lv_at hl 0 rfl) ?_
            refine gX9_23 hC hw (by omega)  dX9_flue_107 ?_
            refine lv_iload_n hx hb dX9_flue_110 rfl (lv_at hl 1 rfl) ?_
            obtain ⟨r32, C33, hc34, hF⟩ := b2_t hF
            refine call_Vi hC (c_X9_use l G n (by omega) hn2 33 (show 31 ≤ 33 ∧ 33 ≤ 36 by decide) x0 _ _ _ hc34) wvX9_76 ⟨rfl, rfl, by decide, by decide⟩ hw hS (by omega) ca_model rfl hl.1 rfl (rest := []) rfl (Nat.le_of_ble_eq_true rfl) dX9_flue_111 ⟨by decide, by decide⟩ (fun H locs hw hS _ => ?_)
            refine lv_goto (tgt := 135) hx hb dX9_flue_114 (by decide) ?_
            exact m_iret hC hr hlk hw hS dX9_flue_135 hF
        · have hF := it_t h28 hF
          refine lv_aload_n hx hb dX9_flue_88 rfl (lv_at hl 0 rfl) ?_
          refine gX9_23 hC hw (by omega)  dX9_flue_89 ?_
          refine lv_bipush (v := 18) hx hb dX9_flue_92 (by decide) ?_
          refine lv_iload_n hx hb dX9_flue_94 rfl (lv_at hl 1 rfl) ?_
          refine lv_iadd hx hb dX9_flue_95 ?_
          obtain ⟨g35, hF⟩ := gi_t hF
          refine ld_marr hC hw (by omega) (show 31 ≤ 33 ∧ 33 ≤ 36 by decide) g35 dX9_flue_96 ?_
          refine lv_goto (tgt := 135) hx hb dX9_flue_97 (by decide) ?_
          exact m_iret hC hr hlk hw hS dX9_flue_135 hF
      refine iter_sound (P := fun x : Int32 × Int32 × Mem => ∀ (H : Heap) (locs : List Loc) (ls : Array Slot), Wd G n x.2.2 H → LW G s H locs → lv_has ls 5 [(0, .ref (bb G + 244)), (1, .int x0), (2, .int x1), (3, .int x.1), (4, .int x.2.1)] → W p l e (rmN 2 44) s m ([.ref (bb G + 244), .int x0, .int x1] : List Value).toArray below meth c H locs 0 0 (MQ below (QR G n (some (.int rR)) CR) ([.ref (bb G + 244), .int x0, .int x1] : List Value).toArray s 0 0 (frA G)) (F0 m 45 ls [])) (X := fun r => r = o14) ?_ fuel ((0 : Int32), (0 : Int32), C8) o14 hit14 rfl _ _ _ hw hS (lv_sub hl [2, 3, 4, 1, 0] rfl)
      intro x oo14 hF hk14 hX14 H locs ls hw hS hl
      obtain ⟨v11, v12, C13⟩ := x
      have hF : S_X9_flue_45 x0 v11 v12 C13 = some oo14 := hF
      have hw : Wd G n C13 H := hw
      have hl : lv_has ls 5 [(0, .ref (bb G + 244)), (1, .int x0), (2, .int x1), (3, .int v11), (4, .int v12)] := hl
      unfold S_X9_flue_45 at hF
      refine lv_iload hx hb dX9_flue_45 (lv_at hl 4 rfl) ?_
      refine lv_aload_n hx hb dX9_flue_47 rfl (lv_at hl 0 rfl) ?_
      refine gX9_13 hC hw (by omega)  dX9_flue_48 ?_
      refine lv_icmp_ge (tgt := 84) hx hb dX9_flue_51 (by decide) (fun h18 => ?_) (fun h18 => ?_)
      · have hF := it_t h18 hF
        exact hR14 _ _ _ _ _ _ (it_exit hF hX14).symm hw hS (lv_sub hl [0, 1, 2, 3] rfl)
      · have hF := it_f h18 hF
        refine lv_iload_n hx hb dX9_flue_54 rfl (lv_at hl 3 rfl) ?_
        refine lv_aload_n hx hb dX9_flue_55 rfl (lv_at hl 0 rfl) ?_
        refine gX9_23 hC hw (by omega)  dX9_flue_56 ?_
        refine lv_iload hx hb dX9_flue_59 (lv_at hl 4 rfl) ?_
        obtain ⟨r19, C20, hc21, hF⟩ := b2_t hF
        refine call_Si hC (c_X9_at l G n (by omega) hn2 v12 _ _ _ hc21) wsX9_68 ⟨rfl, rfl, by decide, by decide⟩ hw hS hl.1 rfl (rest := [.ref (bb G + (33 + 214)), .int v11]) rfl (Nat.le_of_ble_eq_true rfl) dX9_flue_61 ⟨by decide, by decide⟩ (fun H locs hw hS _ => ?_)
        refine lv_iconst (v := 1) hx hb dX9_flue_64 (by decide) ?_
        refine lv_iadd hx hb dX9_flue_65 ?_
        obtain ⟨g22, hF⟩ := gi_t hF
        refine ld_marr hC hw (by omega) (show 31 ≤ 33 ∧ 33 ≤ 36 by decide) g22 dX9_flue_66 ?_
        refine lv_iload_n hx hb dX9_flue_67 rfl (lv_at hl 1 rfl) ?_
        refine lv_icmp_ne (tgt := 75) hx hb dX9_flue_68 (by decide) (fun h23 => ?_) (fun h23 => ?_)
        · have hF := it_f h23 hF
          refine lv_iconst (v := 0) hx hb dX9_flue_75 (by decide) ?_
          refine lv_iadd hx hb dX9_flue_76 ?_
          obtain ⟨v24, ev24, hF⟩ := nm_t hF
          refine lv_nmi ev24 ?_
          refine lv_istore_n (lv' := [(3, .int v24), (0, .ref (bb G + 244)), (1, .int x0), (2, .int x1), (4, .int v12)]) hx hb dX9_flue_77 rfl hl (by decide) rfl (fun ls hl => ?_)
          obtain ⟨v25, ev25, hF⟩ := nm_t hF
          refine lv_iinc (v := v25) (lv' := [(4, .int v25), (3, .int v24), (0, .ref (bb G + 244)), (1, .int x0), (2, .int x1)]) hx hb dX9_flue_78 hl (k := 4) rfl (by rw [ev25]; rfl) (by decide) rfl (fun ls hl => ?_)
          refine lv_goto (tgt := 45) hx hb dX9_flue_81 (by decide) ?_
          exact it_back hF hk14 _ _ _ hw hS (lv_sub hl [2, 3, 4, 1, 0] rfl)
        · have hF := it_t h23 hF
          refine lv_iconst (v := 1) hx hb dX9_flue_71 (by decide) ?_
          refine lv_goto (tgt := 76) hx hb dX9_flue_72 (by decide) ?_
          refine lv_iadd hx hb dX9_flue_76 ?_
          obtain ⟨v26, ev26, hF⟩ := nm_t hF
          refine lv_nmi ev26 ?_
          refine lv_istore_n (lv' := [(3, .int v26), (0, .ref (bb G + 244)), (1, .int x0), (2, .int x1), (4, .int v12)]) hx hb dX9_flue_77 rfl hl (by decide) rfl (fun ls hl => ?_)
          obtain ⟨v27, ev27, hF⟩ := nm_t hF
          refine lv_iinc (v := v27) (lv' := [(4, .int v27), (3, .int v26), (0, .ref (bb G + 244)), (1, .int x0), (2, .int x1)]) hx hb dX9_flue_78 hl (k := 4) rfl (by rw [ev27]; rfl) (by decide) rfl (fun ls hl => ?_)
          refine lv_goto (tgt := 45) hx hb dX9_flue_81 (by decide) ?_
          exact it_back hF hk14 _ _ _ hw hS (lv_sub hl [2, 3, 4, 1, 0] rfl)
    · have hF := it_f h10 hF
      refine lv_iconst (v := 0) hx hb dX9_flue_38 (by decide) ?_
      exact m_iret hC hr hlk hw hS dX9_flue_39 hF
  refine lv_if_ne (tgt := 15) hx hb dX9_flue_8 (by decide) (fun h4 => ?_) (fun h4 => ?_)
  · have hF := it_f h4 hF
    refine lv_iload_n hx hb dX9_flue_15 rfl (lv_at hl 2 rfl) ?_
    refine lv_i2l (v := (x1).toInt64) hx hb dX9_flue_16 rfl ?_
    refine lv_lconst (v := 0) hx hb dX9_flue_17 (by decide) ?_
    refine lv_ldc2 (v := 3) hx hb hC.2.2.2.1 (hC.2.2.2.2.1 _ kcX9_173) dX9_flue_18 ?_
    obtain ⟨r36, C37, hc38, hF⟩ := b2_t hF
    refine call_Si hC (c_X9_in l G n (by omega) hn2 ((x1).toInt64) (0 : Int64) (3 : Int64) _ _ _ hc38) wsX9_50 ⟨rfl, rfl, by decide, by decide⟩ hw hS hl.1 rfl (rest := [.ref (bb G + 244)]) rfl (Nat.le_of_ble_eq_true rfl) dX9_flue_21 ⟨by decide, by decide⟩ (fun H locs hw hS _ => ?_)
    refine lv_if_ne (tgt := 31) hx hb dX9_flue_24 (by decide) (fun h39 => ?_) (fun h39 => ?_)
    · have hF := it_f h39 hF
      refine lv_iconst (v := 0) hx hb dX9_flue_31 (by decide) ?_
      exact hJ32 (0 : Int32) C37 _ _ _ hF hw hS (lv_sub hl [0, 1, 2] rfl)
    · have hF := it_t h39 hF
      refine lv_iconst (v := 2) hx hb dX9_flue_27 (by decide) ?_
      refine lv_goto (tgt := 32) hx hb dX9_flue_28 (by decide) ?_
      exact hJ32 (2 : Int32) C37 _ _ _ hF hw hS (lv_sub hl [0, 1, 2] rfl)
  · have hF := it_t h4 hF
    refine lv_iconst (v := 1) hx hb dX9_flue_11 (by decide) ?_
    refine lv_goto (tgt := 32) hx hb dX9_flue_12 (by decide) ?_
    exact hJ32 (1 : Int32) C2 _ _ _ hF hw hS (lv_sub hl [0, 1, 2] rfl)
set_option maxHeartbeats 4000000 in
set_option maxRecDepth 100000 in
theorem c_X9_layer (l : Launch) (G : GG) (n : Nat) (hn : 252 ≤ n) (hn2 : n ≤ 253) (x0 : Int32) (C : Mem) (rR : Int32) (CR : Mem) (hF : F_X9_layer x0 C = some (rR, CR)) : Ct l yX9_layer cX9_layer 2 (some .int) (rmN 1 25) G n C [.ref (bb G + 244), .int x0] (some (.int rR)) CR := by
  refine Ct.of (by decide) (Nat.le_of_ble_eq_true rfl) ?_
  intro p e s m below meth c ls hC hr hlk hw hl
  have hx := hC.1
  have hb := hC.2.1
  have hS : LW G s s.heap [] := va_S.rf
  have hl : lv_has ls 2 [(0, .ref (bb G + 244)), (1, .int x0)] := hl
  unfold F_X9_layer at hF
  refine lv_aload_n hx hb dX9_layer_0 rfl (lv_at hl 0 rfl) ?_
  refine lv_iload_n hx hb dX9_layer_1 rfl (lv_at hl 1 rfl) ?_
  refine lv_i2l (v := (x0).toInt64) hx hb dX9_layer_2 rfl ?_
  refine lv_lconst (v := 0) hx hb dX9_layer_3 (by decide) ?_
  refine lv_aload_n hx hb dX9_layer_4 rfl (lv_at hl 0 rfl) ?_
  refine gX9_17 hC hw (by omega)  dX9_layer_5 ?_
  refine lv_iconst (v := 1) hx hb dX9_layer_8 (by decide) ?_
  refine lv_isub hx hb dX9_layer_9 ?_
  refine lv_i2l (v := (((C 30 5) - (1 : Int32))).toInt64) hx hb dX9_layer_10 rfl ?_
  obtain ⟨r1, C2, hc3, hF⟩ := b2_t hF
  refine call_Si hC (c_X9_in l G n (by omega) hn2 ((x0).toInt64) (0 : Int64) ((((C 30 5) - (1 : Int32))).toInt64) _ _ _ hc3) wsX9_50 ⟨rfl, rfl, by decide, by decide⟩ hw hS hl.1 rfl (rest := [.ref (bb G + 244)]) rfl (Nat.le_of_ble_eq_true rfl) dX9_layer_11 ⟨by decide, by decide⟩ (fun H locs hw hS _ => ?_)
  have hJ22 : ∀ (v5 : Int32) (H : Heap) (locs : List Loc) (ls : Array Slot), J_X9_layer_22 x0 C2 v5 = some (rR, CR) → Wd G n C2 H → LW G s H locs → lv_has ls 2 [(0, .ref (bb G + 244)), (1, .int x0)] → W p l e (rmN 1 25) s m ([.ref (bb G + 244), .int x0] : List Value).toArray below meth c H locs 0 0 (MQ below (QR G n (some (.int rR)) CR) ([.ref (bb G + 244), .int x0] : List Value).toArray s 0 0 (frA G)) (F0 m 22 ls [.int v5, .ref (bb G + 244)]) := by
    intro v5 H locs ls hF hw hS hl
    unfold J_X9_layer_22 at hF
    obtain ⟨r6, C7, hc8, hF⟩ := b2_t hF
    refine call_Vi hC (c_X9_refused l G n (by omega) hn2 v5 _ _ _ hc8) wvX9_127 ⟨rfl, rfl, by decide, by decide⟩ hw hS (by omega) ca_model rfl hl.1 rfl (rest := []) rfl (Nat.le_of_ble_eq_true rfl) dX9_layer_22 ⟨by decide, by decide⟩ (fun H locs hw hS _ => ?_)
    refine lv_if_eq (tgt := 32) hx hb dX9_layer_25 (by decide) (fun h9 => ?_) (fun h9 => ?_)
    · have hF := it_t h9 hF
      refine lv_aload_n hx hb dX9_layer_32 rfl (lv_at hl 0 rfl) ?_
      refine gX9_23 hC hw (by omega)  dX9_layer_33 ?_
      refine lv_bipush (v := 22) hx hb dX9_layer_36 (by decide) ?_
      refine lv_iload_n hx hb dX9_layer_38 rfl (lv_at hl 1 rfl) ?_
      refine lv_iadd hx hb dX9_layer_39 ?_
      obtain ⟨g10, hF⟩ := gi_t hF
      refine ld_marr hC hw (by omega) (show 31 ≤ 33 ∧ 33 ≤ 36 by decide) g10 dX9_layer_40 ?_
      exact m_iret hC hr hlk hw hS dX9_layer_41 hF
    · have hF := it_f h9 hF
      refine lv_iconst (v := 0) hx hb dX9_layer_28 (by decide) ?_
      refine lv_goto (tgt := 41) hx hb dX9_layer_29 (by decide) ?_
      exact m_iret hC hr hlk hw hS dX9_layer_41 hF
  refine lv_if_eq (tgt := 21) hx hb dX9_layer_14 (by decide) (fun h4 => ?_) (fun h4 => ?_)
  · have hF := it_t h4 hF
    refine lv_iconst (v := 1) hx hb dX9_layer_21 (by decide) ?_
    exact hJ22 (1 : Int32) _ _ _ hF hw hS (lv_sub hl [0, 1] rfl)
  · have hF := it_f h4 hF
    refine lv_iconst (v := 0) hx hb dX9_layer_17 (by decide) ?_
    refine lv_goto (tgt := 22) hx hb dX9_layer_18 (by decide) ?_
    exact hJ22 (0 : Int32) _ _ _ hF hw hS (lv_sub hl [0, 1] rfl)
set_option maxHeartbeats 4000000 in
set_option maxRecDepth 100000 in
theorem c_X9_account (l : Launch) (G : GG) (n : Nat) (hn : 252 ≤ n) (hn2 : n ≤ 253) (x0 : Int32) (C : Mem) (rR : Int32) (CR : Mem) (hF : F_X9_account x0 C = some (rR, CR)) : Ct l yX9_account cX9_account 2 (some .int) (rmN 2 43) G n C [.ref (bb G + 244), .int x0] (some (.int rR)) CR := by
  refine Ct.of (by decide) (Nat.le_of_ble_eq_true rfl) ?_
  intro p e s m below meth c ls hC hr hlk hw hl
  have hx := hC.1
  have hb := hC.2.1
  have hS : LW G s s.heap [] := va_S.rf
  have hl : lv_has ls 2 [(0, .ref (bb G + 244)), (1, .int x0)] := hl
  unfold F_X9_account at hF
  refine lv_aload_n hx hb dX9_account_0 rfl (lv_at hl 0 rfl) ?_
  refine lv_iload_n hx hb dX9_account_1 rfl (lv_at hl 1 rfl) ?_
  refine lv_i2l (v := (x0).toInt64) hx hb dX9_account_2 rfl ?_
  refine lv_lconst (v := 0) hx hb dX9_account_3 (by decide) ?_
  refine lv_ldc2 (v := 5) hx hb hC.2.2.2.1 (hC.2.2.2.2.1 _ kcX9_60) dX9_account_4 ?_
  obtain ⟨r1, C2, hc3, hF⟩ := b2_t hF
  refine call_Si hC (c_X9_in l G n (by omega) hn2 ((x0).toInt64) (0 : Int64) (5 : Int64) _ _ _ hc3) wsX9_50 ⟨rfl, rfl, by decide, by decide⟩ hw hS hl.1 rfl (rest := [.ref (bb G + 244)]) rfl (Nat.le_of_ble_eq_true rfl) dX9_account_7 ⟨by decide, by decide⟩ (fun H locs hw hS _ => ?_)
  have hJ18 : ∀ (v5 : Int32) (H : Heap) (locs : List Loc) (ls : Array Slot), J_X9_account_18 x0 C2 v5 = some (rR, CR) → Wd G n C2 H → LW G s H locs → lv_has ls 2 [(0, .ref (bb G + 244)), (1, .int x0)] → W p l e (rmN 2 43) s m ([.ref (bb G + 244), .int x0] : List Value).toArray below meth c H locs 0 0 (MQ below (QR G n (some (.int rR)) CR) ([.ref (bb G + 244), .int x0] : List Value).toArray s 0 0 (frA G)) (F0 m 18 ls [.int v5, .ref (bb G + 244)]) := by
    intro v5 H locs ls hF hw hS hl
    unfold J_X9_account_18 at hF
    obtain ⟨r6, C7, hc8, hF⟩ := b2_t hF
    refine call_Vi hC (c_X9_refused l G n (by omega) hn2 v5 _ _ _ hc8) wvX9_127 ⟨rfl, rfl, by decide, by decide⟩ hw hS (by omega) ca_model rfl hl.1 rfl (rest := []) rfl (Nat.le_of_ble_eq_true rfl) dX9_account_18 ⟨by decide, by decide⟩ (fun H locs hw hS _ => ?_)
    refine lv_if_eq (tgt := 26) hx hb dX9_account_21 (by decide) (fun h9 => ?_) (fun h9 => ?_)
    · have hF := it_t h9 hF
      refine lv_iload_n hx hb dX9_account_26 rfl (lv_at hl 1 rfl) ?_
      refine lv_iconst (v := 4) hx hb dX9_account_27 (by decide) ?_
      refine lv_icmp_ge (tgt := 43) hx hb dX9_account_28 (by decide) (fun h10 => ?_) (fun h10 => ?_)
      · have hF := it_t h10 hF
        refine lv_iload_n hx hb dX9_account_43 rfl (lv_at hl 1 rfl) ?_
        refine lv_iconst (v := 4) hx hb dX9_account_44 (by decide) ?_
        refine lv_icmp_ne (tgt := 59) hx hb dX9_account_45 (by decide) (fun h11 => ?_) (fun h11 => ?_)
        · have hF := it_f h11 hF
          refine lv_aload_n hx hb dX9_account_59 rfl (lv_at hl 0 rfl) ?_
          refine gX9_23 hC hw (by omega)  dX9_account_60 ?_
          refine lv_bipush (v := 17) hx hb dX9_account_63 (by decide) ?_
          obtain ⟨g12, hF⟩ := gi_t hF
          refine ld_marr hC hw (by omega) (show 31 ≤ 33 ∧ 33 ≤ 36 by decide) g12 dX9_account_65 ?_
          exact m_iret hC hr hlk hw hS dX9_account_66 hF
        · have hF := it_t h11 hF
          refine lv_aload_n hx hb dX9_account_48 rfl (lv_at hl 0 rfl) ?_
          refine lv_aload_n hx hb dX9_account_49 rfl (lv_at hl 0 rfl) ?_
          refine gX9_23 hC hw (by omega)  dX9_account_50 ?_
          obtain ⟨r13, C14, hc15, hF⟩ := b2_t hF
          refine call_Vi hC (c_X9_fuelOf l G n (by omega) hn2 33 (show 31 ≤ 33 ∧ 33 ≤ 36 by decide) _ _ _ hc15) wvX9_175 ⟨rfl, rfl, by decide, by decide⟩ hw hS (by omega) ca_model rfl hl.1 rfl (rest := []) rfl (Nat.le_of_ble_eq_true rfl) dX9_account_53 ⟨by decide, by decide⟩ (fun H locs hw hS _ => ?_)
          refine lv_goto (tgt := 66) hx hb dX9_account_56 (by decide) ?_
          exact m_iret hC hr hlk hw hS dX9_account_66 hF
      · have hF := it_f h10 hF
        refine lv_aload_n hx hb dX9_account_31 rfl (lv_at hl 0 rfl) ?_
        refine gX9_23 hC hw (by omega)  dX9_account_32 ?_
        refine lv_bipush (v := 13) hx hb dX9_account_35 (by decide) ?_
        refine lv_iload_n hx hb dX9_account_37 rfl (lv_at hl 1 rfl) ?_
        refine lv_iadd hx hb dX9_account_38 ?_
        obtain ⟨g16, hF⟩ := gi_t hF
        refine ld_marr hC hw (by omega) (show 31 ≤ 33 ∧ 33 ≤ 36 by decide) g16 dX9_account_39 ?_
        refine lv_goto (tgt := 66) hx hb dX9_account_40 (by decide) ?_
        exact m_iret hC hr hlk hw hS dX9_account_66 hF
    · have hF := it_f h9 hF
      refine lv_iconst (v := 0) hx hb dX9_account_24 (by decide) ?_
      exact m_iret hC hr hlk hw hS dX9_account_25 hF
  refine lv_if_eq (tgt := 17) hx hb dX9_account_10 (by decide) (fun h4 => ?_) (fun h4 => ?_)
  · have hF := it_t h4 hF
    refine lv_iconst (v := 1) hx hb dX9_account_17 (by decide) ?_
    exact hJ18 (1 : Int32) _ _ _ hF hw hS (lv_sub hl [0, 1] rfl)
  · have hF := it_f h4 hF
    refine lv_iconst (v := 0) hx hb dX9_account_13 (by decide) ?_
    refine lv_goto (tgt := 18) hx hb dX9_account_14 (by decide) ?_
    exact hJ18 (0 : Int32) _ _ _ hF hw hS (lv_sub hl [0, 1] rfl)
set_option maxHeartbeats 4000000 in
set_option maxRecDepth 100000 in
theorem c_X9_note (l : Launch) (G : GG) (n : Nat) (hn : 252 ≤ n) (hn2 : n ≤ 253)  (C : Mem) (rR : Int32) (CR : Mem) (hF : F_X9_note  C = some (rR, CR)) : Ct l yX9_note cX9_note 2 none (rmN 1 24) G n C [.ref (bb G + 244)] none CR := by
  refine Ct.of (by decide) (Nat.le_of_ble_eq_true rfl) ?_
  intro p e s m below meth c ls hC hr hlk hw hl
  have hx := hC.1
  have hb := hC.2.1
  have hS : LW G s s.heap [] := va_S.rf
  have hl : lv_has ls 2 [(0, .ref (bb G + 244))] := hl
  unfold F_X9_note at hF
  refine lv_aload_n hx hb dX9_note_0 rfl (lv_at hl 0 rfl) ?_
  refine gX9_160 hC hw (by omega)  dX9_note_1 ?_
  refine lv_bipush (v := 14) hx hb dX9_note_4 (by decide) ?_
  have hJ49 : ∀ (C2 : Mem) (H : Heap) (locs : List Loc) (ls : Array Slot), J_X9_note_49  C2 = some (rR, CR) → Wd G n C2 H → LW G s H locs → lv_has ls 2 [(0, .ref (bb G + 244))] → W p l e (rmN 1 24) s m ([.ref (bb G + 244)] : List Value).toArray below meth c H locs 0 0 (MQ below (QR G n none CR) ([.ref (bb G + 244)] : List Value).toArray s 0 0 (frA G)) (F0 m 49 ls []) := by
    intro C2 H locs ls hF hw hS hl
    unfold J_X9_note_49 at hF
    refine lv_aload_n hx hb dX9_note_49 rfl (lv_at hl 0 rfl) ?_
    refine gX9_23 hC hw (by omega)  dX9_note_50 ?_
    refine lv_iconst (v := 0) hx hb dX9_note_53 (by decide) ?_
    refine lv_aload_n hx hb dX9_note_54 rfl (lv_at hl 0 rfl) ?_
    refine gX9_29 hC hw (by omega)  dX9_note_55 ?_
    refine lv_bipush (v := 65) hx hb dX9_note_58 (by decide) ?_
    refine lv_aload_n hx hb dX9_note_60 rfl (lv_at hl 0 rfl) ?_
    refine gX9_160 hC hw (by omega)  dX9_note_61 ?_
    refine lv_imul hx hb dX9_note_64 ?_
    obtain ⟨r3, C4, hc5, hF⟩ := b2_t hF
    refine call_Sv hC (c_X9_copyPage l G n (by omega) hn2 33 (show 31 ≤ 33 ∧ 33 ≤ 36 by decide) (0 : Int32) 35 (show 31 ≤ 35 ∧ 35 ≤ 36 by decide) ((65 : Int32) * (C2 30 12)) _ _ _ hc5) wsX9_156 ⟨rfl, rfl, by decide, by decide⟩ hw hS hl.1 rfl (rest := []) rfl (Nat.le_of_ble_eq_true rfl) dX9_note_65 ⟨by decide, by decide⟩ (fun H locs hw hS _ => ?_)
    refine lv_aload_n hx hb dX9_note_68 rfl (lv_at hl 0 rfl) ?_
    refine lv_dup hx hb dX9_note_69 rfl ?_
    refine gX9_160 hC hw (by omega)  dX9_note_70 ?_
    refine lv_iconst (v := 1) hx hb dX9_note_73 (by decide) ?_
    refine lv_iadd hx hb dX9_note_74 ?_
    refine pX9_160 hC hw hS (by omega) hn2  dX9_note_75 (fun H locs hw hS _ => ?_)
    obtain ⟨C6, eC6, hF⟩ := nm_t hF
    have hw := Wd.cast eC6 hw
    exact m_vret hC hr hlk hw hS dX9_note_78 hF
  refine lv_icmp_ne (tgt := 49) hx hb dX9_note_6 (by decide) (fun h1 => ?_) (fun h1 => ?_)
  · have hF := it_f h1 hF
    exact hJ49 C _ _ _ hF hw hS (lv_sub hl [0] rfl)
  · have hF := it_t h1 hF
    refine lv_iconst (v := 0) hx hb dX9_note_9 (by decide) ?_
    refine lv_istore_n (lv' := [(1, .int (0 : Int32)), (0, .ref (bb G + 244))]) hx hb dX9_note_10 rfl hl (by decide) rfl (fun ls hl => ?_)
    obtain ⟨o9, hit9, hG9⟩ := b1_t hF
    have hR9 : ∀ (v10 : Int32) (C11 : Mem) (H : Heap) (locs : List Loc) (ls : Array Slot), o9 = (v10, C11) → Wd G n C11 H → LW G s H locs → lv_has ls 2 [(0, .ref (bb G + 244))] → W p l e (rmN 1 24) s m ([.ref (bb G + 244)] : List Value).toArray below meth c H locs 0 0 (MQ below (QR G n none CR) ([.ref (bb G + 244)] : List Value).toArray s 0 0 (frA G)) (F0 m 39 ls []) := by
      intro v10 C11 H locs ls hE hw hS hl
      subst hE
      have hF := u2_t (hG9)
      refine lv_aload_n hx hb dX9_note_39 rfl (lv_at hl 0 rfl) ?_
      refine lv_dup hx hb dX9_note_40 rfl ?_
      refine gX9_160 hC hw (by omega)  dX9_note_41 ?_
      refine lv_iconst (v := 1) hx hb dX9_note_44 (by decide) ?_
      refine lv_isub hx hb dX9_note_45 ?_
      refine pX9_160 hC hw hS (by omega) hn2  dX9_note_46 (fun H locs hw hS _ => ?_)
      obtain ⟨C17, eC17, hF⟩ := nm_t hF
      have hw := Wd.cast eC17 hw
      exact hJ49 C17 _ _ _ hF hw hS (lv_sub hl [0] rfl)
    refine iter_sound (P := fun x : Int32 × Mem => ∀ (H : Heap) (locs : List Loc) (ls : Array Slot), Wd G n x.2 H → LW G s H locs → lv_has ls 2 [(0, .ref (bb G + 244)), (1, .int x.1)] → W p l e (rmN 1 24) s m ([.ref (bb G + 244)] : List Value).toArray below meth c H locs 0 0 (MQ below (QR G n none CR) ([.ref (bb G + 244)] : List Value).toArray s 0 0 (frA G)) (F0 m 11 ls [])) (X := fun r => r = o9) ?_ fuel ((0 : Int32), C) o9 hit9 rfl _ _ _ hw hS (lv_sub hl [1, 0] rfl)
    intro x oo9 hF hk9 hX9 H locs ls hw hS hl
    obtain ⟨v7, C8⟩ := x
    have hF : S_X9_note_11  v7 C8 = some oo9 := hF
    have hw : Wd G n C8 H := hw
    have hl : lv_has ls 2 [(0, .ref (bb G + 244)), (1, .int v7)] := hl
    unfold S_X9_note_11 at hF
    refine lv_iload_n hx hb dX9_note_11 rfl (lv_at hl 1 rfl) ?_
    refine lv_sipush (v := 845) hx hb dX9_note_12 (by decide) ?_
    refine lv_icmp_ge (tgt := 39) hx hb dX9_note_15 (by decide) (fun h12 => ?_) (fun h12 => ?_)
    · have hF := it_t h12 hF
      exact hR9 _ _ _ _ _ (it_exit hF hX9).symm hw hS (lv_sub hl [0] rfl)
    · have hF := it_f h12 hF
      refine lv_aload_n hx hb dX9_note_18 rfl (lv_at hl 0 rfl) ?_
      refine gX9_29 hC hw (by omega)  dX9_note_19 ?_
      refine lv_iload_n hx hb dX9_note_22 rfl (lv_at hl 1 rfl) ?_
      refine lv_aload_n hx hb dX9_note_23 rfl (lv_at hl 0 rfl) ?_
      refine gX9_29 hC hw (by omega)  dX9_note_24 ?_
      refine lv_iload_n hx hb dX9_note_27 rfl (lv_at hl 1 rfl) ?_
      refine lv_bipush (v := 65) hx hb dX9_note_28 (by decide) ?_
      refine lv_iadd hx hb dX9_note_30 ?_
      obtain ⟨g13, hF⟩ := gi_t hF
      refine ld_marr hC hw (by omega) (show 31 ≤ 35 ∧ 35 ≤ 36 by decide) g13 dX9_note_31 ?_
      obtain ⟨g14, hF⟩ := gi_t hF
      refine st_marr hC hw hS (by omega) hn2 (show 31 ≤ 35 ∧ 35 ≤ 36 by decide) g14 dX9_note_32 (fun H locs hw hS _ => ?_)
      obtain ⟨C15, eC15, hF⟩ := nm_t hF
      have hw := Wd.cast eC15 hw
      obtain ⟨v16, ev16, hF⟩ := nm_t hF
      refine lv_iinc (v := v16) (lv' := [(1, .int v16), (0, .ref (bb G + 244))]) hx hb dX9_note_33 hl (k := 1) rfl (by rw [ev16]; rfl) (by decide) rfl (fun ls hl => ?_)
      refine lv_goto (tgt := 11) hx hb dX9_note_36 (by decide) ?_
      exact it_back hF hk9 _ _ _ hw hS (lv_sub hl [1, 0] rfl)
set_option maxHeartbeats 4000000 in
set_option maxRecDepth 100000 in
theorem c_X9_areTicks (l : Launch) (G : GG) (n : Nat) (hn : 252 ≤ n) (hn2 : n ≤ 253) (x0 : Int32) (x1 : Int32) (C : Mem) (rR : Int32) (CR : Mem) (hF : F_X9_areTicks x0 x1 C = some (rR, CR)) : Ct l yX9_areTicks cX9_areTicks 2 (some .boolean) (rmN 1 25) G n C [.int x0, .int x1] (some (.int rR)) CR := by
  refine Ct.of (by decide) (Nat.le_of_ble_eq_true rfl) ?_
  intro p e s m below meth c ls hC hr hlk hw hl
  have hx := hC.1
  have hb := hC.2.1
  have hS : LW G s s.heap [] := va_S.rf
  have hl : lv_has ls 2 [(0, .int x0), (1, .int x1)] := hl
  unfold F_X9_areTicks at hF
  refine lv_iload_n hx hb dX9_areTicks_0 rfl (lv_at hl 0 rfl) ?_
  refine lv_i2l (v := (x0).toInt64) hx hb dX9_areTicks_1 rfl ?_
  refine lv_lconst (v := 1) hx hb dX9_areTicks_2 (by decide) ?_
  refine lv_ldc2 (v := 96) hx hb hC.2.2.2.1 (hC.2.2.2.2.1 _ kcX9_178) dX9_areTicks_3 ?_
  obtain ⟨r1, C2, hc3, hF⟩ := b2_t hF
  refine call_Si hC (c_X9_in l G n (by omega) hn2 ((x0).toInt64) (1 : Int64) (96 : Int64) _ _ _ hc3) wsX9_50 ⟨rfl, rfl, by decide, by decide⟩ hw hS hl.1 rfl (rest := []) rfl (Nat.le_of_ble_eq_true rfl) dX9_areTicks_6 ⟨by decide, by decide⟩ (fun H locs hw hS _ => ?_)
  refine lv_if_eq (tgt := 28) hx hb dX9_areTicks_9 (by decide) (fun h4 => ?_) (fun h4 => ?_)
  · have hF := it_t h4 hF
    refine lv_iconst (v := 0) hx hb dX9_areTicks_28 (by decide) ?_
    exact m_zret hC hr hlk hw hS dX9_areTicks_29 (by decide) hF
  · have hF := it_f h4 hF
    refine lv_iload_n hx hb dX9_areTicks_12 rfl (lv_at hl 1 rfl) ?_
    refine lv_i2l (v := (x1).toInt64) hx hb dX9_areTicks_13 rfl ?_
    refine lv_lconst (v := 0) hx hb dX9_areTicks_14 (by decide) ?_
    refine lv_ldc2 (v := 5) hx hb hC.2.2.2.1 (hC.2.2.2.2.1 _ kcX9_60) dX9_areTicks_15 ?_
    obtain ⟨r5, C6, hc7, hF⟩ := b2_t hF
    refine call_Si hC (c_X9_in l G n (by omega) hn2 ((x1).toInt64) (0 : Int64) (5 : Int64) _ _ _ hc7) wsX9_50 ⟨rfl, rfl, by decide, by decide⟩ hw hS hl.1 rfl (rest := []) rfl (Nat.le_of_ble_eq_true rfl) dX9_areTicks_18 ⟨by decide, by decide⟩ (fun H locs hw hS _ => ?_)
    refine lv_if_eq (tgt := 28) hx hb dX9_areTicks_21 (by decide) (fun h8 => ?_) (fun h8 => ?_)
    · have hF := it_t h8 hF
      refine lv_iconst (v := 0) hx hb dX9_areTicks_28 (by decide) ?_
      exact m_zret hC hr hlk hw hS dX9_areTicks_29 (by decide) hF
    · have hF := it_f h8 hF
      refine lv_iconst (v := 1) hx hb dX9_areTicks_24 (by decide) ?_
      refine lv_goto (tgt := 29) hx hb dX9_areTicks_25 (by decide) ?_
      exact m_zret hC hr hlk hw hS dX9_areTicks_29 (by decide) hF
set_option maxHeartbeats 4000000 in
set_option maxRecDepth 100000 in
theorem c_X9_tick (l : Launch) (G : GG) (n : Nat) (hn : 252 ≤ n) (hn2 : n ≤ 253) (x0 : Int32) (x1 : Int32) (C : Mem) (rR : Int32) (CR : Mem) (hF : F_X9_tick x0 x1 C = some (rR, CR)) : Ct l yX9_tick cX9_tick 3 (some .int) (rmN 7 164) G n C [.ref (bb G + 244), .int x0, .int x1] (some (.int rR)) CR := by
  refine Ct.of (by decide) (Nat.le_of_ble_eq_true rfl) ?_
  intro p e s m below meth c ls hC hr hlk hw hl
  have hx := hC.1
  have hb := hC.2.1
  have hS : LW G s s.heap [] := va_S.rf
  have hl : lv_has ls 3 [(0, .ref (bb G + 244)), (1, .int x0), (2, .int x1)] := hl
  unfold F_X9_tick at hF
  refine lv_aload_n hx hb dX9_tick_0 rfl (lv_at hl 0 rfl) ?_
  refine lv_iload_n hx hb dX9_tick_1 rfl (lv_at hl 1 rfl) ?_
  refine lv_iload_n hx hb dX9_tick_2 rfl (lv_at hl 2 rfl) ?_
  obtain ⟨r1, C2, hc3, hF⟩ := b2_t hF
  refine call_Si hC (c_X9_areTicks l G n (by omega) hn2 x0 x1 _ _ _ hc3) wsX9_180 ⟨rfl, rfl, by decide, by decide⟩ hw hS hl.1 rfl (rest := [.ref (bb G + 244)]) rfl (Nat.le_of_ble_eq_true rfl) dX9_tick_3 ⟨by decide, by decide⟩ (fun H locs hw hS _ => ?_)
  have hJ14 : ∀ (v5 : Int32) (H : Heap) (locs : List Loc) (ls : Array Slot), J_X9_tick_14 x0 x1 C2 v5 = some (rR, CR) → Wd G n C2 H → LW G s H locs → lv_has ls 3 [(0, .ref (bb G + 244)), (1, .int x0), (2, .int x1)] → W p l e (rmN 7 164) s m ([.ref (bb G + 244), .int x0, .int x1] : List Value).toArray below meth c H locs 0 0 (MQ below (QR G n (some (.int rR)) CR) ([.ref (bb G + 244), .int x0, .int x1] : List Value).toArray s 0 0 (frA G)) (F0 m 14 ls [.int v5, .ref (bb G + 244)]) := by
    intro v5 H locs ls hF hw hS hl
    unfold J_X9_tick_14 at hF
    obtain ⟨r6, C7, hc8, hF⟩ := b2_t hF
    refine call_Vi hC (c_X9_refused l G n (by omega) hn2 v5 _ _ _ hc8) wvX9_127 ⟨rfl, rfl, by decide, by decide⟩ hw hS (by omega) ca_model rfl hl.1 rfl (rest := []) rfl (Nat.le_of_ble_eq_true rfl) dX9_tick_14 ⟨by decide, by decide⟩ (fun H locs hw hS _ => ?_)
    refine lv_if_eq (tgt := 22) hx hb dX9_tick_17 (by decide) (fun h9 => ?_) (fun h9 => ?_)
    · have hF := it_t h9 hF
      refine lv_aload_n hx hb dX9_tick_22 rfl (lv_at hl 0 rfl) ?_
      obtain ⟨r10, C11, hc12, hF⟩ := b2_t hF
      refine call_Vv hC (c_X9_note l G n (by omega) hn2  _ _ _ hc12) wvX9_184 ⟨rfl, rfl, by decide, by decide⟩ hw hS (by omega) ca_model rfl hl.1 rfl (rest := []) rfl (Nat.le_of_ble_eq_true rfl) dX9_tick_23 ⟨by decide, by decide⟩ (fun H locs hw hS _ => ?_)
      refine lv_aload_n hx hb dX9_tick_26 rfl (lv_at hl 0 rfl) ?_
      refine lv_aload_n hx hb dX9_tick_27 rfl (lv_at hl 0 rfl) ?_
      refine gX9_23 hC hw (by omega)  dX9_tick_28 ?_
      refine lv_iload_n hx hb dX9_tick_31 rfl (lv_at hl 1 rfl) ?_
      refine lv_iload_n hx hb dX9_tick_32 rfl (lv_at hl 2 rfl) ?_
      obtain ⟨r13, C14, hc15, hF⟩ := b2_t hF
      refine call_Vv hC (c_X9_ticksOn l G n (by omega) hn2 33 (show 31 ≤ 33 ∧ 33 ≤ 36 by decide) x0 x1 _ _ _ hc15) wvX9_187 ⟨rfl, rfl, by decide, by decide⟩ hw hS (by omega) ca_model rfl hl.1 rfl (rest := []) rfl (Nat.le_of_ble_eq_true rfl) dX9_tick_33 ⟨by decide, by decide⟩ (fun H locs hw hS _ => ?_)
      refine lv_aload_n hx hb dX9_tick_36 rfl (lv_at hl 0 rfl) ?_
      refine lv_aload_n hx hb dX9_tick_37 rfl (lv_at hl 0 rfl) ?_
      refine gX9_23 hC hw (by omega)  dX9_tick_38 ?_
      obtain ⟨r16, C17, hc18, hF⟩ := b2_t hF
      refine call_Vi hC (c_X9_meanOf l G n (by omega) hn2 33 (show 31 ≤ 33 ∧ 33 ≤ 36 by decide) _ _ _ hc18) wvX9_87 ⟨rfl, rfl, by decide, by decide⟩ hw hS (by omega) ca_model rfl hl.1 rfl (rest := []) rfl (Nat.le_of_ble_eq_true rfl) dX9_tick_41 ⟨by decide, by decide⟩ (fun H locs hw hS _ => ?_)
      exact m_iret hC hr hlk hw hS dX9_tick_44 hF
    · have hF := it_f h9 hF
      refine lv_iconst (v := 0) hx hb dX9_tick_20 (by decide) ?_
      exact m_iret hC hr hlk hw hS dX9_tick_21 hF
  refine lv_if_eq (tgt := 13) hx hb dX9_tick_6 (by decide) (fun h4 => ?_) (fun h4 => ?_)
  · have hF := it_t h4 hF
    refine lv_iconst (v := 1) hx hb dX9_tick_13 (by decide) ?_
    exact hJ14 (1 : Int32) _ _ _ hF hw hS (lv_sub hl [0, 1, 2] rfl)
  · have hF := it_f h4 hF
    refine lv_iconst (v := 0) hx hb dX9_tick_9 (by decide) ?_
    refine lv_goto (tgt := 14) hx hb dX9_tick_10 (by decide) ?_
    exact hJ14 (0 : Int32) _ _ _ hF hw hS (lv_sub hl [0, 1, 2] rfl)
set_option maxHeartbeats 4000000 in
set_option maxRecDepth 100000 in
theorem c_X9_draw (l : Launch) (G : GG) (n : Nat) (hn : 252 ≤ n) (hn2 : n ≤ 253) (x0 : Int32) (C : Mem) (rR : Int32) (CR : Mem) (hF : F_X9_draw x0 C = some (rR, CR)) : Ct l yX9_draw cX9_draw 2 (some .int) (rmN 2 45) G n C [.ref (bb G + 244), .int x0] (some (.int rR)) CR := by
  refine Ct.of (by decide) (Nat.le_of_ble_eq_true rfl) ?_
  intro p e s m below meth c ls hC hr hlk hw hl
  have hx := hC.1
  have hb := hC.2.1
  have hS : LW G s s.heap [] := va_S.rf
  have hl : lv_has ls 2 [(0, .ref (bb G + 244)), (1, .int x0)] := hl
  unfold F_X9_draw at hF
  refine lv_aload_n hx hb dX9_draw_0 rfl (lv_at hl 0 rfl) ?_
  refine lv_iload_n hx hb dX9_draw_1 rfl (lv_at hl 1 rfl) ?_
  refine lv_i2l (v := (x0).toInt64) hx hb dX9_draw_2 rfl ?_
  refine lv_lconst (v := 1) hx hb dX9_draw_3 (by decide) ?_
  refine lv_ldc2 (v := 20) hx hb hC.2.2.2.1 (hC.2.2.2.2.1 _ kcX9_191) dX9_draw_4 ?_
  obtain ⟨r1, C2, hc3, hF⟩ := b2_t hF
  refine call_Si hC (c_X9_in l G n (by omega) hn2 ((x0).toInt64) (1 : Int64) (20 : Int64) _ _ _ hc3) wsX9_50 ⟨rfl, rfl, by decide, by decide⟩ hw hS hl.1 rfl (rest := [.ref (bb G + 244)]) rfl (Nat.le_of_ble_eq_true rfl) dX9_draw_7 ⟨by decide, by decide⟩ (fun H locs hw hS _ => ?_)
  have hJ18 : ∀ (v5 : Int32) (H : Heap) (locs : List Loc) (ls : Array Slot), J_X9_draw_18 x0 C2 v5 = some (rR, CR) → Wd G n C2 H → LW G s H locs → lv_has ls 2 [(0, .ref (bb G + 244)), (1, .int x0)] → W p l e (rmN 2 45) s m ([.ref (bb G + 244), .int x0] : List Value).toArray below meth c H locs 0 0 (MQ below (QR G n (some (.int rR)) CR) ([.ref (bb G + 244), .int x0] : List Value).toArray s 0 0 (frA G)) (F0 m 18 ls [.int v5, .ref (bb G + 244)]) := by
    intro v5 H locs ls hF hw hS hl
    unfold J_X9_draw_18 at hF
    obtain ⟨r6, C7, hc8, hF⟩ := b2_t hF
    refine call_Vi hC (c_X9_refused l G n (by omega) hn2 v5 _ _ _ hc8) wvX9_127 ⟨rfl, rfl, by decide, by decide⟩ hw hS (by omega) ca_model rfl hl.1 rfl (rest := []) rfl (Nat.le_of_ble_eq_true rfl) dX9_draw_18 ⟨by decide, by decide⟩ (fun H locs hw hS _ => ?_)
    refine lv_if_eq (tgt := 26) hx hb dX9_draw_21 (by decide) (fun h9 => ?_) (fun h9 => ?_)
    · have hF := it_t h9 hF
      refine lv_aload_n hx hb dX9_draw_26 rfl (lv_at hl 0 rfl) ?_
      obtain ⟨r10, C11, hc12, hF⟩ := b2_t hF
      refine call_Vv hC (c_X9_note l G n (by omega) hn2  _ _ _ hc12) wvX9_184 ⟨rfl, rfl, by decide, by decide⟩ hw hS (by omega) ca_model rfl hl.1 rfl (rest := []) rfl (Nat.le_of_ble_eq_true rfl) dX9_draw_27 ⟨by decide, by decide⟩ (fun H locs hw hS _ => ?_)
      refine lv_aload_n hx hb dX9_draw_30 rfl (lv_at hl 0 rfl) ?_
      refine lv_aload_n hx hb dX9_draw_31 rfl (lv_at hl 0 rfl) ?_
      refine gX9_23 hC hw (by omega)  dX9_draw_32 ?_
      refine lv_iload_n hx hb dX9_draw_35 rfl (lv_at hl 1 rfl) ?_
      obtain ⟨r13, C14, hc15, hF⟩ := b2_t hF
      refine call_Vi hC (c_X9_drawOn l G n (by omega) hn2 33 (show 31 ≤ 33 ∧ 33 ≤ 36 by decide) x0 _ _ _ hc15) wvX9_104 ⟨rfl, rfl, by decide, by decide⟩ hw hS (by omega) ca_model rfl hl.1 rfl (rest := []) rfl (Nat.le_of_ble_eq_true rfl) dX9_draw_36 ⟨by decide, by decide⟩ (fun H locs hw hS _ => ?_)
      exact m_iret hC hr hlk hw hS dX9_draw_39 hF
    · have hF := it_f h9 hF
      refine lv_iconst (v := 0) hx hb dX9_draw_24 (by decide) ?_
      exact m_iret hC hr hlk hw hS dX9_draw_25 hF
  refine lv_if_eq (tgt := 17) hx hb dX9_draw_10 (by decide) (fun h4 => ?_) (fun h4 => ?_)
  · have hF := it_t h4 hF
    refine lv_iconst (v := 1) hx hb dX9_draw_17 (by decide) ?_
    exact hJ18 (1 : Int32) _ _ _ hF hw hS (lv_sub hl [0, 1] rfl)
  · have hF := it_f h4 hF
    refine lv_iconst (v := 0) hx hb dX9_draw_13 (by decide) ?_
    refine lv_goto (tgt := 18) hx hb dX9_draw_14 (by decide) ?_
    exact hJ18 (0 : Int32) _ _ _ hF hw hS (lv_sub hl [0, 1] rfl)
set_option maxHeartbeats 4000000 in
set_option maxRecDepth 100000 in
theorem c_X9_set (l : Launch) (G : GG) (n : Nat) (hn : 252 ≤ n) (hn2 : n ≤ 253) (x0 : Int32) (x1 : Int32) (C : Mem) (rR : Int32) (CR : Mem) (hF : F_X9_set x0 x1 C = some (rR, CR)) : Ct l yX9_set cX9_set 4 (some .int) (rmN 2 46) G n C [.ref (bb G + 244), .int x0, .int x1] (some (.int rR)) CR := by
  refine Ct.of (by decide) (Nat.le_of_ble_eq_true rfl) ?_
  intro p e s m below meth c ls hC hr hlk hw hl
  have hx := hC.1
  have hb := hC.2.1
  have hS : LW G s s.heap [] := va_S.rf
  have hl : lv_has ls 4 [(0, .ref (bb G + 244)), (1, .int x0), (2, .int x1)] := hl
  unfold F_X9_set at hF
  refine lv_aload_n hx hb dX9_set_0 rfl (lv_at hl 0 rfl) ?_
  refine lv_iload_n hx hb dX9_set_1 rfl (lv_at hl 1 rfl) ?_
  refine lv_iload_n hx hb dX9_set_2 rfl (lv_at hl 2 rfl) ?_
  obtain ⟨r1, C2, hc3, hF⟩ := b2_t hF
  refine call_Si hC (c_X9_isSetting l G n (by omega) hn2 x0 x1 _ _ _ hc3) wsX9_193 ⟨rfl, rfl, by decide, by decide⟩ hw hS hl.1 rfl (rest := [.ref (bb G + 244)]) rfl (Nat.le_of_ble_eq_true rfl) dX9_set_3 ⟨by decide, by decide⟩ (fun H locs hw hS _ => ?_)
  have hJ14 : ∀ (v5 : Int32) (H : Heap) (locs : List Loc) (ls : Array Slot), J_X9_set_14 x0 x1 C2 v5 = some (rR, CR) → Wd G n C2 H → LW G s H locs → lv_has ls 4 [(0, .ref (bb G + 244)), (1, .int x0), (2, .int x1)] → W p l e (rmN 2 46) s m ([.ref (bb G + 244), .int x0, .int x1] : List Value).toArray below meth c H locs 0 0 (MQ below (QR G n (some (.int rR)) CR) ([.ref (bb G + 244), .int x0, .int x1] : List Value).toArray s 0 0 (frA G)) (F0 m 14 ls [.int v5, .ref (bb G + 244)]) := by
    intro v5 H locs ls hF hw hS hl
    unfold J_X9_set_14 at hF
    obtain ⟨r6, C7, hc8, hF⟩ := b2_t hF
    refine call_Vi hC (c_X9_refused l G n (by omega) hn2 v5 _ _ _ hc8) wvX9_127 ⟨rfl, rfl, by decide, by decide⟩ hw hS (by omega) ca_model rfl hl.1 rfl (rest := []) rfl (Nat.le_of_ble_eq_true rfl) dX9_set_14 ⟨by decide, by decide⟩ (fun H locs hw hS _ => ?_)
    refine lv_if_eq (tgt := 22) hx hb dX9_set_17 (by decide) (fun h9 => ?_) (fun h9 => ?_)
    · have hF := it_t h9 hF
      refine lv_aload_n hx hb dX9_set_22 rfl (lv_at hl 0 rfl) ?_
      obtain ⟨r10, C11, hc12, hF⟩ := b2_t hF
      refine call_Vv hC (c_X9_note l G n (by omega) hn2  _ _ _ hc12) wvX9_184 ⟨rfl, rfl, by decide, by decide⟩ hw hS (by omega) ca_model rfl hl.1 rfl (rest := []) rfl (Nat.le_of_ble_eq_true rfl) dX9_set_23 ⟨by decide, by decide⟩ (fun H locs hw hS _ => ?_)
      refine lv_aload_n hx hb dX9_set_26 rfl (lv_at hl 0 rfl) ?_
      refine gX9_23 hC hw (by omega)  dX9_set_27 ?_
      refine lv_iload_n hx hb dX9_set_30 rfl (lv_at hl 1 rfl) ?_
      obtain ⟨g13, hF⟩ := gi_t hF
      refine ld_marr hC hw (by omega) (show 31 ≤ 33 ∧ 33 ≤ 36 by decide) g13 dX9_set_31 ?_
      obtain ⟨v14, ev14, hF⟩ := nm_t hF
      refine lv_nmi ev14 ?_
      refine lv_istore_n (lv' := [(3, .int v14), (0, .ref (bb G + 244)), (1, .int x0), (2, .int x1)]) hx hb dX9_set_32 rfl hl (by decide) rfl (fun ls hl => ?_)
      refine lv_aload_n hx hb dX9_set_33 rfl (lv_at hl 1 rfl) ?_
      refine gX9_23 hC hw (by omega)  dX9_set_34 ?_
      refine lv_iload_n hx hb dX9_set_37 rfl (lv_at hl 2 rfl) ?_
      refine lv_iload_n hx hb dX9_set_38 rfl (lv_at hl 3 rfl) ?_
      obtain ⟨g15, hF⟩ := gi_t hF
      refine st_marr hC hw hS (by omega) hn2 (show 31 ≤ 33 ∧ 33 ≤ 36 by decide) g15 dX9_set_39 (fun H locs hw hS _ => ?_)
      obtain ⟨C16, eC16, hF⟩ := nm_t hF
      have hw := Wd.cast eC16 hw
      refine lv_iload_n hx hb dX9_set_40 rfl (lv_at hl 0 rfl) ?_
      exact m_iret hC hr hlk hw hS dX9_set_41 hF
    · have hF := it_f h9 hF
      refine lv_iconst (v := 0) hx hb dX9_set_20 (by decide) ?_
      exact m_iret hC hr hlk hw hS dX9_set_21 hF
  refine lv_if_eq (tgt := 13) hx hb dX9_set_6 (by decide) (fun h4 => ?_) (fun h4 => ?_)
  · have hF := it_t h4 hF
    refine lv_iconst (v := 1) hx hb dX9_set_13 (by decide) ?_
    exact hJ14 (1 : Int32) _ _ _ hF hw hS (lv_sub hl [0, 1, 2] rfl)
  · have hF := it_f h4 hF
    refine lv_iconst (v := 0) hx hb dX9_set_9 (by decide) ?_
    refine lv_goto (tgt := 14) hx hb dX9_set_10 (by decide) ?_
    exact hJ14 (0 : Int32) _ _ _ hF hw hS (lv_sub hl [0, 1, 2] rfl)
set_option maxHeartbeats 4000000 in
set_option maxRecDepth 100000 in
theorem c_X9_setFlue (l : Launch) (G : GG) (n : Nat) (hn : 252 ≤ n) (hn2 : n ≤ 253) (x0 : Int32) (x1 : Int32) (C : Mem) (rR : Int32) (CR : Mem) (hF : F_X9_setFlue x0 x1 C = some (rR, CR)) : Ct l yX9_setFlue cX9_setFlue 3 (some .int) (rmN 2 46) G n C [.ref (bb G + 244), .int x0, .int x1] (some (.int rR)) CR := by
  refine Ct.of (by decide) (Nat.le_of_ble_eq_true rfl) ?_
  intro p e s m below meth c ls hC hr hlk hw hl
  have hx := hC.1
  have hb := hC.2.1
  have hS : LW G s s.heap [] := va_S.rf
  have hl : lv_has ls 3 [(0, .ref (bb G + 244)), (1, .int x0), (2, .int x1)] := hl
  unfold F_X9_setFlue at hF
  refine lv_aload_n hx hb dX9_setFlue_0 rfl (lv_at hl 0 rfl) ?_
  refine lv_iload_n hx hb dX9_setFlue_1 rfl (lv_at hl 1 rfl) ?_
  refine lv_i2l (v := (x0).toInt64) hx hb dX9_setFlue_2 rfl ?_
  refine lv_lconst (v := 0) hx hb dX9_setFlue_3 (by decide) ?_
  refine lv_lconst (v := 1) hx hb dX9_setFlue_4 (by decide) ?_
  obtain ⟨r1, C2, hc3, hF⟩ := b2_t hF
  refine call_Si hC (c_X9_in l G n (by omega) hn2 ((x0).toInt64) (0 : Int64) (1 : Int64) _ _ _ hc3) wsX9_50 ⟨rfl, rfl, by decide, by decide⟩ hw hS hl.1 rfl (rest := [.ref (bb G + 244)]) rfl (Nat.le_of_ble_eq_true rfl) dX9_setFlue_5 ⟨by decide, by decide⟩ (fun H locs hw hS _ => ?_)
  have hJ16 : ∀ (v5 : Int32) (H : Heap) (locs : List Loc) (ls : Array Slot), J_X9_setFlue_16 x0 x1 C2 v5 = some (rR, CR) → Wd G n C2 H → LW G s H locs → lv_has ls 3 [(0, .ref (bb G + 244)), (1, .int x0), (2, .int x1)] → W p l e (rmN 2 46) s m ([.ref (bb G + 244), .int x0, .int x1] : List Value).toArray below meth c H locs 0 0 (MQ below (QR G n (some (.int rR)) CR) ([.ref (bb G + 244), .int x0, .int x1] : List Value).toArray s 0 0 (frA G)) (F0 m 16 ls [.int v5, .ref (bb G + 244)]) := by
    intro v5 H locs ls hF hw hS hl
    unfold J_X9_setFlue_16 at hF
    obtain ⟨r6, C7, hc8, hF⟩ := b2_t hF
    refine call_Vi hC (c_X9_refused l G n (by omega) hn2 v5 _ _ _ hc8) wvX9_127 ⟨rfl, rfl, by decide, by decide⟩ hw hS (by omega) ca_model rfl hl.1 rfl (rest := []) rfl (Nat.le_of_ble_eq_true rfl) dX9_setFlue_16 ⟨by decide, by decide⟩ (fun H locs hw hS _ => ?_)
    refine lv_if_eq (tgt := 24) hx hb dX9_setFlue_19 (by decide) (fun h9 => ?_) (fun h9 => ?_)
    · have hF := it_t h9 hF
      refine lv_aload_n hx hb dX9_setFlue_24 rfl (lv_at hl 0 rfl) ?_
      obtain ⟨r10, C11, hc12, hF⟩ := b2_t hF
      refine call_Vv hC (c_X9_note l G n (by omega) hn2  _ _ _ hc12) wvX9_184 ⟨rfl, rfl, by decide, by decide⟩ hw hS (by omega) ca_model rfl hl.1 rfl (rest := []) rfl (Nat.le_of_ble_eq_true rfl) dX9_setFlue_25 ⟨by decide, by decide⟩ (fun H locs hw hS _ => ?_)
      refine lv_aload_n hx hb dX9_setFlue_28 rfl (lv_at hl 0 rfl) ?_
      refine lv_aload_n hx hb dX9_setFlue_29 rfl (lv_at hl 0 rfl) ?_
      refine gX9_23 hC hw (by omega)  dX9_setFlue_30 ?_
      refine lv_iload_n hx hb dX9_setFlue_33 rfl (lv_at hl 1 rfl) ?_
      refine lv_iload_n hx hb dX9_setFlue_34 rfl (lv_at hl 2 rfl) ?_
      obtain ⟨r13, C14, hc15, hF⟩ := b2_t hF
      refine call_Vi hC (c_X9_flueOn l G n (by omega) hn2 33 (show 31 ≤ 33 ∧ 33 ≤ 36 by decide) x0 x1 _ _ _ hc15) wvX9_196 ⟨rfl, rfl, by decide, by decide⟩ hw hS (by omega) ca_model rfl hl.1 rfl (rest := []) rfl (Nat.le_of_ble_eq_true rfl) dX9_setFlue_35 ⟨by decide, by decide⟩ (fun H locs hw hS _ => ?_)
      exact m_iret hC hr hlk hw hS dX9_setFlue_38 hF
    · have hF := it_f h9 hF
      refine lv_iconst (v := 0) hx hb dX9_setFlue_22 (by decide) ?_
      exact m_iret hC hr hlk hw hS dX9_setFlue_23 hF
  refine lv_if_eq (tgt := 15) hx hb dX9_setFlue_8 (by decide) (fun h4 => ?_) (fun h4 => ?_)
  · have hF := it_t h4 hF
    refine lv_iconst (v := 1) hx hb dX9_setFlue_15 (by decide) ?_
    exact hJ16 (1 : Int32) _ _ _ hF hw hS (lv_sub hl [0, 1, 2] rfl)
  · have hF := it_f h4 hF
    refine lv_iconst (v := 0) hx hb dX9_setFlue_11 (by decide) ?_
    refine lv_goto (tgt := 16) hx hb dX9_setFlue_12 (by decide) ?_
    exact hJ16 (0 : Int32) _ _ _ hF hw hS (lv_sub hl [0, 1, 2] rfl)
set_option maxHeartbeats 4000000 in
set_option maxRecDepth 100000 in
theorem c_X9_setDraft (l : Launch) (G : GG) (n : Nat) (hn : 252 ≤ n) (hn2 : n ≤ 253) (x0 : Int32) (x1 : Int32) (C : Mem) (rR : Int32) (CR : Mem) (hF : F_X9_setDraft x0 x1 C = some (rR, CR)) : Ct l yX9_setDraft cX9_setDraft 4 (some .int) (rmN 2 45) G n C [.ref (bb G + 244), .int x0, .int x1] (some (.int rR)) CR := by
  refine Ct.of (by decide) (Nat.le_of_ble_eq_true rfl) ?_
  intro p e s m below meth c ls hC hr hlk hw hl
  have hx := hC.1
  have hb := hC.2.1
  have hS : LW G s s.heap [] := va_S.rf
  have hl : lv_has ls 4 [(0, .ref (bb G + 244)), (1, .int x0), (2, .int x1)] := hl
  unfold F_X9_setDraft at hF
  refine lv_aload_n hx hb dX9_setDraft_0 rfl (lv_at hl 0 rfl) ?_
  refine lv_iload_n hx hb dX9_setDraft_1 rfl (lv_at hl 1 rfl) ?_
  refine lv_i2l (v := (x0).toInt64) hx hb dX9_setDraft_2 rfl ?_
  refine lv_lconst (v := 0) hx hb dX9_setDraft_3 (by decide) ?_
  refine lv_lconst (v := 1) hx hb dX9_setDraft_4 (by decide) ?_
  obtain ⟨r1, C2, hc3, hF⟩ := b2_t hF
  refine call_Si hC (c_X9_in l G n (by omega) hn2 ((x0).toInt64) (0 : Int64) (1 : Int64) _ _ _ hc3) wsX9_50 ⟨rfl, rfl, by decide, by decide⟩ hw hS hl.1 rfl (rest := [.ref (bb G + 244)]) rfl (Nat.le_of_ble_eq_true rfl) dX9_setDraft_5 ⟨by decide, by decide⟩ (fun H locs hw hS _ => ?_)
  have hJ32 : ∀ (v5 : Int32) (C6 : Mem) (H : Heap) (locs : List Loc) (ls : Array Slot), J_X9_setDraft_32 x0 x1 v5 C6 = some (rR, CR) → Wd G n C6 H → LW G s H locs → lv_has ls 4 [(0, .ref (bb G + 244)), (1, .int x0), (2, .int x1)] → W p l e (rmN 2 45) s m ([.ref (bb G + 244), .int x0, .int x1] : List Value).toArray below meth c H locs 0 0 (MQ below (QR G n (some (.int rR)) CR) ([.ref (bb G + 244), .int x0, .int x1] : List Value).toArray s 0 0 (frA G)) (F0 m 32 ls [.int v5, .ref (bb G + 244)]) := by
    intro v5 C6 H locs ls hF hw hS hl
    unfold J_X9_setDraft_32 at hF
    obtain ⟨r7, C8, hc9, hF⟩ := b2_t hF
    refine call_Vi hC (c_X9_refused l G n (by omega) hn2 v5 _ _ _ hc9) wvX9_127 ⟨rfl, rfl, by decide, by decide⟩ hw hS (by omega) ca_model rfl hl.1 rfl (rest := []) rfl (Nat.le_of_ble_eq_true rfl) dX9_setDraft_32 ⟨by decide, by decide⟩ (fun H locs hw hS _ => ?_)
    refine lv_if_eq (tgt := 40) hx hb dX9_setDraft_35 (by decide) (fun h10 => ?_) (fun h10 => ?_)
    · have hF := it_t h10 hF
      refine lv_aload_n hx hb dX9_setDraft_40 rfl (lv_at hl 0 rfl) ?_
      obtain ⟨r11, C12, hc13, hF⟩ := b2_t hF
      refine call_Vv hC (c_X9_note l G n (by omega) hn2  _ _ _ hc13) wvX9_184 ⟨rfl, rfl, by decide, by decide⟩ hw hS (by omega) ca_model rfl hl.1 rfl (rest := []) rfl (Nat.le_of_ble_eq_true rfl) dX9_setDraft_41 ⟨by decide, by decide⟩ (fun H locs hw hS _ => ?_)
      refine lv_aload_n hx hb dX9_setDraft_44 rfl (lv_at hl 0 rfl) ?_
      refine gX9_23 hC hw (by omega)  dX9_setDraft_45 ?_
      refine lv_bipush (v := 18) hx hb dX9_setDraft_48 (by decide) ?_
      refine lv_iload_n hx hb dX9_setDraft_50 rfl (lv_at hl 1 rfl) ?_
      refine lv_iadd hx hb dX9_setDraft_51 ?_
      obtain ⟨g14, hF⟩ := gi_t hF
      refine ld_marr hC hw (by omega) (show 31 ≤ 33 ∧ 33 ≤ 36 by decide) g14 dX9_setDraft_52 ?_
      obtain ⟨v15, ev15, hF⟩ := nm_t hF
      refine lv_nmi ev15 ?_
      refine lv_istore_n (lv' := [(3, .int v15), (0, .ref (bb G + 244)), (1, .int x0), (2, .int x1)]) hx hb dX9_setDraft_53 rfl hl (by decide) rfl (fun ls hl => ?_)
      refine lv_aload_n hx hb dX9_setDraft_54 rfl (lv_at hl 1 rfl) ?_
      refine gX9_23 hC hw (by omega)  dX9_setDraft_55 ?_
      refine lv_bipush (v := 18) hx hb dX9_setDraft_58 (by decide) ?_
      refine lv_iload_n hx hb dX9_setDraft_60 rfl (lv_at hl 2 rfl) ?_
      refine lv_iadd hx hb dX9_setDraft_61 ?_
      refine lv_iload_n hx hb dX9_setDraft_62 rfl (lv_at hl 3 rfl) ?_
      obtain ⟨g16, hF⟩ := gi_t hF
      refine st_marr hC hw hS (by omega) hn2 (show 31 ≤ 33 ∧ 33 ≤ 36 by decide) g16 dX9_setDraft_63 (fun H locs hw hS _ => ?_)
      obtain ⟨C17, eC17, hF⟩ := nm_t hF
      have hw := Wd.cast eC17 hw
      refine lv_iload_n hx hb dX9_setDraft_64 rfl (lv_at hl 0 rfl) ?_
      exact m_iret hC hr hlk hw hS dX9_setDraft_65 hF
    · have hF := it_f h10 hF
      refine lv_iconst (v := 0) hx hb dX9_setDraft_38 (by decide) ?_
      exact m_iret hC hr hlk hw hS dX9_setDraft_39 hF
  refine lv_if_ne (tgt := 15) hx hb dX9_setDraft_8 (by decide) (fun h4 => ?_) (fun h4 => ?_)
  · have hF := it_f h4 hF
    refine lv_iload_n hx hb dX9_setDraft_15 rfl (lv_at hl 2 rfl) ?_
    refine lv_i2l (v := (x1).toInt64) hx hb dX9_setDraft_16 rfl ?_
    refine lv_lconst (v := 0) hx hb dX9_setDraft_17 (by decide) ?_
    refine lv_ldc2 (v := 99) hx hb hC.2.2.2.1 (hC.2.2.2.2.1 _ kcX9_200) dX9_setDraft_18 ?_
    obtain ⟨r18, C19, hc20, hF⟩ := b2_t hF
    refine call_Si hC (c_X9_in l G n (by omega) hn2 ((x1).toInt64) (0 : Int64) (99 : Int64) _ _ _ hc20) wsX9_50 ⟨rfl, rfl, by decide, by decide⟩ hw hS hl.1 rfl (rest := [.ref (bb G + 244)]) rfl (Nat.le_of_ble_eq_true rfl) dX9_setDraft_21 ⟨by decide, by decide⟩ (fun H locs hw hS _ => ?_)
    refine lv_if_ne (tgt := 31) hx hb dX9_setDraft_24 (by decide) (fun h21 => ?_) (fun h21 => ?_)
    · have hF := it_f h21 hF
      refine lv_iconst (v := 0) hx hb dX9_setDraft_31 (by decide) ?_
      exact hJ32 (0 : Int32) C19 _ _ _ hF hw hS (lv_sub hl [0, 1, 2] rfl)
    · have hF := it_t h21 hF
      refine lv_iconst (v := 2) hx hb dX9_setDraft_27 (by decide) ?_
      refine lv_goto (tgt := 32) hx hb dX9_setDraft_28 (by decide) ?_
      exact hJ32 (2 : Int32) C19 _ _ _ hF hw hS (lv_sub hl [0, 1, 2] rfl)
  · have hF := it_t h4 hF
    refine lv_iconst (v := 1) hx hb dX9_setDraft_11 (by decide) ?_
    refine lv_goto (tgt := 32) hx hb dX9_setDraft_12 (by decide) ?_
    exact hJ32 (1 : Int32) C2 _ _ _ hF hw hS (lv_sub hl [0, 1, 2] rfl)
set_option maxHeartbeats 4000000 in
set_option maxRecDepth 100000 in
theorem c_X9_lock (l : Launch) (G : GG) (n : Nat) (hn : 252 ≤ n) (hn2 : n ≤ 253) (x0 : Int32) (C : Mem) (rR : Int32) (CR : Mem) (hF : F_X9_lock x0 C = some (rR, CR)) : Ct l yX9_lock cX9_lock 3 (some .int) (rmN 2 46) G n C [.ref (bb G + 244), .int x0] (some (.int rR)) CR := by
  refine Ct.of (by decide) (Nat.le_of_ble_eq_true rfl) ?_
  intro p e s m below meth c ls hC hr hlk hw hl
  have hx := hC.1
  have hb := hC.2.1
  have hS : LW G s s.heap [] := va_S.rf
  have hl : lv_has ls 3 [(0, .ref (bb G + 244)), (1, .int x0)] := hl
  unfold F_X9_lock at hF
  refine lv_aload_n hx hb dX9_lock_0 rfl (lv_at hl 0 rfl) ?_
  refine lv_aload_n hx hb dX9_lock_1 rfl (lv_at hl 0 rfl) ?_
  refine lv_iload_n hx hb dX9_lock_2 rfl (lv_at hl 1 rfl) ?_
  obtain ⟨r1, C2, hc3, hF⟩ := b2_t hF
  refine call_Vi hC (c_X9_isBoiler l G n (by omega) hn2 x0 _ _ _ hc3) wvX9_168 ⟨rfl, rfl, by decide, by decide⟩ hw hS (by omega) ca_model rfl hl.1 rfl (rest := [.ref (bb G + 244)]) rfl (Nat.le_of_ble_eq_true rfl) dX9_lock_3 ⟨by decide, by decide⟩ (fun H locs hw hS _ => ?_)
  have hJ33 : ∀ (v5 : Int32) (C6 : Mem) (H : Heap) (locs : List Loc) (ls : Array Slot), J_X9_lock_33 x0 v5 C6 = some (rR, CR) → Wd G n C6 H → LW G s H locs → lv_has ls 3 [(0, .ref (bb G + 244)), (1, .int x0)] → W p l e (rmN 2 46) s m ([.ref (bb G + 244), .int x0] : List Value).toArray below meth c H locs 0 0 (MQ below (QR G n (some (.int rR)) CR) ([.ref (bb G + 244), .int x0] : List Value).toArray s 0 0 (frA G)) (F0 m 33 ls [.int v5, .ref (bb G + 244)]) := by
    intro v5 C6 H locs ls hF hw hS hl
    unfold J_X9_lock_33 at hF
    obtain ⟨r7, C8, hc9, hF⟩ := b2_t hF
    refine call_Vi hC (c_X9_refused l G n (by omega) hn2 v5 _ _ _ hc9) wvX9_127 ⟨rfl, rfl, by decide, by decide⟩ hw hS (by omega) ca_model rfl hl.1 rfl (rest := []) rfl (Nat.le_of_ble_eq_true rfl) dX9_lock_33 ⟨by decide, by decide⟩ (fun H locs hw hS _ => ?_)
    refine lv_if_eq (tgt := 41) hx hb dX9_lock_36 (by decide) (fun h10 => ?_) (fun h10 => ?_)
    · have hF := it_t h10 hF
      refine lv_aload_n hx hb dX9_lock_41 rfl (lv_at hl 0 rfl) ?_
      obtain ⟨r11, C12, hc13, hF⟩ := b2_t hF
      refine call_Vv hC (c_X9_note l G n (by omega) hn2  _ _ _ hc13) wvX9_184 ⟨rfl, rfl, by decide, by decide⟩ hw hS (by omega) ca_model rfl hl.1 rfl (rest := []) rfl (Nat.le_of_ble_eq_true rfl) dX9_lock_42 ⟨by decide, by decide⟩ (fun H locs hw hS _ => ?_)
      refine lv_aload_n hx hb dX9_lock_45 rfl (lv_at hl 0 rfl) ?_
      refine gX9_23 hC hw (by omega)  dX9_lock_46 ?_
      refine lv_iload_n hx hb dX9_lock_49 rfl (lv_at hl 1 rfl) ?_
      obtain ⟨r14, C15, hc16, hF⟩ := b2_t hF
      refine call_Si hC (c_X9_at l G n (by omega) hn2 x0 _ _ _ hc16) wsX9_68 ⟨rfl, rfl, by decide, by decide⟩ hw hS hl.1 rfl (rest := [.ref (bb G + (33 + 214))]) rfl (Nat.le_of_ble_eq_true rfl) dX9_lock_50 ⟨by decide, by decide⟩ (fun H locs hw hS _ => ?_)
      refine lv_iconst (v := 2) hx hb dX9_lock_53 (by decide) ?_
      refine lv_iadd hx hb dX9_lock_54 ?_
      obtain ⟨g17, hF⟩ := gi_t hF
      refine ld_marr hC hw (by omega) (show 31 ≤ 33 ∧ 33 ≤ 36 by decide) g17 dX9_lock_55 ?_
      obtain ⟨v18, ev18, hF⟩ := nm_t hF
      refine lv_nmi ev18 ?_
      refine lv_istore_n (lv' := [(2, .int v18), (0, .ref (bb G + 244)), (1, .int x0)]) hx hb dX9_lock_56 rfl hl (by decide) rfl (fun ls hl => ?_)
      refine lv_aload_n hx hb dX9_lock_57 rfl (lv_at hl 1 rfl) ?_
      refine gX9_23 hC hw (by omega)  dX9_lock_58 ?_
      refine lv_iload_n hx hb dX9_lock_61 rfl (lv_at hl 2 rfl) ?_
      refine lv_iconst (v := 4) hx hb dX9_lock_62 (by decide) ?_
      obtain ⟨r19, C20, hc21, hF⟩ := b2_t hF
      refine call_Sv hC (c_X9_put l G n (by omega) hn2 33 (show 31 ≤ 33 ∧ 33 ≤ 36 by decide) x0 (4 : Int32) _ _ _ hc21) wsX9_202 ⟨rfl, rfl, by decide, by decide⟩ hw hS hl.1 rfl (rest := []) rfl (Nat.le_of_ble_eq_true rfl) dX9_lock_63 ⟨by decide, by decide⟩ (fun H locs hw hS _ => ?_)
      refine lv_iload_n hx hb dX9_lock_66 rfl (lv_at hl 0 rfl) ?_
      exact m_iret hC hr hlk hw hS dX9_lock_67 hF
    · have hF := it_f h10 hF
      refine lv_iconst (v := 0) hx hb dX9_lock_39 (by decide) ?_
      exact m_iret hC hr hlk hw hS dX9_lock_40 hF
  refine lv_if_ne (tgt := 13) hx hb dX9_lock_6 (by decide) (fun h4 => ?_) (fun h4 => ?_)
  · have hF := it_f h4 hF
    refine lv_aload_n hx hb dX9_lock_13 rfl (lv_at hl 0 rfl) ?_
    refine gX9_23 hC hw (by omega)  dX9_lock_14 ?_
    refine lv_iload_n hx hb dX9_lock_17 rfl (lv_at hl 1 rfl) ?_
    obtain ⟨r22, C23, hc24, hF⟩ := b2_t hF
    refine call_Si hC (c_X9_at l G n (by omega) hn2 x0 _ _ _ hc24) wsX9_68 ⟨rfl, rfl, by decide, by decide⟩ hw hS hl.1 rfl (rest := [.ref (bb G + (33 + 214)), .ref (bb G + 244)]) rfl (Nat.le_of_ble_eq_true rfl) dX9_lock_18 ⟨by decide, by decide⟩ (fun H locs hw hS _ => ?_)
    refine lv_iconst (v := 2) hx hb dX9_lock_21 (by decide) ?_
    refine lv_iadd hx hb dX9_lock_22 ?_
    obtain ⟨g25, hF⟩ := gi_t hF
    refine ld_marr hC hw (by omega) (show 31 ≤ 33 ∧ 33 ≤ 36 by decide) g25 dX9_lock_23 ?_
    refine lv_iconst (v := 4) hx hb dX9_lock_24 (by decide) ?_
    refine lv_icmp_ne (tgt := 32) hx hb dX9_lock_25 (by decide) (fun h26 => ?_) (fun h26 => ?_)
    · have hF := it_f h26 hF
      refine lv_iconst (v := 0) hx hb dX9_lock_32 (by decide) ?_
      exact hJ33 (0 : Int32) C23 _ _ _ hF hw hS (lv_sub hl [0, 1] rfl)
    · have hF := it_t h26 hF
      refine lv_iconst (v := 2) hx hb dX9_lock_28 (by decide) ?_
      refine lv_goto (tgt := 33) hx hb dX9_lock_29 (by decide) ?_
      exact hJ33 (2 : Int32) C23 _ _ _ hF hw hS (lv_sub hl [0, 1] rfl)
  · have hF := it_t h4 hF
    refine lv_iconst (v := 1) hx hb dX9_lock_9 (by decide) ?_
    refine lv_goto (tgt := 33) hx hb dX9_lock_10 (by decide) ?_
    exact hJ33 (1 : Int32) C2 _ _ _ hF hw hS (lv_sub hl [0, 1] rfl)
set_option maxHeartbeats 4000000 in
set_option maxRecDepth 100000 in
theorem c_X9_unlock (l : Launch) (G : GG) (n : Nat) (hn : 252 ≤ n) (hn2 : n ≤ 253) (x0 : Int32) (C : Mem) (rR : Int32) (CR : Mem) (hF : F_X9_unlock x0 C = some (rR, CR)) : Ct l yX9_unlock cX9_unlock 2 (some .int) (rmN 2 46) G n C [.ref (bb G + 244), .int x0] (some (.int rR)) CR := by
  refine Ct.of (by decide) (Nat.le_of_ble_eq_true rfl) ?_
  intro p e s m below meth c ls hC hr hlk hw hl
  have hx := hC.1
  have hb := hC.2.1
  have hS : LW G s s.heap [] := va_S.rf
  have hl : lv_has ls 2 [(0, .ref (bb G + 244)), (1, .int x0)] := hl
  unfold F_X9_unlock at hF
  refine lv_aload_n hx hb dX9_unlock_0 rfl (lv_at hl 0 rfl) ?_
  refine lv_aload_n hx hb dX9_unlock_1 rfl (lv_at hl 0 rfl) ?_
  refine lv_iload_n hx hb dX9_unlock_2 rfl (lv_at hl 1 rfl) ?_
  obtain ⟨r1, C2, hc3, hF⟩ := b2_t hF
  refine call_Vi hC (c_X9_isBoiler l G n (by omega) hn2 x0 _ _ _ hc3) wvX9_168 ⟨rfl, rfl, by decide, by decide⟩ hw hS (by omega) ca_model rfl hl.1 rfl (rest := [.ref (bb G + 244)]) rfl (Nat.le_of_ble_eq_true rfl) dX9_unlock_3 ⟨by decide, by decide⟩ (fun H locs hw hS _ => ?_)
  have hJ33 : ∀ (v5 : Int32) (C6 : Mem) (H : Heap) (locs : List Loc) (ls : Array Slot), J_X9_unlock_33 x0 v5 C6 = some (rR, CR) → Wd G n C6 H → LW G s H locs → lv_has ls 2 [(0, .ref (bb G + 244)), (1, .int x0)] → W p l e (rmN 2 46) s m ([.ref (bb G + 244), .int x0] : List Value).toArray below meth c H locs 0 0 (MQ below (QR G n (some (.int rR)) CR) ([.ref (bb G + 244), .int x0] : List Value).toArray s 0 0 (frA G)) (F0 m 33 ls [.int v5, .ref (bb G + 244)]) := by
    intro v5 C6 H locs ls hF hw hS hl
    unfold J_X9_unlock_33 at hF
    obtain ⟨r7, C8, hc9, hF⟩ := b2_t hF
    refine call_Vi hC (c_X9_refused l G n (by omega) hn2 v5 _ _ _ hc9) wvX9_127 ⟨rfl, rfl, by decide, by decide⟩ hw hS (by omega) ca_model rfl hl.1 rfl (rest := []) rfl (Nat.le_of_ble_eq_true rfl) dX9_unlock_33 ⟨by decide, by decide⟩ (fun H locs hw hS _ => ?_)
    refine lv_if_eq (tgt := 41) hx hb dX9_unlock_36 (by decide) (fun h10 => ?_) (fun h10 => ?_)
    · have hF := it_t h10 hF
      refine lv_aload_n hx hb dX9_unlock_41 rfl (lv_at hl 0 rfl) ?_
      obtain ⟨r11, C12, hc13, hF⟩ := b2_t hF
      refine call_Vv hC (c_X9_note l G n (by omega) hn2  _ _ _ hc13) wvX9_184 ⟨rfl, rfl, by decide, by decide⟩ hw hS (by omega) ca_model rfl hl.1 rfl (rest := []) rfl (Nat.le_of_ble_eq_true rfl) dX9_unlock_42 ⟨by decide, by decide⟩ (fun H locs hw hS _ => ?_)
      refine lv_aload_n hx hb dX9_unlock_45 rfl (lv_at hl 0 rfl) ?_
      refine gX9_23 hC hw (by omega)  dX9_unlock_46 ?_
      refine lv_iload_n hx hb dX9_unlock_49 rfl (lv_at hl 1 rfl) ?_
      refine lv_iconst (v := 0) hx hb dX9_unlock_50 (by decide) ?_
      obtain ⟨r14, C15, hc16, hF⟩ := b2_t hF
      refine call_Sv hC (c_X9_put l G n (by omega) hn2 33 (show 31 ≤ 33 ∧ 33 ≤ 36 by decide) x0 (0 : Int32) _ _ _ hc16) wsX9_202 ⟨rfl, rfl, by decide, by decide⟩ hw hS hl.1 rfl (rest := []) rfl (Nat.le_of_ble_eq_true rfl) dX9_unlock_51 ⟨by decide, by decide⟩ (fun H locs hw hS _ => ?_)
      refine lv_aload_n hx hb dX9_unlock_54 rfl (lv_at hl 0 rfl) ?_
      refine lv_aload_n hx hb dX9_unlock_55 rfl (lv_at hl 0 rfl) ?_
      refine gX9_23 hC hw (by omega)  dX9_unlock_56 ?_
      refine lv_iconst (v := 4) hx hb dX9_unlock_59 (by decide) ?_
      obtain ⟨r17, C18, hc19, hF⟩ := b2_t hF
      refine call_Vi hC (c_X9_count l G n (by omega) hn2 33 (show 31 ≤ 33 ∧ 33 ≤ 36 by decide) (4 : Int32) _ _ _ hc19) wvX9_165 ⟨rfl, rfl, by decide, by decide⟩ hw hS (by omega) ca_model rfl hl.1 rfl (rest := []) rfl (Nat.le_of_ble_eq_true rfl) dX9_unlock_60 ⟨by decide, by decide⟩ (fun H locs hw hS _ => ?_)
      exact m_iret hC hr hlk hw hS dX9_unlock_63 hF
    · have hF := it_f h10 hF
      refine lv_iconst (v := 0) hx hb dX9_unlock_39 (by decide) ?_
      exact m_iret hC hr hlk hw hS dX9_unlock_40 hF
  refine lv_if_ne (tgt := 13) hx hb dX9_unlock_6 (by decide) (fun h4 => ?_) (fun h4 => ?_)
  · have hF := it_f h4 hF
    refine lv_aload_n hx hb dX9_unlock_13 rfl (lv_at hl 0 rfl) ?_
    refine gX9_23 hC hw (by omega)  dX9_unlock_14 ?_
    refine lv_iload_n hx hb dX9_unlock_17 rfl (lv_at hl 1 rfl) ?_
    obtain ⟨r20, C21, hc22, hF⟩ := b2_t hF
    refine call_Si hC (c_X9_at l G n (by omega) hn2 x0 _ _ _ hc22) wsX9_68 ⟨rfl, rfl, by decide, by decide⟩ hw hS hl.1 rfl (rest := [.ref (bb G + (33 + 214)), .ref (bb G + 244)]) rfl (Nat.le_of_ble_eq_true rfl) dX9_unlock_18 ⟨by decide, by decide⟩ (fun H locs hw hS _ => ?_)
    refine lv_iconst (v := 2) hx hb dX9_unlock_21 (by decide) ?_
    refine lv_iadd hx hb dX9_unlock_22 ?_
    obtain ⟨g23, hF⟩ := gi_t hF
    refine ld_marr hC hw (by omega) (show 31 ≤ 33 ∧ 33 ≤ 36 by decide) g23 dX9_unlock_23 ?_
    refine lv_iconst (v := 4) hx hb dX9_unlock_24 (by decide) ?_
    refine lv_icmp_eq (tgt := 32) hx hb dX9_unlock_25 (by decide) (fun h24 => ?_) (fun h24 => ?_)
    · have hF := it_t h24 hF
      refine lv_iconst (v := 0) hx hb dX9_unlock_32 (by decide) ?_
      exact hJ33 (0 : Int32) C21 _ _ _ hF hw hS (lv_sub hl [0, 1] rfl)
    · have hF := it_f h24 hF
      refine lv_iconst (v := 2) hx hb dX9_unlock_28 (by decide) ?_
      refine lv_goto (tgt := 33) hx hb dX9_unlock_29 (by decide) ?_
      exact hJ33 (2 : Int32) C21 _ _ _ hF hw hS (lv_sub hl [0, 1] rfl)
  · have hF := it_t h4 hF
    refine lv_iconst (v := 1) hx hb dX9_unlock_9 (by decide) ?_
    refine lv_goto (tgt := 33) hx hb dX9_unlock_10 (by decide) ?_
    exact hJ33 (1 : Int32) C2 _ _ _ hF hw hS (lv_sub hl [0, 1] rfl)
set_option maxHeartbeats 4000000 in
set_option maxRecDepth 100000 in
theorem c_X9_putOff (l : Launch) (G : GG) (n : Nat) (hn : 252 ≤ n) (hn2 : n ≤ 253) (x0 : Int32) (C : Mem) (rR : Int32) (CR : Mem) (hF : F_X9_putOff x0 C = some (rR, CR)) : Ct l yX9_putOff cX9_putOff 2 (some .int) (rmN 2 46) G n C [.ref (bb G + 244), .int x0] (some (.int rR)) CR := by
  refine Ct.of (by decide) (Nat.le_of_ble_eq_true rfl) ?_
  intro p e s m below meth c ls hC hr hlk hw hl
  have hx := hC.1
  have hb := hC.2.1
  have hS : LW G s s.heap [] := va_S.rf
  have hl : lv_has ls 2 [(0, .ref (bb G + 244)), (1, .int x0)] := hl
  unfold F_X9_putOff at hF
  refine lv_aload_n hx hb dX9_putOff_0 rfl (lv_at hl 0 rfl) ?_
  refine lv_aload_n hx hb dX9_putOff_1 rfl (lv_at hl 0 rfl) ?_
  refine lv_iload_n hx hb dX9_putOff_2 rfl (lv_at hl 1 rfl) ?_
  obtain ⟨r1, C2, hc3, hF⟩ := b2_t hF
  refine call_Vi hC (c_X9_isBoiler l G n (by omega) hn2 x0 _ _ _ hc3) wvX9_168 ⟨rfl, rfl, by decide, by decide⟩ hw hS (by omega) ca_model rfl hl.1 rfl (rest := [.ref (bb G + 244)]) rfl (Nat.le_of_ble_eq_true rfl) dX9_putOff_3 ⟨by decide, by decide⟩ (fun H locs hw hS _ => ?_)
  have hJ33 : ∀ (v5 : Int32) (C6 : Mem) (H : Heap) (locs : List Loc) (ls : Array Slot), J_X9_putOff_33 x0 v5 C6 = some (rR, CR) → Wd G n C6 H → LW G s H locs → lv_has ls 2 [(0, .ref (bb G + 244)), (1, .int x0)] → W p l e (rmN 2 46) s m ([.ref (bb G + 244), .int x0] : List Value).toArray below meth c H locs 0 0 (MQ below (QR G n (some (.int rR)) CR) ([.ref (bb G + 244), .int x0] : List Value).toArray s 0 0 (frA G)) (F0 m 33 ls [.int v5, .ref (bb G + 244)]) := by
    intro v5 C6 H locs ls hF hw hS hl
    unfold J_X9_putOff_33 at hF
    obtain ⟨r7, C8, hc9, hF⟩ := b2_t hF
    refine call_Vi hC (c_X9_refused l G n (by omega) hn2 v5 _ _ _ hc9) wvX9_127 ⟨rfl, rfl, by decide, by decide⟩ hw hS (by omega) ca_model rfl hl.1 rfl (rest := []) rfl (Nat.le_of_ble_eq_true rfl) dX9_putOff_33 ⟨by decide, by decide⟩ (fun H locs hw hS _ => ?_)
    refine lv_if_eq (tgt := 41) hx hb dX9_putOff_36 (by decide) (fun h10 => ?_) (fun h10 => ?_)
    · have hF := it_t h10 hF
      refine lv_aload_n hx hb dX9_putOff_41 rfl (lv_at hl 0 rfl) ?_
      obtain ⟨r11, C12, hc13, hF⟩ := b2_t hF
      refine call_Vv hC (c_X9_note l G n (by omega) hn2  _ _ _ hc13) wvX9_184 ⟨rfl, rfl, by decide, by decide⟩ hw hS (by omega) ca_model rfl hl.1 rfl (rest := []) rfl (Nat.le_of_ble_eq_true rfl) dX9_putOff_42 ⟨by decide, by decide⟩ (fun H locs hw hS _ => ?_)
      refine lv_aload_n hx hb dX9_putOff_45 rfl (lv_at hl 0 rfl) ?_
      refine gX9_23 hC hw (by omega)  dX9_putOff_46 ?_
      refine lv_iload_n hx hb dX9_putOff_49 rfl (lv_at hl 1 rfl) ?_
      refine lv_iconst (v := 0) hx hb dX9_putOff_50 (by decide) ?_
      obtain ⟨r14, C15, hc16, hF⟩ := b2_t hF
      refine call_Sv hC (c_X9_put l G n (by omega) hn2 33 (show 31 ≤ 33 ∧ 33 ≤ 36 by decide) x0 (0 : Int32) _ _ _ hc16) wsX9_202 ⟨rfl, rfl, by decide, by decide⟩ hw hS hl.1 rfl (rest := []) rfl (Nat.le_of_ble_eq_true rfl) dX9_putOff_51 ⟨by decide, by decide⟩ (fun H locs hw hS _ => ?_)
      refine lv_aload_n hx hb dX9_putOff_54 rfl (lv_at hl 0 rfl) ?_
      refine gX9_23 hC hw (by omega)  dX9_putOff_55 ?_
      refine lv_iload_n hx hb dX9_putOff_58 rfl (lv_at hl 1 rfl) ?_
      obtain ⟨r17, C18, hc19, hF⟩ := b2_t hF
      refine call_Si hC (c_X9_at l G n (by omega) hn2 x0 _ _ _ hc19) wsX9_68 ⟨rfl, rfl, by decide, by decide⟩ hw hS hl.1 rfl (rest := [.ref (bb G + (33 + 214))]) rfl (Nat.le_of_ble_eq_true rfl) dX9_putOff_59 ⟨by decide, by decide⟩ (fun H locs hw hS _ => ?_)
      refine lv_bipush (v := 6) hx hb dX9_putOff_62 (by decide) ?_
      refine lv_iadd hx hb dX9_putOff_64 ?_
      obtain ⟨g20, hF⟩ := gi_t hF
      refine ld_marr hC hw (by omega) (show 31 ≤ 33 ∧ 33 ≤ 36 by decide) g20 dX9_putOff_65 ?_
      exact m_iret hC hr hlk hw hS dX9_putOff_66 hF
    · have hF := it_f h10 hF
      refine lv_iconst (v := 0) hx hb dX9_putOff_39 (by decide) ?_
      exact m_iret hC hr hlk hw hS dX9_putOff_40 hF
  refine lv_if_ne (tgt := 13) hx hb dX9_putOff_6 (by decide) (fun h4 => ?_) (fun h4 => ?_)
  · have hF := it_f h4 hF
    refine lv_aload_n hx hb dX9_putOff_13 rfl (lv_at hl 0 rfl) ?_
    refine gX9_23 hC hw (by omega)  dX9_putOff_14 ?_
    refine lv_iload_n hx hb dX9_putOff_17 rfl (lv_at hl 1 rfl) ?_
    obtain ⟨r21, C22, hc23, hF⟩ := b2_t hF
    refine call_Si hC (c_X9_at l G n (by omega) hn2 x0 _ _ _ hc23) wsX9_68 ⟨rfl, rfl, by decide, by decide⟩ hw hS hl.1 rfl (rest := [.ref (bb G + (33 + 214)), .ref (bb G + 244)]) rfl (Nat.le_of_ble_eq_true rfl) dX9_putOff_18 ⟨by decide, by decide⟩ (fun H locs hw hS _ => ?_)
    refine lv_iconst (v := 2) hx hb dX9_putOff_21 (by decide) ?_
    refine lv_iadd hx hb dX9_putOff_22 ?_
    obtain ⟨g24, hF⟩ := gi_t hF
    refine ld_marr hC hw (by omega) (show 31 ≤ 33 ∧ 33 ≤ 36 by decide) g24 dX9_putOff_23 ?_
    refine lv_iconst (v := 3) hx hb dX9_putOff_24 (by decide) ?_
    refine lv_icmp_eq (tgt := 32) hx hb dX9_putOff_25 (by decide) (fun h25 => ?_) (fun h25 => ?_)
    · have hF := it_t h25 hF
      refine lv_iconst (v := 0) hx hb dX9_putOff_32 (by decide) ?_
      exact hJ33 (0 : Int32) C22 _ _ _ hF hw hS (lv_sub hl [0, 1] rfl)
    · have hF := it_f h25 hF
      refine lv_iconst (v := 2) hx hb dX9_putOff_28 (by decide) ?_
      refine lv_goto (tgt := 33) hx hb dX9_putOff_29 (by decide) ?_
      exact hJ33 (2 : Int32) C22 _ _ _ hF hw hS (lv_sub hl [0, 1] rfl)
  · have hF := it_t h4 hF
    refine lv_iconst (v := 1) hx hb dX9_putOff_9 (by decide) ?_
    refine lv_goto (tgt := 33) hx hb dX9_putOff_10 (by decide) ?_
    exact hJ33 (1 : Int32) C2 _ _ _ hF hw hS (lv_sub hl [0, 1] rfl)
set_option maxHeartbeats 4000000 in
set_option maxRecDepth 100000 in
theorem c_X9_undo (l : Launch) (G : GG) (n : Nat) (hn : 252 ≤ n) (hn2 : n ≤ 253)  (C : Mem) (rR : Int32) (CR : Mem) (hF : F_X9_undo  C = some (rR, CR)) : Ct l yX9_undo cX9_undo 1 (some .int) (rmN 1 24) G n C [.ref (bb G + 244)] (some (.int rR)) CR := by
  refine Ct.of (by decide) (Nat.le_of_ble_eq_true rfl) ?_
  intro p e s m below meth c ls hC hr hlk hw hl
  have hx := hC.1
  have hb := hC.2.1
  have hS : LW G s s.heap [] := va_S.rf
  have hl : lv_has ls 1 [(0, .ref (bb G + 244))] := hl
  unfold F_X9_undo at hF
  refine lv_aload_n hx hb dX9_undo_0 rfl (lv_at hl 0 rfl) ?_
  refine lv_aload_n hx hb dX9_undo_1 rfl (lv_at hl 0 rfl) ?_
  refine gX9_160 hC hw (by omega)  dX9_undo_2 ?_
  have hJ13 : ∀ (v2 : Int32) (H : Heap) (locs : List Loc) (ls : Array Slot), J_X9_undo_13 C v2 = some (rR, CR) → Wd G n C H → LW G s H locs → lv_has ls 1 [(0, .ref (bb G + 244))] → W p l e (rmN 1 24) s m ([.ref (bb G + 244)] : List Value).toArray below meth c H locs 0 0 (MQ below (QR G n (some (.int rR)) CR) ([.ref (bb G + 244)] : List Value).toArray s 0 0 (frA G)) (F0 m 13 ls [.int v2, .ref (bb G + 244)]) := by
    intro v2 H locs ls hF hw hS hl
    unfold J_X9_undo_13 at hF
    obtain ⟨r3, C4, hc5, hF⟩ := b2_t hF
    refine call_Vi hC (c_X9_refused l G n (by omega) hn2 v2 _ _ _ hc5) wvX9_127 ⟨rfl, rfl, by decide, by decide⟩ hw hS (by omega) ca_model rfl hl.1 rfl (rest := []) rfl (Nat.le_of_ble_eq_true rfl) dX9_undo_13 ⟨by decide, by decide⟩ (fun H locs hw hS _ => ?_)
    refine lv_if_eq (tgt := 21) hx hb dX9_undo_16 (by decide) (fun h6 => ?_) (fun h6 => ?_)
    · have hF := it_t h6 hF
      refine lv_aload_n hx hb dX9_undo_21 rfl (lv_at hl 0 rfl) ?_
      refine lv_dup hx hb dX9_undo_22 rfl ?_
      refine gX9_160 hC hw (by omega)  dX9_undo_23 ?_
      refine lv_iconst (v := 1) hx hb dX9_undo_26 (by decide) ?_
      refine lv_isub hx hb dX9_undo_27 ?_
      refine pX9_160 hC hw hS (by omega) hn2  dX9_undo_28 (fun H locs hw hS _ => ?_)
      obtain ⟨C7, eC7, hF⟩ := nm_t hF
      have hw := Wd.cast eC7 hw
      refine lv_aload_n hx hb dX9_undo_31 rfl (lv_at hl 0 rfl) ?_
      refine gX9_29 hC hw (by omega)  dX9_undo_32 ?_
      refine lv_bipush (v := 65) hx hb dX9_undo_35 (by decide) ?_
      refine lv_aload_n hx hb dX9_undo_37 rfl (lv_at hl 0 rfl) ?_
      refine gX9_160 hC hw (by omega)  dX9_undo_38 ?_
      refine lv_imul hx hb dX9_undo_41 ?_
      refine lv_aload_n hx hb dX9_undo_42 rfl (lv_at hl 0 rfl) ?_
      refine gX9_23 hC hw (by omega)  dX9_undo_43 ?_
      refine lv_iconst (v := 0) hx hb dX9_undo_46 (by decide) ?_
      obtain ⟨r8, C9, hc10, hF⟩ := b2_t hF
      refine call_Sv hC (c_X9_copyPage l G n (by omega) hn2 35 (show 31 ≤ 35 ∧ 35 ≤ 36 by decide) ((65 : Int32) * (C7 30 12)) 33 (show 31 ≤ 33 ∧ 33 ≤ 36 by decide) (0 : Int32) _ _ _ hc10) wsX9_156 ⟨rfl, rfl, by decide, by decide⟩ hw hS hl.1 rfl (rest := []) rfl (Nat.le_of_ble_eq_true rfl) dX9_undo_47 ⟨by decide, by decide⟩ (fun H locs hw hS _ => ?_)
      refine lv_aload_n hx hb dX9_undo_50 rfl (lv_at hl 0 rfl) ?_
      refine gX9_160 hC hw (by omega)  dX9_undo_51 ?_
      exact m_iret hC hr hlk hw hS dX9_undo_54 hF
    · have hF := it_f h6 hF
      refine lv_iconst (v := 0) hx hb dX9_undo_19 (by decide) ?_
      exact m_iret hC hr hlk hw hS dX9_undo_20 hF
  refine lv_if_ne (tgt := 12) hx hb dX9_undo_5 (by decide) (fun h1 => ?_) (fun h1 => ?_)
  · have hF := it_f h1 hF
    refine lv_iconst (v := 0) hx hb dX9_undo_12 (by decide) ?_
    exact hJ13 (0 : Int32) _ _ _ hF hw hS (lv_sub hl [0] rfl)
  · have hF := it_t h1 hF
    refine lv_iconst (v := 1) hx hb dX9_undo_8 (by decide) ?_
    refine lv_goto (tgt := 13) hx hb dX9_undo_9 (by decide) ?_
    exact hJ13 (1 : Int32) _ _ _ hF hw hS (lv_sub hl [0] rfl)
set_option maxHeartbeats 4000000 in
set_option maxRecDepth 100000 in
theorem c_X9_next (l : Launch) (G : GG) (n : Nat) (hn : 252 ≤ n) (hn2 : n ≤ 253)  (C : Mem) (rR : Int32) (CR : Mem) (hF : F_X9_next  C = some (rR, CR)) : Ct l yX9_next cX9_next 1 (some .int) (rmN 4 91) G n C [.ref (bb G + 244)] (some (.int rR)) CR := by
  refine Ct.of (by decide) (Nat.le_of_ble_eq_true rfl) ?_
  intro p e s m below meth c ls hC hr hlk hw hl
  have hx := hC.1
  have hb := hC.2.1
  have hS : LW G s s.heap [] := va_S.rf
  have hl : lv_has ls 1 [(0, .ref (bb G + 244))] := hl
  unfold F_X9_next at hF
  refine lv_aload_n hx hb dX9_next_0 rfl (lv_at hl 0 rfl) ?_
  refine lv_iconst (v := 0) hx hb dX9_next_1 (by decide) ?_
  refine pX9_43 hC hw hS (by omega) hn2  dX9_next_2 (fun H locs hw hS _ => ?_)
  obtain ⟨C1, eC1, hF⟩ := nm_t hF
  have hw := Wd.cast eC1 hw
  refine lv_aload_n hx hb dX9_next_5 rfl (lv_at hl 0 rfl) ?_
  refine lv_aload_n hx hb dX9_next_6 rfl (lv_at hl 0 rfl) ?_
  refine gX9_23 hC hw (by omega)  dX9_next_7 ?_
  obtain ⟨r2, C3, hc4, hF⟩ := b2_t hF
  refine call_Vi hC (c_X9_nextOf l G n (by omega) hn2 33 (show 31 ≤ 33 ∧ 33 ≤ 36 by decide) _ _ _ hc4) wvX9_91 ⟨rfl, rfl, by decide, by decide⟩ hw hS (by omega) ca_model rfl hl.1 rfl (rest := []) rfl (Nat.le_of_ble_eq_true rfl) dX9_next_10 ⟨by decide, by decide⟩ (fun H locs hw hS _ => ?_)
  exact m_iret hC hr hlk hw hS dX9_next_13 hF
set_option maxHeartbeats 4000000 in
set_option maxRecDepth 100000 in
theorem c_X9_whyNot (l : Launch) (G : GG) (n : Nat) (hn : 252 ≤ n) (hn2 : n ≤ 253) (x0 : Int32) (C : Mem) (rR : Int32) (CR : Mem) (hF : F_X9_whyNot x0 C = some (rR, CR)) : Ct l yX9_whyNot cX9_whyNot 3 (some .int) (rmN 3 67) G n C [.ref (bb G + 244), .int x0] (some (.int rR)) CR := by
  refine Ct.of (by decide) (Nat.le_of_ble_eq_true rfl) ?_
  intro p e s m below meth c ls hC hr hlk hw hl
  have hx := hC.1
  have hb := hC.2.1
  have hS : LW G s s.heap [] := va_S.rf
  have hl : lv_has ls 3 [(0, .ref (bb G + 244)), (1, .int x0)] := hl
  unfold F_X9_whyNot at hF
  refine lv_aload_n hx hb dX9_whyNot_0 rfl (lv_at hl 0 rfl) ?_
  refine lv_aload_n hx hb dX9_whyNot_1 rfl (lv_at hl 0 rfl) ?_
  refine lv_iload_n hx hb dX9_whyNot_2 rfl (lv_at hl 1 rfl) ?_
  obtain ⟨r1, C2, hc3, hF⟩ := b2_t hF
  refine call_Vi hC (c_X9_isBoiler l G n (by omega) hn2 x0 _ _ _ hc3) wvX9_168 ⟨rfl, rfl, by decide, by decide⟩ hw hS (by omega) ca_model rfl hl.1 rfl (rest := [.ref (bb G + 244)]) rfl (Nat.le_of_ble_eq_true rfl) dX9_whyNot_3 ⟨by decide, by decide⟩ (fun H locs hw hS _ => ?_)
  have hJ14 : ∀ (v5 : Int32) (H : Heap) (locs : List Loc) (ls : Array Slot), J_X9_whyNot_14 x0 C2 v5 = some (rR, CR) → Wd G n C2 H → LW G s H locs → lv_has ls 3 [(0, .ref (bb G + 244)), (1, .int x0)] → W p l e (rmN 3 67) s m ([.ref (bb G + 244), .int x0] : List Value).toArray below meth c H locs 0 0 (MQ below (QR G n (some (.int rR)) CR) ([.ref (bb G + 244), .int x0] : List Value).toArray s 0 0 (frA G)) (F0 m 14 ls [.int v5, .ref (bb G + 244)]) := by
    intro v5 H locs ls hF hw hS hl
    unfold J_X9_whyNot_14 at hF
    obtain ⟨r6, C7, hc8, hF⟩ := b2_t hF
    refine call_Vi hC (c_X9_refused l G n (by omega) hn2 v5 _ _ _ hc8) wvX9_127 ⟨rfl, rfl, by decide, by decide⟩ hw hS (by omega) ca_model rfl hl.1 rfl (rest := []) rfl (Nat.le_of_ble_eq_true rfl) dX9_whyNot_14 ⟨by decide, by decide⟩ (fun H locs hw hS _ => ?_)
    refine lv_if_eq (tgt := 22) hx hb dX9_whyNot_17 (by decide) (fun h9 => ?_) (fun h9 => ?_)
    · have hF := it_t h9 hF
      refine lv_aload_n hx hb dX9_whyNot_22 rfl (lv_at hl 0 rfl) ?_
      refine gX9_23 hC hw (by omega)  dX9_whyNot_23 ?_
      refine lv_iload_n hx hb dX9_whyNot_26 rfl (lv_at hl 1 rfl) ?_
      obtain ⟨r10, C11, hc12, hF⟩ := b2_t hF
      refine call_Si hC (c_X9_at l G n (by omega) hn2 x0 _ _ _ hc12) wsX9_68 ⟨rfl, rfl, by decide, by decide⟩ hw hS hl.1 rfl (rest := [.ref (bb G + (33 + 214))]) rfl (Nat.le_of_ble_eq_true rfl) dX9_whyNot_27 ⟨by decide, by decide⟩ (fun H locs hw hS _ => ?_)
      refine lv_iconst (v := 2) hx hb dX9_whyNot_30 (by decide) ?_
      refine lv_iadd hx hb dX9_whyNot_31 ?_
      obtain ⟨g13, hF⟩ := gi_t hF
      refine ld_marr hC hw (by omega) (show 31 ≤ 33 ∧ 33 ≤ 36 by decide) g13 dX9_whyNot_32 ?_
      obtain ⟨v14, ev14, hF⟩ := nm_t hF
      refine lv_nmi ev14 ?_
      refine lv_istore_n (lv' := [(2, .int v14), (0, .ref (bb G + 244)), (1, .int x0)]) hx hb dX9_whyNot_33 rfl hl (by decide) rfl (fun ls hl => ?_)
      refine lv_iload_n hx hb dX9_whyNot_34 rfl (lv_at hl 0 rfl) ?_
      obtain ⟨r15, C16, hc17, hF⟩ := b2_t hF
      refine call_Si hC (c_X9_works l G n (by omega) hn2 v14 _ _ _ hc17) wsX9_72 ⟨rfl, rfl, by decide, by decide⟩ hw hS hl.1 rfl (rest := []) rfl (Nat.le_of_ble_eq_true rfl) dX9_whyNot_35 ⟨by decide, by decide⟩ (fun H locs hw hS _ => ?_)
      refine lv_if_eq (tgt := 45) hx hb dX9_whyNot_38 (by decide) (fun h18 => ?_) (fun h18 => ?_)
      · have hF := it_t h18 hF
        refine lv_iload_n hx hb dX9_whyNot_45 rfl (lv_at hl 0 rfl) ?_
        refine lv_iconst (v := 4) hx hb dX9_whyNot_46 (by decide) ?_
        refine lv_icmp_ne (tgt := 54) hx hb dX9_whyNot_47 (by decide) (fun h19 => ?_) (fun h19 => ?_)
        · have hF := it_f h19 hF
          refine lv_aload_n hx hb dX9_whyNot_54 rfl (lv_at hl 1 rfl) ?_
          refine lv_aload_n hx hb dX9_whyNot_55 rfl (lv_at hl 1 rfl) ?_
          refine gX9_23 hC hw (by omega)  dX9_whyNot_56 ?_
          refine lv_iload_n hx hb dX9_whyNot_59 rfl (lv_at hl 2 rfl) ?_
          obtain ⟨r20, C21, hc22, hF⟩ := b2_t hF
          refine call_Vi hC (c_X9_canStart l G n (by omega) hn2 33 (show 31 ≤ 33 ∧ 33 ≤ 36 by decide) x0 _ _ _ hc22) wvX9_83 ⟨rfl, rfl, by decide, by decide⟩ hw hS (by omega) ca_model rfl hl.1 rfl (rest := []) rfl (Nat.le_of_ble_eq_true rfl) dX9_whyNot_60 ⟨by decide, by decide⟩ (fun H locs hw hS _ => ?_)
          refine lv_if_eq (tgt := 70) hx hb dX9_whyNot_63 (by decide) (fun h23 => ?_) (fun h23 => ?_)
          · have hF := it_t h23 hF
            refine lv_aload_n hx hb dX9_whyNot_70 rfl (lv_at hl 1 rfl) ?_
            refine gX9_23 hC hw (by omega)  dX9_whyNot_71 ?_
            refine lv_bipush (v := 20) hx hb dX9_whyNot_74 (by decide) ?_
            refine lv_aload_n hx hb dX9_whyNot_76 rfl (lv_at hl 1 rfl) ?_
            refine gX9_23 hC hw (by omega)  dX9_whyNot_77 ?_
            refine lv_iload_n hx hb dX9_whyNot_80 rfl (lv_at hl 2 rfl) ?_
            obtain ⟨r24, C25, hc26, hF⟩ := b2_t hF
            refine call_Si hC (c_X9_at l G n (by omega) hn2 x0 _ _ _ hc26) wsX9_68 ⟨rfl, rfl, by decide, by decide⟩ hw hS hl.1 rfl (rest := [.ref (bb G + (33 + 214)), .int (20 : Int32), .ref (bb G + (33 + 214))]) rfl (Nat.le_of_ble_eq_true rfl) dX9_whyNot_81 ⟨by decide, by decide⟩ (fun H locs hw hS _ => ?_)
            refine lv_iconst (v := 1) hx hb dX9_whyNot_84 (by decide) ?_
            refine lv_iadd hx hb dX9_whyNot_85 ?_
            obtain ⟨g27, hF⟩ := gi_t hF
            refine ld_marr hC hw (by omega) (show 31 ≤ 33 ∧ 33 ≤ 36 by decide) g27 dX9_whyNot_86 ?_
            refine lv_iadd hx hb dX9_whyNot_87 ?_
            obtain ⟨g28, hF⟩ := gi_t hF
            refine ld_marr hC hw (by omega) (show 31 ≤ 33 ∧ 33 ≤ 36 by decide) g28 dX9_whyNot_88 ?_
            refine lv_if_ne (tgt := 96) hx hb dX9_whyNot_89 (by decide) (fun h29 => ?_) (fun h29 => ?_)
            · have hF := it_f h29 hF
              refine lv_iconst (v := 4) hx hb dX9_whyNot_96 (by decide) ?_
              exact m_iret hC hr hlk hw hS dX9_whyNot_97 hF
            · have hF := it_t h29 hF
              refine lv_iconst (v := 3) hx hb dX9_whyNot_92 (by decide) ?_
              refine lv_goto (tgt := 97) hx hb dX9_whyNot_93 (by decide) ?_
              exact m_iret hC hr hlk hw hS dX9_whyNot_97 hF
          · have hF := it_f h23 hF
            refine lv_iconst (v := 0) hx hb dX9_whyNot_66 (by decide) ?_
            refine lv_goto (tgt := 97) hx hb dX9_whyNot_67 (by decide) ?_
            exact m_iret hC hr hlk hw hS dX9_whyNot_97 hF
        · have hF := it_t h19 hF
          refine lv_iconst (v := 2) hx hb dX9_whyNot_50 (by decide) ?_
          refine lv_goto (tgt := 97) hx hb dX9_whyNot_51 (by decide) ?_
          exact m_iret hC hr hlk hw hS dX9_whyNot_97 hF
      · have hF := it_f h18 hF
        refine lv_iconst (v := 1) hx hb dX9_whyNot_41 (by decide) ?_
        refine lv_goto (tgt := 97) hx hb dX9_whyNot_42 (by decide) ?_
        exact m_iret hC hr hlk hw hS dX9_whyNot_97 hF
    · have hF := it_f h9 hF
      refine lv_iconst (v := 0) hx hb dX9_whyNot_20 (by decide) ?_
      exact m_iret hC hr hlk hw hS dX9_whyNot_21 hF
  refine lv_if_eq (tgt := 13) hx hb dX9_whyNot_6 (by decide) (fun h4 => ?_) (fun h4 => ?_)
  · have hF := it_t h4 hF
    refine lv_iconst (v := 1) hx hb dX9_whyNot_13 (by decide) ?_
    exact hJ14 (1 : Int32) _ _ _ hF hw hS (lv_sub hl [0, 1] rfl)
  · have hF := it_f h4 hF
    refine lv_iconst (v := 0) hx hb dX9_whyNot_9 (by decide) ?_
    refine lv_goto (tgt := 14) hx hb dX9_whyNot_10 (by decide) ?_
    exact hJ14 (0 : Int32) _ _ _ hF hw hS (lv_sub hl [0, 1] rfl)
set_option maxHeartbeats 4000000 in
set_option maxRecDepth 100000 in
theorem c_X9_smallestSet (l : Launch) (G : GG) (n : Nat) (hn : 252 ≤ n) (hn2 : n ≤ 253) (x0 : Int32) (x1 : Int32) (C : Mem) (rR : Int32) (CR : Mem) (hF : F_X9_smallestSet x0 x1 C = some (rR, CR)) : Ct l yX9_smallestSet cX9_smallestSet 12 (some .int) (rmN 1 25) G n C [.ref (bb G + 244), .int x0, .int x1] (some (.int rR)) CR := by
  refine Ct.of (by decide) (Nat.le_of_ble_eq_true rfl) ?_
  intro p e s m below meth c ls hC hr hlk hw hl
  have hx := hC.1
  have hb := hC.2.1
  have hS : LW G s s.heap [] := va_S.rf
  have hl : lv_has ls 12 [(0, .ref (bb G + 244)), (1, .int x0), (2, .int x1)] := hl
  unfold F_X9_smallestSet at hF
  refine lv_aload_n hx hb dX9_smallestSet_0 rfl (lv_at hl 0 rfl) ?_
  refine lv_iload_n hx hb dX9_smallestSet_1 rfl (lv_at hl 1 rfl) ?_
  refine lv_i2l (v := (x0).toInt64) hx hb dX9_smallestSet_2 rfl ?_
  refine lv_lconst (v := 1) hx hb dX9_smallestSet_3 (by decide) ?_
  refine lv_ldc2 (v := 150) hx hb hC.2.2.2.1 (hC.2.2.2.2.1 _ kcX9_205) dX9_smallestSet_4 ?_
  obtain ⟨r1, C2, hc3, hF⟩ := b2_t hF
  refine call_Si hC (c_X9_in l G n (by omega) hn2 ((x0).toInt64) (1 : Int64) (150 : Int64) _ _ _ hc3) wsX9_50 ⟨rfl, rfl, by decide, by decide⟩ hw hS hl.1 rfl (rest := [.ref (bb G + 244)]) rfl (Nat.le_of_ble_eq_true rfl) dX9_smallestSet_7 ⟨by decide, by decide⟩ (fun H locs hw hS _ => ?_)
  have hJ18 : ∀ (v5 : Int32) (H : Heap) (locs : List Loc) (ls : Array Slot), J_X9_smallestSet_18 x0 x1 C2 v5 = some (rR, CR) → Wd G n C2 H → LW G s H locs → lv_has ls 12 [(0, .ref (bb G + 244)), (1, .int x0), (2, .int x1)] → W p l e (rmN 1 25) s m ([.ref (bb G + 244), .int x0, .int x1] : List Value).toArray below meth c H locs 0 0 (MQ below (QR G n (some (.int rR)) CR) ([.ref (bb G + 244), .int x0, .int x1] : List Value).toArray s 0 0 (frA G)) (F0 m 18 ls [.int v5, .ref (bb G + 244)]) := by
    intro v5 H locs ls hF hw hS hl
    unfold J_X9_smallestSet_18 at hF
    obtain ⟨r6, C7, hc8, hF⟩ := b2_t hF
    refine call_Vi hC (c_X9_refused l G n (by omega) hn2 v5 _ _ _ hc8) wvX9_127 ⟨rfl, rfl, by decide, by decide⟩ hw hS (by omega) ca_model rfl hl.1 rfl (rest := []) rfl (Nat.le_of_ble_eq_true rfl) dX9_smallestSet_18 ⟨by decide, by decide⟩ (fun H locs hw hS _ => ?_)
    refine lv_if_eq (tgt := 26) hx hb dX9_smallestSet_21 (by decide) (fun h9 => ?_) (fun h9 => ?_)
    · have hF := it_t h9 hF
      refine lv_bipush (v := -9) hx hb dX9_smallestSet_26 (by decide) ?_
      refine lv_istore_n (lv' := [(3, .int (-9 : Int32)), (0, .ref (bb G + 244)), (1, .int x0), (2, .int x1)]) hx hb dX9_smallestSet_28 rfl hl (by decide) rfl (fun ls hl => ?_)
      refine lv_iconst (v := 0) hx hb dX9_smallestSet_29 (by decide) ?_
      refine lv_istore (lv' := [(4, .int (0 : Int32)), (3, .int (-9 : Int32)), (0, .ref (bb G + 244)), (1, .int x0), (2, .int x1)]) hx hb dX9_smallestSet_30 hl (by decide) rfl (fun ls hl => ?_)
      refine lv_iconst (v := 0) hx hb dX9_smallestSet_32 (by decide) ?_
      refine lv_istore (lv' := [(5, .int (0 : Int32)), (4, .int (0 : Int32)), (3, .int (-9 : Int32)), (0, .ref (bb G + 244)), (1, .int x0), (2, .int x1)]) hx hb dX9_smallestSet_33 hl (by decide) rfl (fun ls hl => ?_)
      refine lv_iconst (v := 1) hx hb dX9_smallestSet_35 (by decide) ?_
      refine lv_istore (lv' := [(6, .int (1 : Int32)), (5, .int (0 : Int32)), (4, .int (0 : Int32)), (3, .int (-9 : Int32)), (0, .ref (bb G + 244)), (1, .int x0), (2, .int x1)]) hx hb dX9_smallestSet_36 hl (by decide) rfl (fun ls hl => ?_)
      obtain ⟨o15, hit15, hG15⟩ := b1_t hF
      have hR15 : ∀ (v16 : Int32) (v17 : Int32) (v18 : Int32) (v19 : Int32) (C20 : Mem) (H : Heap) (locs : List Loc) (ls : Array Slot), o15 = (v16, v17, v18, v19, C20) → Wd G n C20 H → LW G s H locs → lv_has ls 12 [(2, .int x1), (3, .int v16), (5, .int v18)] → W p l e (rmN 1 25) s m ([.ref (bb G + 244), .int x0, .int x1] : List Value).toArray below meth c H locs 0 0 (MQ below (QR G n (some (.int rR)) CR) ([.ref (bb G + 244), .int x0, .int x1] : List Value).toArray s 0 0 (frA G)) (F0 m 281 ls []) := by
        intro v16 v17 v18 v19 C20 H locs ls hE hw hS hl
        subst hE
        have hF := u5_t (hG15)
        refine lv_iload_n hx hb dX9_smallestSet_281 rfl (lv_at hl 1 rfl) ?_
        refine lv_bipush (v := -9) hx hb dX9_smallestSet_282 (by decide) ?_
        refine lv_icmp_eq (tgt := 291) hx hb dX9_smallestSet_284 (by decide) (fun h86 => ?_) (fun h86 => ?_)
        · have hF := it_t h86 hF
          refine lv_iload_n hx hb dX9_smallestSet_291 rfl (lv_at hl 1 rfl) ?_
          refine lv_goto (tgt := 297) hx hb dX9_smallestSet_292 (by decide) ?_
          exact m_iret hC hr hlk hw hS dX9_smallestSet_297 hF
        · have hF := it_f h86 hF
          refine lv_iload_n hx hb dX9_smallestSet_287 rfl (lv_at hl 0 rfl) ?_
          refine lv_if_eq (tgt := 295) hx hb dX9_smallestSet_288 (by decide) (fun h87 => ?_) (fun h87 => ?_)
          · have hF := it_t h87 hF
            refine lv_iload hx hb dX9_smallestSet_295 (lv_at hl 2 rfl) ?_
            exact m_iret hC hr hlk hw hS dX9_smallestSet_297 hF
          · have hF := it_f h87 hF
            refine lv_iload_n hx hb dX9_smallestSet_291 rfl (lv_at hl 1 rfl) ?_
            refine lv_goto (tgt := 297) hx hb dX9_smallestSet_292 (by decide) ?_
            exact m_iret hC hr hlk hw hS dX9_smallestSet_297 hF
      refine iter_sound (P := fun x : Int32 × Int32 × Int32 × Int32 × Mem => ∀ (H : Heap) (locs : List Loc) (ls : Array Slot), Wd G n x.2.2.2.2 H → LW G s H locs → lv_has ls 12 [(0, .ref (bb G + 244)), (1, .int x0), (2, .int x1), (3, .int x.1), (4, .int x.2.1), (5, .int x.2.2.1), (6, .int x.2.2.2.1)] → W p l e (rmN 1 25) s m ([.ref (bb G + 244), .int x0, .int x1] : List Value).toArray below meth c H locs 0 0 (MQ below (QR G n (some (.int rR)) CR) ([.ref (bb G + 244), .int x0, .int x1] : List Value).toArray s 0 0 (frA G)) (F0 m 38 ls [])) (X := fun r => r = o15) ?_ fuel ((-9 : Int32), (0 : Int32), (0 : Int32), (1 : Int32), C7) o15 hit15 rfl _ _ _ hw hS (lv_sub hl [4, 5, 6, 3, 2, 1, 0] rfl)
      intro x oo15 hF hk15 hX15 H locs ls hw hS hl
      obtain ⟨v10, v11, v12, v13, C14⟩ := x
      have hF : S_X9_smallestSet_38 x0 v10 v11 v12 v13 C14 = some oo15 := hF
      have hw : Wd G n C14 H := hw
      have hl : lv_has ls 12 [(0, .ref (bb G + 244)), (1, .int x0), (2, .int x1), (3, .int v10), (4, .int v11), (5, .int v12), (6, .int v13)] := hl
      unfold S_X9_smallestSet_38 at hF
      refine lv_iload hx hb dX9_smallestSet_38 (lv_at hl 6 rfl) ?_
      refine lv_iconst (v := 1) hx hb dX9_smallestSet_40 (by decide) ?_
      refine lv_aload_n hx hb dX9_smallestSet_41 rfl (lv_at hl 0 rfl) ?_
      refine gX9_13 hC hw (by omega)  dX9_smallestSet_42 ?_
      refine lv_ishl hx hb dX9_smallestSet_45 ?_
      refine lv_icmp_ge (tgt := 281) hx hb dX9_smallestSet_46 (by decide) (fun h21 => ?_) (fun h21 => ?_)
      · have hF := it_t h21 hF
        exact hR15 _ _ _ _ _ _ _ _ (it_exit hF hX15).symm hw hS (lv_sub hl [2, 3, 5] rfl)
      · have hF := it_f h21 hF
        refine lv_iconst (v := 0) hx hb dX9_smallestSet_49 (by decide) ?_
        refine lv_istore (lv' := [(7, .int (0 : Int32)), (0, .ref (bb G + 244)), (1, .int x0), (2, .int x1), (3, .int v10), (4, .int v11), (5, .int v12), (6, .int v13)]) hx hb dX9_smallestSet_50 hl (by decide) rfl (fun ls hl => ?_)
        refine lv_iconst (v := 0) hx hb dX9_smallestSet_52 (by decide) ?_
        refine lv_istore (lv' := [(8, .int (0 : Int32)), (7, .int (0 : Int32)), (0, .ref (bb G + 244)), (1, .int x0), (2, .int x1), (3, .int v10), (4, .int v11), (5, .int v12), (6, .int v13)]) hx hb dX9_smallestSet_53 hl (by decide) rfl (fun ls hl => ?_)
        refine lv_iconst (v := 0) hx hb dX9_smallestSet_55 (by decide) ?_
        refine lv_istore (lv' := [(9, .int (0 : Int32)), (8, .int (0 : Int32)), (7, .int (0 : Int32)), (0, .ref (bb G + 244)), (1, .int x0), (2, .int x1), (3, .int v10), (4, .int v11), (5, .int v12), (6, .int v13)]) hx hb dX9_smallestSet_56 hl (by decide) rfl (fun ls hl => ?_)
        refine lv_iconst (v := 0) hx hb dX9_smallestSet_58 (by decide) ?_
        refine lv_istore (lv' := [(10, .int (0 : Int32)), (9, .int (0 : Int32)), (8, .int (0 : Int32)), (7, .int (0 : Int32)), (0, .ref (bb G + 244)), (1, .int x0), (2, .int x1), (3, .int v10), (4, .int v11), (5, .int v12), (6, .int v13)]) hx hb dX9_smallestSet_59 hl (by decide) rfl (fun ls hl => ?_)
        obtain ⟨o27, hit27, hG27⟩ := b1_t hF
        have hR27 : ∀ (v28 : Int32) (v29 : Int32) (v30 : Int32) (v31 : Int32) (C32 : Mem) (H : Heap) (locs : List Loc) (ls : Array Slot), o27 = (v28, v29, v30, v31, C32) → Wd G n C32 H → LW G s H locs → lv_has ls 12 [(0, .ref (bb G + 244)), (1, .int x0), (2, .int x1), (3, .int v10), (4, .int v11), (5, .int v12), (6, .int v13), (7, .int v28), (8, .int v29), (9, .int v30)] → W p l e (rmN 1 25) s m ([.ref (bb G + 244), .int x0, .int x1] : List Value).toArray below meth c H locs 0 0 (MQ below (QR G n (some (.int rR)) CR) ([.ref (bb G + 244), .int x0, .int x1] : List Value).toArray s 0 0 (frA G)) (F0 m 188 ls []) := by
          intro v28 v29 v30 v31 C32 H locs ls hE hw hS hl
          subst hE
          have hF := u5_t (hG27)
          refine lv_iload hx hb dX9_smallestSet_188 (lv_at hl 8 rfl) ?_
          refine lv_iload hx hb dX9_smallestSet_190 (lv_at hl 9 rfl) ?_
          refine lv_iadd hx hb dX9_smallestSet_192 ?_
          obtain ⟨v68, ev68, hF⟩ := nm_t hF
          refine lv_nmi ev68 ?_
          refine lv_istore (lv' := [(10, .int v68), (0, .ref (bb G + 244)), (1, .int x0), (2, .int x1), (3, .int v10), (4, .int v11), (5, .int v12), (6, .int v13), (7, .int v28), (8, .int v29), (9, .int v30)]) hx hb dX9_smallestSet_193 hl (by decide) rfl (fun ls hl => ?_)
          refine lv_iload hx hb dX9_smallestSet_195 (lv_at hl 9 rfl) ?_
          refine lv_aload_n hx hb dX9_smallestSet_197 rfl (lv_at hl 1 rfl) ?_
          refine gX9_23 hC hw (by omega)  dX9_smallestSet_198 ?_
          refine lv_bipush (v := 18) hx hb dX9_smallestSet_201 (by decide) ?_
          obtain ⟨g69, hF⟩ := gi_t hF
          refine ld_marr hC hw (by omega) (show 31 ≤ 33 ∧ 33 ≤ 36 by decide) g69 dX9_smallestSet_203 ?_
          have hJ230 : ∀ (v71 : Int32) (H : Heap) (locs : List Loc) (ls : Array Slot), J_X9_smallestSet_230 v10 v11 v12 v13 v28 C32 v68 v71 = some oo15 → Wd G n C32 H → LW G s H locs → lv_has ls 12 [(0, .ref (bb G + 244)), (1, .int x0), (2, .int x1), (3, .int v10), (4, .int v11), (5, .int v12), (6, .int v13), (7, .int v28), (10, .int v68)] → W p l e (rmN 1 25) s m ([.ref (bb G + 244), .int x0, .int x1] : List Value).toArray below meth c H locs 0 0 (MQ below (QR G n (some (.int rR)) CR) ([.ref (bb G + 244), .int x0, .int x1] : List Value).toArray s 0 0 (frA G)) (F0 m 230 ls [.int v71]) := by
            intro v71 H locs ls hF hw hS hl
            unfold J_X9_smallestSet_230 at hF
            refine lv_istore (lv' := [(11, .int v71), (0, .ref (bb G + 244)), (1, .int x0), (2, .int x1), (3, .int v10), (4, .int v11), (5, .int v12), (6, .int v13), (7, .int v28), (10, .int v68)]) hx hb dX9_smallestSet_230 hl (by decide) rfl (fun ls hl => ?_)
            refine lv_iload hx hb dX9_smallestSet_232 (lv_at hl 0 rfl) ?_
            refine lv_if_eq (tgt := 275) hx hb dX9_smallestSet_234 (by decide) (fun h72 => ?_) (fun h72 => ?_)
            · have hF := it_t h72 hF
              obtain ⟨v73, ev73, hF⟩ := nm_t hF
              refine lv_iinc (v := v73) (lv' := [(6, .int v73), (11, .int v71), (0, .ref (bb G + 244)), (1, .int x0), (2, .int x1), (3, .int v10), (4, .int v11), (5, .int v12), (7, .int v28), (10, .int v68)]) hx hb dX9_smallestSet_275 hl (k := 7) rfl (by rw [ev73]; rfl) (by decide) rfl (fun ls hl => ?_)
              refine lv_goto (tgt := 38) hx hb dX9_smallestSet_278 (by decide) ?_
              exact it_back hF hk15 _ _ _ hw hS (lv_sub hl [2, 3, 4, 5, 6, 7, 0] rfl)
            · have hF := it_f h72 hF
              refine lv_iload_n hx hb dX9_smallestSet_237 rfl (lv_at hl 4 rfl) ?_
              refine lv_bipush (v := -9) hx hb dX9_smallestSet_238 (by decide) ?_
              refine lv_icmp_eq (tgt := 264) hx hb dX9_smallestSet_240 (by decide) (fun h74 => ?_) (fun h74 => ?_)
              · have hF := it_t h74 hF
                refine lv_iload hx hb dX9_smallestSet_264 (lv_at hl 7 rfl) ?_
                refine lv_istore_n (lv' := [(3, .int v13), (11, .int v71), (0, .ref (bb G + 244)), (1, .int x0), (2, .int x1), (4, .int v11), (5, .int v12), (6, .int v13), (7, .int v28), (10, .int v68)]) hx hb dX9_smallestSet_266 rfl hl (by decide) rfl (fun ls hl => ?_)
                refine lv_iload hx hb dX9_smallestSet_267 (lv_at hl 8 rfl) ?_
                refine lv_istore (lv' := [(4, .int v28), (3, .int v13), (11, .int v71), (0, .ref (bb G + 244)), (1, .int x0), (2, .int x1), (5, .int v12), (6, .int v13), (7, .int v28), (10, .int v68)]) hx hb dX9_smallestSet_269 hl (by decide) rfl (fun ls hl => ?_)
                refine lv_iload hx hb dX9_smallestSet_271 (lv_at hl 9 rfl) ?_
                refine lv_istore (lv' := [(5, .int v68), (4, .int v28), (3, .int v13), (11, .int v71), (0, .ref (bb G + 244)), (1, .int x0), (2, .int x1), (6, .int v13), (7, .int v28), (10, .int v68)]) hx hb dX9_smallestSet_273 hl (by decide) rfl (fun ls hl => ?_)
                obtain ⟨v75, ev75, hF⟩ := nm_t hF
                refine lv_iinc (v := v75) (lv' := [(6, .int v75), (5, .int v68), (4, .int v28), (3, .int v13), (11, .int v71), (0, .ref (bb G + 244)), (1, .int x0), (2, .int x1), (7, .int v28), (10, .int v68)]) hx hb dX9_smallestSet_275 hl (k := 7) rfl (by rw [ev75]; rfl) (by decide) rfl (fun ls hl => ?_)
                refine lv_goto (tgt := 38) hx hb dX9_smallestSet_278 (by decide) ?_
                exact it_back hF hk15 _ _ _ hw hS (lv_sub hl [5, 6, 7, 3, 2, 1, 0] rfl)
              · have hF := it_f h74 hF
                refine lv_iload hx hb dX9_smallestSet_243 (lv_at hl 8 rfl) ?_
                refine lv_iload hx hb dX9_smallestSet_245 (lv_at hl 5 rfl) ?_
                refine lv_icmp_lt (tgt := 264) hx hb dX9_smallestSet_247 (by decide) (fun h76 => ?_) (fun h76 => ?_)
                · have hF := it_t h76 hF
                  refine lv_iload hx hb dX9_smallestSet_264 (lv_at hl 7 rfl) ?_
                  refine lv_istore_n (lv' := [(3, .int v13), (11, .int v71), (0, .ref (bb G + 244)), (1, .int x0), (2, .int x1), (4, .int v11), (5, .int v12), (6, .int v13), (7, .int v28), (10, .int v68)]) hx hb dX9_smallestSet_266 rfl hl (by decide) rfl (fun ls hl => ?_)
                  refine lv_iload hx hb dX9_smallestSet_267 (lv_at hl 8 rfl) ?_
                  refine lv_istore (lv' := [(4, .int v28), (3, .int v13), (11, .int v71), (0, .ref (bb G + 244)), (1, .int x0), (2, .int x1), (5, .int v12), (6, .int v13), (7, .int v28), (10, .int v68)]) hx hb dX9_smallestSet_269 hl (by decide) rfl (fun ls hl => ?_)
                  refine lv_iload hx hb dX9_smallestSet_271 (lv_at hl 9 rfl) ?_
                  refine lv_istore (lv' := [(5, .int v68), (4, .int v28), (3, .int v13), (11, .int v71), (0, .ref (bb G + 244)), (1, .int x0), (2, .int x1), (6, .int v13), (7, .int v28), (10, .int v68)]) hx hb dX9_smallestSet_273 hl (by decide) rfl (fun ls hl => ?_)
                  obtain ⟨v77, ev77, hF⟩ := nm_t hF
                  refine lv_iinc (v := v77) (lv' := [(6, .int v77), (5, .int v68), (4, .int v28), (3, .int v13), (11, .int v71), (0, .ref (bb G + 244)), (1, .int x0), (2, .int x1), (7, .int v28), (10, .int v68)]) hx hb dX9_smallestSet_275 hl (k := 7) rfl (by rw [ev77]; rfl) (by decide) rfl (fun ls hl => ?_)
                  refine lv_goto (tgt := 38) hx hb dX9_smallestSet_278 (by decide) ?_
                  exact it_back hF hk15 _ _ _ hw hS (lv_sub hl [5, 6, 7, 3, 2, 1, 0] rfl)
                · have hF := it_f h76 hF
                  refine lv_iload hx hb dX9_smallestSet_250 (lv_at hl 8 rfl) ?_
                  refine lv_iload hx hb dX9_smallestSet_252 (lv_at hl 5 rfl) ?_
                  refine lv_icmp_ne (tgt := 275) hx hb dX9_smallestSet_254 (by decide) (fun h78 => ?_) (fun h78 => ?_)
                  · have hF := it_f h78 hF
                    obtain ⟨v79, ev79, hF⟩ := nm_t hF
                    refine lv_iinc (v := v79) (lv' := [(6, .int v79), (11, .int v71), (0, .ref (bb G + 244)), (1, .int x0), (2, .int x1), (3, .int v10), (4, .int v11), (5, .int v12), (7, .int v28), (10, .int v68)]) hx hb dX9_smallestSet_275 hl (k := 7) rfl (by rw [ev79]; rfl) (by decide) rfl (fun ls hl => ?_)
                    refine lv_goto (tgt := 38) hx hb dX9_smallestSet_278 (by decide) ?_
                    exact it_back hF hk15 _ _ _ hw hS (lv_sub hl [2, 3, 4, 5, 6, 7, 0] rfl)
                  · have hF := it_t h78 hF
                    refine lv_iload hx hb dX9_smallestSet_257 (lv_at hl 9 rfl) ?_
                    refine lv_iload hx hb dX9_smallestSet_259 (lv_at hl 6 rfl) ?_
                    refine lv_icmp_ge (tgt := 275) hx hb dX9_smallestSet_261 (by decide) (fun h80 => ?_) (fun h80 => ?_)
                    · have hF := it_t h80 hF
                      obtain ⟨v81, ev81, hF⟩ := nm_t hF
                      refine lv_iinc (v := v81) (lv' := [(6, .int v81), (11, .int v71), (0, .ref (bb G + 244)), (1, .int x0), (2, .int x1), (3, .int v10), (4, .int v11), (5, .int v12), (7, .int v28), (10, .int v68)]) hx hb dX9_smallestSet_275 hl (k := 7) rfl (by rw [ev81]; rfl) (by decide) rfl (fun ls hl => ?_)
                      refine lv_goto (tgt := 38) hx hb dX9_smallestSet_278 (by decide) ?_
                      exact it_back hF hk15 _ _ _ hw hS (lv_sub hl [2, 3, 4, 5, 6, 7, 0] rfl)
                    · have hF := it_f h80 hF
                      refine lv_iload hx hb dX9_smallestSet_264 (lv_at hl 7 rfl) ?_
                      refine lv_istore_n (lv' := [(3, .int v13), (11, .int v71), (0, .ref (bb G + 244)), (1, .int x0), (2, .int x1), (4, .int v11), (5, .int v12), (6, .int v13), (7, .int v28), (10, .int v68)]) hx hb dX9_smallestSet_266 rfl hl (by decide) rfl (fun ls hl => ?_)
                      refine lv_iload hx hb dX9_smallestSet_267 (lv_at hl 8 rfl) ?_
                      refine lv_istore (lv' := [(4, .int v28), (3, .int v13), (11, .int v71), (0, .ref (bb G + 244)), (1, .int x0), (2, .int x1), (5, .int v12), (6, .int v13), (7, .int v28), (10, .int v68)]) hx hb dX9_smallestSet_269 hl (by decide) rfl (fun ls hl => ?_)
                      refine lv_iload hx hb dX9_smallestSet_271 (lv_at hl 9 rfl) ?_
                      refine lv_istore (lv' := [(5, .int v68), (4, .int v28), (3, .int v13), (11, .int v71), (0, .ref (bb G + 244)), (1, .int x0), (2, .int x1), (6, .int v13), (7, .int v28), (10, .int v68)]) hx hb dX9_smallestSet_273 hl (by decide) rfl (fun ls hl => ?_)
                      obtain ⟨v82, ev82, hF⟩ := nm_t hF
                      refine lv_iinc (v := v82) (lv' := [(6, .int v82), (5, .int v68), (4, .int v28), (3, .int v13), (11, .int v71), (0, .ref (bb G + 244)), (1, .int x0), (2, .int x1), (7, .int v28), (10, .int v68)]) hx hb dX9_smallestSet_275 hl (k := 7) rfl (by rw [ev82]; rfl) (by decide) rfl (fun ls hl => ?_)
                      refine lv_goto (tgt := 38) hx hb dX9_smallestSet_278 (by decide) ?_
                      exact it_back hF hk15 _ _ _ hw hS (lv_sub hl [5, 6, 7, 3, 2, 1, 0] rfl)
          refine lv_icmp_gt (tgt := 229) hx hb dX9_smallestSet_204 (by decide) (fun h70 => ?_) (fun h70 => ?_)
          · have hF := it_t h70 hF
            refine lv_iconst (v := 0) hx hb dX9_smallestSet_229 (by decide) ?_
            exact hJ230 (0 : Int32) _ _ _ hF hw hS (lv_sub hl [1, 2, 3, 4, 5, 6, 7, 8, 0] rfl)
          · have hF := it_f h70 hF
            refine lv_iload hx hb dX9_smallestSet_207 (lv_at hl 10 rfl) ?_
            refine lv_aload_n hx hb dX9_smallestSet_209 rfl (lv_at hl 1 rfl) ?_
            refine gX9_23 hC hw (by omega)  dX9_smallestSet_210 ?_
            refine lv_bipush (v := 19) hx hb dX9_smallestSet_213 (by decide) ?_
            obtain ⟨g83, hF⟩ := gi_t hF
            refine ld_marr hC hw (by omega) (show 31 ≤ 33 ∧ 33 ≤ 36 by decide) g83 dX9_smallestSet_215 ?_
            refine lv_icmp_gt (tgt := 229) hx hb dX9_smallestSet_216 (by decide) (fun h84 => ?_) (fun h84 => ?_)
            · have hF := it_t h84 hF
              refine lv_iconst (v := 0) hx hb dX9_smallestSet_229 (by decide) ?_
              exact hJ230 (0 : Int32) _ _ _ hF hw hS (lv_sub hl [1, 2, 3, 4, 5, 6, 7, 8, 0] rfl)
            · have hF := it_f h84 hF
              refine lv_iload hx hb dX9_smallestSet_219 (lv_at hl 0 rfl) ?_
              refine lv_iload_n hx hb dX9_smallestSet_221 rfl (lv_at hl 2 rfl) ?_
              refine lv_icmp_lt (tgt := 229) hx hb dX9_smallestSet_222 (by decide) (fun h85 => ?_) (fun h85 => ?_)
              · have hF := it_t h85 hF
                refine lv_iconst (v := 0) hx hb dX9_smallestSet_229 (by decide) ?_
                exact hJ230 (0 : Int32) _ _ _ hF hw hS (lv_sub hl [1, 2, 3, 4, 5, 6, 7, 8, 0] rfl)
              · have hF := it_f h85 hF
                refine lv_iconst (v := 1) hx hb dX9_smallestSet_225 (by decide) ?_
                refine lv_goto (tgt := 230) hx hb dX9_smallestSet_226 (by decide) ?_
                exact hJ230 (1 : Int32) _ _ _ hF hw hS (lv_sub hl [1, 2, 3, 4, 5, 6, 7, 8, 0] rfl)
        refine iter_sound (P := fun x : Int32 × Int32 × Int32 × Int32 × Mem => ∀ (H : Heap) (locs : List Loc) (ls : Array Slot), Wd G n x.2.2.2.2 H → LW G s H locs → lv_has ls 12 [(0, .ref (bb G + 244)), (1, .int x0), (2, .int x1), (3, .int v10), (4, .int v11), (5, .int v12), (6, .int v13), (7, .int x.1), (8, .int x.2.1), (9, .int x.2.2.1), (10, .int x.2.2.2.1)] → W p l e (rmN 1 25) s m ([.ref (bb G + 244), .int x0, .int x1] : List Value).toArray below meth c H locs 0 0 (MQ below (QR G n (some (.int rR)) CR) ([.ref (bb G + 244), .int x0, .int x1] : List Value).toArray s 0 0 (frA G)) (F0 m 61 ls [])) (X := fun r => r = o27) ?_ fuel ((0 : Int32), (0 : Int32), (0 : Int32), (0 : Int32), C14) o27 hit27 rfl _ _ _ hw hS (lv_sub hl [4, 5, 6, 7, 8, 9, 10, 3, 2, 1, 0] rfl)
        intro x oo27 hF hk27 hX27 H locs ls hw hS hl
        obtain ⟨v22, v23, v24, v25, C26⟩ := x
        have hF : S_X9_smallestSet_61 v13 v22 v23 v24 v25 C26 = some oo27 := hF
        have hw : Wd G n C26 H := hw
        have hl : lv_has ls 12 [(0, .ref (bb G + 244)), (1, .int x0), (2, .int x1), (3, .int v10), (4, .int v11), (5, .int v12), (6, .int v13), (7, .int v22), (8, .int v23), (9, .int v24), (10, .int v25)] := hl
        unfold S_X9_smallestSet_61 at hF
        refine lv_iload hx hb dX9_smallestSet_61 (lv_at hl 10 rfl) ?_
        refine lv_aload_n hx hb dX9_smallestSet_63 rfl (lv_at hl 0 rfl) ?_
        refine gX9_13 hC hw (by omega)  dX9_smallestSet_64 ?_
        refine lv_icmp_ge (tgt := 188) hx hb dX9_smallestSet_67 (by decide) (fun h33 => ?_) (fun h33 => ?_)
        · have hF := it_t h33 hF
          exact hR27 _ _ _ _ _ _ _ _ (it_exit hF hX27).symm hw hS (lv_sub hl [0, 1, 2, 3, 4, 5, 6, 7, 8, 9] rfl)
        · have hF := it_f h33 hF
          refine lv_iload hx hb dX9_smallestSet_70 (lv_at hl 6 rfl) ?_
          refine lv_iload hx hb dX9_smallestSet_72 (lv_at hl 10 rfl) ?_
          refine lv_ishr hx hb dX9_smallestSet_74 ?_
          refine lv_iconst (v := 1) hx hb dX9_smallestSet_75 (by decide) ?_
          refine lv_iand hx hb dX9_smallestSet_76 ?_
          refine lv_iconst (v := 1) hx hb dX9_smallestSet_77 (by decide) ?_
          have hJ86 : ∀ (v35 : Int32) (H : Heap) (locs : List Loc) (ls : Array Slot), J_X9_smallestSet_86 v22 v23 v24 v25 C26 v35 = some oo27 → Wd G n C26 H → LW G s H locs → lv_has ls 12 [(0, .ref (bb G + 244)), (1, .int x0), (2, .int x1), (3, .int v10), (4, .int v11), (5, .int v12), (6, .int v13), (7, .int v22), (8, .int v23), (9, .int v24), (10, .int v25)] → W p l e (rmN 1 25) s m ([.ref (bb G + 244), .int x0, .int x1] : List Value).toArray below meth c H locs 0 0 (MQ below (QR G n (some (.int rR)) CR) ([.ref (bb G + 244), .int x0, .int x1] : List Value).toArray s 0 0 (frA G)) (F0 m 86 ls [.int v35]) := by
            intro v35 H locs ls hF hw hS hl
            unfold J_X9_smallestSet_86 at hF
            refine lv_istore (lv' := [(11, .int v35), (0, .ref (bb G + 244)), (1, .int x0), (2, .int x1), (3, .int v10), (4, .int v11), (5, .int v12), (6, .int v13), (7, .int v22), (8, .int v23), (9, .int v24), (10, .int v25)]) hx hb dX9_smallestSet_86 hl (by decide) rfl (fun ls hl => ?_)
            refine lv_iload hx hb dX9_smallestSet_88 (lv_at hl 8 rfl) ?_
            refine lv_iload hx hb dX9_smallestSet_90 (lv_at hl 0 rfl) ?_
            have hJ100 : ∀ (v37 : Int32) (H : Heap) (locs : List Loc) (ls : Array Slot), J_X9_smallestSet_100 v22 v23 v24 v25 C26 v35 v37 = some oo27 → Wd G n C26 H → LW G s H locs → lv_has ls 12 [(0, .ref (bb G + 244)), (1, .int x0), (2, .int x1), (3, .int v10), (4, .int v11), (5, .int v12), (6, .int v13), (8, .int v23), (9, .int v24), (10, .int v25), (11, .int v35)] → W p l e (rmN 1 25) s m ([.ref (bb G + 244), .int x0, .int x1] : List Value).toArray below meth c H locs 0 0 (MQ below (QR G n (some (.int rR)) CR) ([.ref (bb G + 244), .int x0, .int x1] : List Value).toArray s 0 0 (frA G)) (F0 m 100 ls [.int v37, .int v22]) := by
              intro v37 H locs ls hF hw hS hl
              unfold J_X9_smallestSet_100 at hF
              refine lv_iadd hx hb dX9_smallestSet_100 ?_
              obtain ⟨v38, ev38, hF⟩ := nm_t hF
              refine lv_nmi ev38 ?_
              refine lv_istore (lv' := [(7, .int v38), (0, .ref (bb G + 244)), (1, .int x0), (2, .int x1), (3, .int v10), (4, .int v11), (5, .int v12), (6, .int v13), (8, .int v23), (9, .int v24), (10, .int v25), (11, .int v35)]) hx hb dX9_smallestSet_101 hl (by decide) rfl (fun ls hl => ?_)
              refine lv_iload hx hb dX9_smallestSet_103 (lv_at hl 8 rfl) ?_
              refine lv_iload hx hb dX9_smallestSet_105 (lv_at hl 11 rfl) ?_
              have hJ139 : ∀ (v40 : Int32) (C41 : Mem) (H : Heap) (locs : List Loc) (ls : Array Slot), J_X9_smallestSet_139 v23 v24 v25 v35 v38 v40 C41 = some oo27 → Wd G n C41 H → LW G s H locs → lv_has ls 12 [(0, .ref (bb G + 244)), (1, .int x0), (2, .int x1), (3, .int v10), (4, .int v11), (5, .int v12), (6, .int v13), (7, .int v38), (9, .int v24), (10, .int v25), (11, .int v35)] → W p l e (rmN 1 25) s m ([.ref (bb G + 244), .int x0, .int x1] : List Value).toArray below meth c H locs 0 0 (MQ below (QR G n (some (.int rR)) CR) ([.ref (bb G + 244), .int x0, .int x1] : List Value).toArray s 0 0 (frA G)) (F0 m 139 ls [.int v40, .int v23]) := by
                intro v40 C41 H locs ls hF hw hS hl
                unfold J_X9_smallestSet_139 at hF
                refine lv_iadd hx hb dX9_smallestSet_139 ?_
                obtain ⟨v42, ev42, hF⟩ := nm_t hF
                refine lv_nmi ev42 ?_
                refine lv_istore (lv' := [(8, .int v42), (0, .ref (bb G + 244)), (1, .int x0), (2, .int x1), (3, .int v10), (4, .int v11), (5, .int v12), (6, .int v13), (7, .int v38), (9, .int v24), (10, .int v25), (11, .int v35)]) hx hb dX9_smallestSet_140 hl (by decide) rfl (fun ls hl => ?_)
                refine lv_iload hx hb dX9_smallestSet_142 (lv_at hl 9 rfl) ?_
                refine lv_iload hx hb dX9_smallestSet_144 (lv_at hl 11 rfl) ?_
                refine lv_if_eq (tgt := 178) hx hb dX9_smallestSet_146 (by decide) (fun h43 => ?_) (fun h43 => ?_)
                · have hF := it_t h43 hF
                  refine lv_iconst (v := 0) hx hb dX9_smallestSet_178 (by decide) ?_
                  refine lv_iadd hx hb dX9_smallestSet_179 ?_
                  obtain ⟨v44, ev44, hF⟩ := nm_t hF
                  refine lv_nmi ev44 ?_
                  refine lv_istore (lv' := [(9, .int v44), (8, .int v42), (0, .ref (bb G + 244)), (1, .int x0), (2, .int x1), (3, .int v10), (4, .int v11), (5, .int v12), (6, .int v13), (7, .int v38), (10, .int v25), (11, .int v35)]) hx hb dX9_smallestSet_180 hl (by decide) rfl (fun ls hl => ?_)
                  obtain ⟨v45, ev45, hF⟩ := nm_t hF
                  refine lv_iinc (v := v45) (lv' := [(10, .int v45), (9, .int v44), (8, .int v42), (0, .ref (bb G + 244)), (1, .int x0), (2, .int x1), (3, .int v10), (4, .int v11), (5, .int v12), (6, .int v13), (7, .int v38), (11, .int v35)]) hx hb dX9_smallestSet_182 hl (k := 10) rfl (by rw [ev45]; rfl) (by decide) rfl (fun ls hl => ?_)
                  refine lv_goto (tgt := 61) hx hb dX9_smallestSet_185 (by decide) ?_
                  exact it_back hF hk27 _ _ _ hw hS (lv_sub hl [3, 4, 5, 6, 7, 8, 9, 10, 2, 1, 0] rfl)
                · have hF := it_f h43 hF
                  refine lv_aload_n hx hb dX9_smallestSet_149 rfl (lv_at hl 1 rfl) ?_
                  refine gX9_23 hC hw (by omega)  dX9_smallestSet_150 ?_
                  refine lv_iload hx hb dX9_smallestSet_153 (lv_at hl 10 rfl) ?_
                  obtain ⟨r46, C47, hc48, hF⟩ := b2_t hF
                  refine call_Si hC (c_X9_at l G n (by omega) hn2 v25 _ _ _ hc48) wsX9_68 ⟨rfl, rfl, by decide, by decide⟩ hw hS hl.1 rfl (rest := [.ref (bb G + (33 + 214)), .int v24]) rfl (Nat.le_of_ble_eq_true rfl) dX9_smallestSet_155 ⟨by decide, by decide⟩ (fun H locs hw hS _ => ?_)
                  refine lv_iconst (v := 1) hx hb dX9_smallestSet_158 (by decide) ?_
                  refine lv_iadd hx hb dX9_smallestSet_159 ?_
                  obtain ⟨g49, hF⟩ := gi_t hF
                  refine ld_marr hC hw (by omega) (show 31 ≤ 33 ∧ 33 ≤ 36 by decide) g49 dX9_smallestSet_160 ?_
                  refine lv_iconst (v := 1) hx hb dX9_smallestSet_161 (by decide) ?_
                  refine lv_icmp_ne (tgt := 178) hx hb dX9_smallestSet_162 (by decide) (fun h50 => ?_) (fun h50 => ?_)
                  · have hF := it_f h50 hF
                    refine lv_iconst (v := 0) hx hb dX9_smallestSet_178 (by decide) ?_
                    refine lv_iadd hx hb dX9_smallestSet_179 ?_
                    obtain ⟨v51, ev51, hF⟩ := nm_t hF
                    refine lv_nmi ev51 ?_
                    refine lv_istore (lv' := [(9, .int v51), (8, .int v42), (0, .ref (bb G + 244)), (1, .int x0), (2, .int x1), (3, .int v10), (4, .int v11), (5, .int v12), (6, .int v13), (7, .int v38), (10, .int v25), (11, .int v35)]) hx hb dX9_smallestSet_180 hl (by decide) rfl (fun ls hl => ?_)
                    obtain ⟨v52, ev52, hF⟩ := nm_t hF
                    refine lv_iinc (v := v52) (lv' := [(10, .int v52), (9, .int v51), (8, .int v42), (0, .ref (bb G + 244)), (1, .int x0), (2, .int x1), (3, .int v10), (4, .int v11), (5, .int v12), (6, .int v13), (7, .int v38), (11, .int v35)]) hx hb dX9_smallestSet_182 hl (k := 10) rfl (by rw [ev52]; rfl) (by decide) rfl (fun ls hl => ?_)
                    refine lv_goto (tgt := 61) hx hb dX9_smallestSet_185 (by decide) ?_
                    exact it_back hF hk27 _ _ _ hw hS (lv_sub hl [3, 4, 5, 6, 7, 8, 9, 10, 2, 1, 0] rfl)
                  · have hF := it_t h50 hF
                    refine lv_aload_n hx hb dX9_smallestSet_165 rfl (lv_at hl 1 rfl) ?_
                    refine gX9_23 hC hw (by omega)  dX9_smallestSet_166 ?_
                    refine lv_iload hx hb dX9_smallestSet_169 (lv_at hl 10 rfl) ?_
                    obtain ⟨r53, C54, hc55, hF⟩ := b2_t hF
                    refine call_Si hC (c_X9_at l G n (by omega) hn2 v25 _ _ _ hc55) wsX9_68 ⟨rfl, rfl, by decide, by decide⟩ hw hS hl.1 rfl (rest := [.ref (bb G + (33 + 214)), .int v24]) rfl (Nat.le_of_ble_eq_true rfl) dX9_smallestSet_171 ⟨by decide, by decide⟩ (fun H locs hw hS _ => ?_)
                    obtain ⟨g56, hF⟩ := gi_t hF
                    refine ld_marr hC hw (by omega) (show 31 ≤ 33 ∧ 33 ≤ 36 by decide) g56 dX9_smallestSet_174 ?_
                    refine lv_goto (tgt := 179) hx hb dX9_smallestSet_175 (by decide) ?_
                    refine lv_iadd hx hb dX9_smallestSet_179 ?_
                    obtain ⟨v57, ev57, hF⟩ := nm_t hF
                    refine lv_nmi ev57 ?_
                    refine lv_istore (lv' := [(9, .int v57), (8, .int v42), (0, .ref (bb G + 244)), (1, .int x0), (2, .int x1), (3, .int v10), (4, .int v11), (5, .int v12), (6, .int v13), (7, .int v38), (10, .int v25), (11, .int v35)]) hx hb dX9_smallestSet_180 hl (by decide) rfl (fun ls hl => ?_)
                    obtain ⟨v58, ev58, hF⟩ := nm_t hF
                    refine lv_iinc (v := v58) (lv' := [(10, .int v58), (9, .int v57), (8, .int v42), (0, .ref (bb G + 244)), (1, .int x0), (2, .int x1), (3, .int v10), (4, .int v11), (5, .int v12), (6, .int v13), (7, .int v38), (11, .int v35)]) hx hb dX9_smallestSet_182 hl (k := 10) rfl (by rw [ev58]; rfl) (by decide) rfl (fun ls hl => ?_)
                    refine lv_goto (tgt := 61) hx hb dX9_smallestSet_185 (by decide) ?_
                    exact it_back hF hk27 _ _ _ hw hS (lv_sub hl [3, 4, 5, 6, 7, 8, 9, 10, 2, 1, 0] rfl)
              refine lv_if_eq (tgt := 138) hx hb dX9_smallestSet_107 (by decide) (fun h39 => ?_) (fun h39 => ?_)
              · have hF := it_t h39 hF
                refine lv_iconst (v := 0) hx hb dX9_smallestSet_138 (by decide) ?_
                exact hJ139 (0 : Int32) C26 _ _ _ hF hw hS (lv_sub hl [1, 2, 3, 4, 5, 6, 7, 0, 9, 10, 11] rfl)
              · have hF := it_f h39 hF
                refine lv_aload_n hx hb dX9_smallestSet_110 rfl (lv_at hl 1 rfl) ?_
                refine gX9_23 hC hw (by omega)  dX9_smallestSet_111 ?_
                refine lv_iload hx hb dX9_smallestSet_114 (lv_at hl 10 rfl) ?_
                obtain ⟨r59, C60, hc61, hF⟩ := b2_t hF
                refine call_Si hC (c_X9_at l G n (by omega) hn2 v25 _ _ _ hc61) wsX9_68 ⟨rfl, rfl, by decide, by decide⟩ hw hS hl.1 rfl (rest := [.ref (bb G + (33 + 214)), .int v23]) rfl (Nat.le_of_ble_eq_true rfl) dX9_smallestSet_116 ⟨by decide, by decide⟩ (fun H locs hw hS _ => ?_)
                refine lv_iconst (v := 1) hx hb dX9_smallestSet_119 (by decide) ?_
                refine lv_iadd hx hb dX9_smallestSet_120 ?_
                obtain ⟨g62, hF⟩ := gi_t hF
                refine ld_marr hC hw (by omega) (show 31 ≤ 33 ∧ 33 ≤ 36 by decide) g62 dX9_smallestSet_121 ?_
                refine lv_if_ne (tgt := 138) hx hb dX9_smallestSet_122 (by decide) (fun h63 => ?_) (fun h63 => ?_)
                · have hF := it_f h63 hF
                  refine lv_iconst (v := 0) hx hb dX9_smallestSet_138 (by decide) ?_
                  exact hJ139 (0 : Int32) C60 _ _ _ hF hw hS (lv_sub hl [1, 2, 3, 4, 5, 6, 7, 0, 9, 10, 11] rfl)
                · have hF := it_t h63 hF
                  refine lv_aload_n hx hb dX9_smallestSet_125 rfl (lv_at hl 1 rfl) ?_
                  refine gX9_23 hC hw (by omega)  dX9_smallestSet_126 ?_
                  refine lv_iload hx hb dX9_smallestSet_129 (lv_at hl 10 rfl) ?_
                  obtain ⟨r64, C65, hc66, hF⟩ := b2_t hF
                  refine call_Si hC (c_X9_at l G n (by omega) hn2 v25 _ _ _ hc66) wsX9_68 ⟨rfl, rfl, by decide, by decide⟩ hw hS hl.1 rfl (rest := [.ref (bb G + (33 + 214)), .int v23]) rfl (Nat.le_of_ble_eq_true rfl) dX9_smallestSet_131 ⟨by decide, by decide⟩ (fun H locs hw hS _ => ?_)
                  obtain ⟨g67, hF⟩ := gi_t hF
                  refine ld_marr hC hw (by omega) (show 31 ≤ 33 ∧ 33 ≤ 36 by decide) g67 dX9_smallestSet_134 ?_
                  refine lv_goto (tgt := 139) hx hb dX9_smallestSet_135 (by decide) ?_
                  exact hJ139 (C65 33 (r64).toNatClampNeg) C65 _ _ _ hF hw hS (lv_sub hl [1, 2, 3, 4, 5, 6, 7, 0, 9, 10, 11] rfl)
            refine lv_if_eq (tgt := 99) hx hb dX9_smallestSet_92 (by decide) (fun h36 => ?_) (fun h36 => ?_)
            · have hF := it_t h36 hF
              refine lv_iconst (v := 0) hx hb dX9_smallestSet_99 (by decide) ?_
              exact hJ100 (0 : Int32) _ _ _ hF hw hS (lv_sub hl [1, 2, 3, 4, 5, 6, 7, 9, 10, 11, 0] rfl)
            · have hF := it_f h36 hF
              refine lv_iconst (v := 1) hx hb dX9_smallestSet_95 (by decide) ?_
              refine lv_goto (tgt := 100) hx hb dX9_smallestSet_96 (by decide) ?_
              exact hJ100 (1 : Int32) _ _ _ hF hw hS (lv_sub hl [1, 2, 3, 4, 5, 6, 7, 9, 10, 11, 0] rfl)
          refine lv_icmp_ne (tgt := 85) hx hb dX9_smallestSet_78 (by decide) (fun h34 => ?_) (fun h34 => ?_)
          · have hF := it_f h34 hF
            refine lv_iconst (v := 0) hx hb dX9_smallestSet_85 (by decide) ?_
            exact hJ86 (0 : Int32) _ _ _ hF hw hS (lv_sub hl [0, 1, 2, 3, 4, 5, 6, 7, 8, 9, 10] rfl)
          · have hF := it_t h34 hF
            refine lv_iconst (v := 1) hx hb dX9_smallestSet_81 (by decide) ?_
            refine lv_goto (tgt := 86) hx hb dX9_smallestSet_82 (by decide) ?_
            exact hJ86 (1 : Int32) _ _ _ hF hw hS (lv_sub hl [0, 1, 2, 3, 4, 5, 6, 7, 8, 9, 10] rfl)
    · have hF := it_f h9 hF
      refine lv_iconst (v := 0) hx hb dX9_smallestSet_24 (by decide) ?_
      exact m_iret hC hr hlk hw hS dX9_smallestSet_25 hF
  refine lv_if_eq (tgt := 17) hx hb dX9_smallestSet_10 (by decide) (fun h4 => ?_) (fun h4 => ?_)
  · have hF := it_t h4 hF
    refine lv_iconst (v := 1) hx hb dX9_smallestSet_17 (by decide) ?_
    exact hJ18 (1 : Int32) _ _ _ hF hw hS (lv_sub hl [0, 1, 2] rfl)
  · have hF := it_f h4 hF
    refine lv_iconst (v := 0) hx hb dX9_smallestSet_13 (by decide) ?_
    refine lv_goto (tgt := 18) hx hb dX9_smallestSet_14 (by decide) ?_
    exact hJ18 (0 : Int32) _ _ _ hF hw hS (lv_sub hl [0, 1, 2] rfl)
set_option maxHeartbeats 4000000 in
set_option maxRecDepth 100000 in
theorem c_X9_ahead (l : Launch) (G : GG) (n : Nat) (hn : 252 ≤ n) (hn2 : n ≤ 253) (x0 : Int32) (x1 : Int32) (x2 : Int32) (C : Mem) (rR : Int32) (CR : Mem) (hF : F_X9_ahead x0 x1 x2 C = some (rR, CR)) : Ct l yX9_ahead cX9_ahead 7 (some .int) (rmN 6 140) G n C [.ref (bb G + 244), .int x0, .int x1, .int x2] (some (.int rR)) CR := by
  refine Ct.of (by decide) (Nat.le_of_ble_eq_true rfl) ?_
  intro p e s m below meth c ls hC hr hlk hw hl
  have hx := hC.1
  have hb := hC.2.1
  have hS : LW G s s.heap [] := va_S.rf
  have hl : lv_has ls 7 [(0, .ref (bb G + 244)), (1, .int x0), (2, .int x1), (3, .int x2)] := hl
  unfold F_X9_ahead at hF
  refine lv_aload_n hx hb dX9_ahead_0 rfl (lv_at hl 0 rfl) ?_
  refine lv_iload_n hx hb dX9_ahead_1 rfl (lv_at hl 1 rfl) ?_
  refine lv_iload_n hx hb dX9_ahead_2 rfl (lv_at hl 2 rfl) ?_
  obtain ⟨r1, C2, hc3, hF⟩ := b2_t hF
  refine call_Si hC (c_X9_areTicks l G n (by omega) hn2 x0 x1 _ _ _ hc3) wsX9_180 ⟨rfl, rfl, by decide, by decide⟩ hw hS hl.1 rfl (rest := [.ref (bb G + 244)]) rfl (Nat.le_of_ble_eq_true rfl) dX9_ahead_3 ⟨by decide, by decide⟩ (fun H locs hw hS _ => ?_)
  have hJ26 : ∀ (v5 : Int32) (C6 : Mem) (H : Heap) (locs : List Loc) (ls : Array Slot), J_X9_ahead_26 x0 x1 x2 v5 C6 = some (rR, CR) → Wd G n C6 H → LW G s H locs → lv_has ls 7 [(0, .ref (bb G + 244)), (1, .int x0), (2, .int x1), (3, .int x2)] → W p l e (rmN 6 140) s m ([.ref (bb G + 244), .int x0, .int x1, .int x2] : List Value).toArray below meth c H locs 0 0 (MQ below (QR G n (some (.int rR)) CR) ([.ref (bb G + 244), .int x0, .int x1, .int x2] : List Value).toArray s 0 0 (frA G)) (F0 m 26 ls [.int v5, .ref (bb G + 244)]) := by
    intro v5 C6 H locs ls hF hw hS hl
    unfold J_X9_ahead_26 at hF
    obtain ⟨r7, C8, hc9, hF⟩ := b2_t hF
    refine call_Vi hC (c_X9_refused l G n (by omega) hn2 v5 _ _ _ hc9) wvX9_127 ⟨rfl, rfl, by decide, by decide⟩ hw hS (by omega) ca_model rfl hl.1 rfl (rest := []) rfl (Nat.le_of_ble_eq_true rfl) dX9_ahead_26 ⟨by decide, by decide⟩ (fun H locs hw hS _ => ?_)
    refine lv_if_eq (tgt := 34) hx hb dX9_ahead_29 (by decide) (fun h10 => ?_) (fun h10 => ?_)
    · have hF := it_t h10 hF
      refine lv_aload_n hx hb dX9_ahead_34 rfl (lv_at hl 0 rfl) ?_
      refine gX9_23 hC hw (by omega)  dX9_ahead_35 ?_
      refine lv_iconst (v := 0) hx hb dX9_ahead_38 (by decide) ?_
      refine lv_aload_n hx hb dX9_ahead_39 rfl (lv_at hl 0 rfl) ?_
      refine gX9_26 hC hw (by omega)  dX9_ahead_40 ?_
      refine lv_iconst (v := 0) hx hb dX9_ahead_43 (by decide) ?_
      obtain ⟨r11, C12, hc13, hF⟩ := b2_t hF
      refine call_Sv hC (c_X9_copyPage l G n (by omega) hn2 33 (show 31 ≤ 33 ∧ 33 ≤ 36 by decide) (0 : Int32) 34 (show 31 ≤ 34 ∧ 34 ≤ 36 by decide) (0 : Int32) _ _ _ hc13) wsX9_156 ⟨rfl, rfl, by decide, by decide⟩ hw hS hl.1 rfl (rest := []) rfl (Nat.le_of_ble_eq_true rfl) dX9_ahead_44 ⟨by decide, by decide⟩ (fun H locs hw hS _ => ?_)
      refine lv_bipush (v := 99) hx hb dX9_ahead_47 (by decide) ?_
      refine lv_istore (lv' := [(4, .int (99 : Int32)), (0, .ref (bb G + 244)), (1, .int x0), (2, .int x1), (3, .int x2)]) hx hb dX9_ahead_49 hl (by decide) rfl (fun ls hl => ?_)
      refine lv_iconst (v := 0) hx hb dX9_ahead_51 (by decide) ?_
      refine lv_istore (lv' := [(5, .int (0 : Int32)), (4, .int (99 : Int32)), (0, .ref (bb G + 244)), (1, .int x0), (2, .int x1), (3, .int x2)]) hx hb dX9_ahead_52 hl (by decide) rfl (fun ls hl => ?_)
      obtain ⟨o17, hit17, hG17⟩ := b1_t hF
      have hR17 : ∀ (v18 : Int32) (v19 : Int32) (C20 : Mem) (H : Heap) (locs : List Loc) (ls : Array Slot), o17 = (v18, v19, C20) → Wd G n C20 H → LW G s H locs → lv_has ls 7 [(0, .ref (bb G + 244)), (3, .int x2), (4, .int v18)] → W p l e (rmN 6 140) s m ([.ref (bb G + 244), .int x0, .int x1, .int x2] : List Value).toArray below meth c H locs 0 0 (MQ below (QR G n (some (.int rR)) CR) ([.ref (bb G + 244), .int x0, .int x1, .int x2] : List Value).toArray s 0 0 (frA G)) (F0 m 101 ls []) := by
        intro v18 v19 C20 H locs ls hE hw hS hl
        subst hE
        have hF := u3_t (hG17)
        refine lv_iload_n hx hb dX9_ahead_101 rfl (lv_at hl 1 rfl) ?_
        by_cases h31 : x2 = (0 : Int32)
        · have hF := it_t h31 hF
          refine lv_tableIn (tgt := 140) (off := 38) hx hb dX9_ahead_102 (by rw [h31]; decide) (by rw [h31]; decide) (by rw [h31]; rfl) (by decide) ?_
          refine lv_aload_n hx hb dX9_ahead_140 rfl (lv_at hl 0 rfl) ?_
          refine lv_aload_n hx hb dX9_ahead_141 rfl (lv_at hl 0 rfl) ?_
          refine gX9_26 hC hw (by omega)  dX9_ahead_142 ?_
          obtain ⟨r37, C38, hc39, hF⟩ := b2_t hF
          refine call_Vi hC (c_X9_meanOf l G n (by omega) hn2 34 (show 31 ≤ 34 ∧ 34 ≤ 36 by decide) _ _ _ hc39) wvX9_87 ⟨rfl, rfl, by decide, by decide⟩ hw hS (by omega) ca_model rfl hl.1 rfl (rest := []) rfl (Nat.le_of_ble_eq_true rfl) dX9_ahead_145 ⟨by decide, by decide⟩ (fun H locs hw hS _ => ?_)
          exact m_iret hC hr hlk hw hS dX9_ahead_148 hF
        have hF := it_f h31 hF
        by_cases h32 : x2 = (1 : Int32)
        · have hF := it_t h32 hF
          refine lv_tableIn (tgt := 149) (off := 47) hx hb dX9_ahead_102 (by rw [h32]; decide) (by rw [h32]; decide) (by rw [h32]; rfl) (by decide) ?_
          refine lv_aload_n hx hb dX9_ahead_149 rfl (lv_at hl 0 rfl) ?_
          refine gX9_26 hC hw (by omega)  dX9_ahead_150 ?_
          refine lv_bipush (v := 22) hx hb dX9_ahead_153 (by decide) ?_
          refine lv_aload_n hx hb dX9_ahead_155 rfl (lv_at hl 0 rfl) ?_
          refine gX9_17 hC hw (by omega)  dX9_ahead_156 ?_
          refine lv_iadd hx hb dX9_ahead_159 ?_
          refine lv_iconst (v := 1) hx hb dX9_ahead_160 (by decide) ?_
          refine lv_isub hx hb dX9_ahead_161 ?_
          obtain ⟨g40, hF⟩ := gi_t hF
          refine ld_marr hC hw (by omega) (show 31 ≤ 34 ∧ 34 ≤ 36 by decide) g40 dX9_ahead_162 ?_
          exact m_iret hC hr hlk hw hS dX9_ahead_163 hF
        have hF := it_f h32 hF
        by_cases h33 : x2 = (2 : Int32)
        · have hF := it_t h33 hF
          refine lv_tableIn (tgt := 164) (off := 62) hx hb dX9_ahead_102 (by rw [h33]; decide) (by rw [h33]; decide) (by rw [h33]; rfl) (by decide) ?_
          refine lv_aload_n hx hb dX9_ahead_164 rfl (lv_at hl 0 rfl) ?_
          refine gX9_26 hC hw (by omega)  dX9_ahead_165 ?_
          refine lv_bipush (v := 15) hx hb dX9_ahead_168 (by decide) ?_
          obtain ⟨g41, hF⟩ := gi_t hF
          refine ld_marr hC hw (by omega) (show 31 ≤ 34 ∧ 34 ≤ 36 by decide) g41 dX9_ahead_170 ?_
          refine lv_aload_n hx hb dX9_ahead_171 rfl (lv_at hl 0 rfl) ?_
          refine gX9_23 hC hw (by omega)  dX9_ahead_172 ?_
          refine lv_bipush (v := 15) hx hb dX9_ahead_175 (by decide) ?_
          obtain ⟨g42, hF⟩ := gi_t hF
          refine ld_marr hC hw (by omega) (show 31 ≤ 33 ∧ 33 ≤ 36 by decide) g42 dX9_ahead_177 ?_
          refine lv_isub hx hb dX9_ahead_178 ?_
          exact m_iret hC hr hlk hw hS dX9_ahead_179 hF
        have hF := it_f h33 hF
        by_cases h34 : x2 = (3 : Int32)
        · have hF := it_t h34 hF
          refine lv_tableIn (tgt := 180) (off := 78) hx hb dX9_ahead_102 (by rw [h34]; decide) (by rw [h34]; decide) (by rw [h34]; rfl) (by decide) ?_
          refine lv_aload_n hx hb dX9_ahead_180 rfl (lv_at hl 0 rfl) ?_
          refine lv_aload_n hx hb dX9_ahead_181 rfl (lv_at hl 0 rfl) ?_
          refine gX9_26 hC hw (by omega)  dX9_ahead_182 ?_
          obtain ⟨r43, C44, hc45, hF⟩ := b2_t hF
          refine call_Vi hC (c_X9_fuelOf l G n (by omega) hn2 34 (show 31 ≤ 34 ∧ 34 ≤ 36 by decide) _ _ _ hc45) wvX9_175 ⟨rfl, rfl, by decide, by decide⟩ hw hS (by omega) ca_model rfl hl.1 rfl (rest := []) rfl (Nat.le_of_ble_eq_true rfl) dX9_ahead_185 ⟨by decide, by decide⟩ (fun H locs hw hS _ => ?_)
          refine lv_aload_n hx hb dX9_ahead_188 rfl (lv_at hl 0 rfl) ?_
          refine lv_aload_n hx hb dX9_ahead_189 rfl (lv_at hl 0 rfl) ?_
          refine gX9_23 hC hw (by omega)  dX9_ahead_190 ?_
          obtain ⟨r46, C47, hc48, hF⟩ := b2_t hF
          refine call_Vi hC (c_X9_fuelOf l G n (by omega) hn2 33 (show 31 ≤ 33 ∧ 33 ≤ 36 by decide) _ _ _ hc48) wvX9_175 ⟨rfl, rfl, by decide, by decide⟩ hw hS (by omega) ca_model rfl hl.1 rfl (rest := [.int r43]) rfl (Nat.le_of_ble_eq_true rfl) dX9_ahead_193 ⟨by decide, by decide⟩ (fun H locs hw hS _ => ?_)
          refine lv_isub hx hb dX9_ahead_196 ?_
          exact m_iret hC hr hlk hw hS dX9_ahead_197 hF
        have hF := it_f h34 hF
        by_cases h35 : x2 = (4 : Int32)
        · have hF := it_t h35 hF
          refine lv_tableIn (tgt := 198) (off := 96) hx hb dX9_ahead_102 (by rw [h35]; decide) (by rw [h35]; decide) (by rw [h35]; rfl) (by decide) ?_
          refine lv_aload_n hx hb dX9_ahead_198 rfl (lv_at hl 0 rfl) ?_
          refine lv_aload_n hx hb dX9_ahead_199 rfl (lv_at hl 0 rfl) ?_
          refine gX9_26 hC hw (by omega)  dX9_ahead_200 ?_
          obtain ⟨r49, C50, hc51, hF⟩ := b2_t hF
          refine call_Vi hC (c_X9_startsOf l G n (by omega) hn2 34 (show 31 ≤ 34 ∧ 34 ≤ 36 by decide) _ _ _ hc51) wvX9_209 ⟨rfl, rfl, by decide, by decide⟩ hw hS (by omega) ca_model rfl hl.1 rfl (rest := []) rfl (Nat.le_of_ble_eq_true rfl) dX9_ahead_203 ⟨by decide, by decide⟩ (fun H locs hw hS _ => ?_)
          refine lv_aload_n hx hb dX9_ahead_206 rfl (lv_at hl 0 rfl) ?_
          refine lv_aload_n hx hb dX9_ahead_207 rfl (lv_at hl 0 rfl) ?_
          refine gX9_23 hC hw (by omega)  dX9_ahead_208 ?_
          obtain ⟨r52, C53, hc54, hF⟩ := b2_t hF
          refine call_Vi hC (c_X9_startsOf l G n (by omega) hn2 33 (show 31 ≤ 33 ∧ 33 ≤ 36 by decide) _ _ _ hc54) wvX9_209 ⟨rfl, rfl, by decide, by decide⟩ hw hS (by omega) ca_model rfl hl.1 rfl (rest := [.int r49]) rfl (Nat.le_of_ble_eq_true rfl) dX9_ahead_211 ⟨by decide, by decide⟩ (fun H locs hw hS _ => ?_)
          refine lv_isub hx hb dX9_ahead_214 ?_
          exact m_iret hC hr hlk hw hS dX9_ahead_215 hF
        have hF := it_f h35 hF
        by_cases h36 : x2 = (5 : Int32)
        · have hF := it_t h36 hF
          refine lv_tableIn (tgt := 216) (off := 114) hx hb dX9_ahead_102 (by rw [h36]; decide) (by rw [h36]; decide) (by rw [h36]; rfl) (by decide) ?_
          refine lv_aload_n hx hb dX9_ahead_216 rfl (lv_at hl 0 rfl) ?_
          refine gX9_26 hC hw (by omega)  dX9_ahead_217 ?_
          refine lv_bipush (v := 11) hx hb dX9_ahead_220 (by decide) ?_
          obtain ⟨g55, hF⟩ := gi_t hF
          refine ld_marr hC hw (by omega) (show 31 ≤ 34 ∧ 34 ≤ 36 by decide) g55 dX9_ahead_222 ?_
          refine lv_aload_n hx hb dX9_ahead_223 rfl (lv_at hl 0 rfl) ?_
          refine gX9_23 hC hw (by omega)  dX9_ahead_224 ?_
          refine lv_bipush (v := 11) hx hb dX9_ahead_227 (by decide) ?_
          obtain ⟨g56, hF⟩ := gi_t hF
          refine ld_marr hC hw (by omega) (show 31 ≤ 33 ∧ 33 ≤ 36 by decide) g56 dX9_ahead_229 ?_
          refine lv_isub hx hb dX9_ahead_230 ?_
          exact m_iret hC hr hlk hw hS dX9_ahead_231 hF
        have hF := it_f h36 hF
        refine lv_tableOut (tgt := 232) hx hb dX9_ahead_102 (sw_out (fun k ka kb kc => by (have kd : k = 0 ∨ k = 1 ∨ k = 2 ∨ k = 3 ∨ k = 4 ∨ k = 5 := by omega); exact kd.elim (fun kd => by subst kd; exact lv_neT h31 (by decide) kc) (fun kd => kd.elim (fun kd => by subst kd; exact lv_neT h32 (by decide) kc) (fun kd => kd.elim (fun kd => by subst kd; exact lv_neT h33 (by decide) kc) (fun kd => kd.elim (fun kd => by subst kd; exact lv_neT h34 (by decide) kc) (fun kd => kd.elim (fun kd => by subst kd; exact lv_neT h35 (by decide) kc) (fun kd => (by subst kd; exact lv_neT h36 (by decide) kc)))))))) (by decide) ?_
        refine lv_iload hx hb dX9_ahead_232 (lv_at hl 2 rfl) ?_
        exact m_iret hC hr hlk hw hS dX9_ahead_234 hF
      refine iter_sound (P := fun x : Int32 × Int32 × Mem => ∀ (H : Heap) (locs : List Loc) (ls : Array Slot), Wd G n x.2.2 H → LW G s H locs → lv_has ls 7 [(0, .ref (bb G + 244)), (1, .int x0), (2, .int x1), (3, .int x2), (4, .int x.1), (5, .int x.2.1)] → W p l e (rmN 6 140) s m ([.ref (bb G + 244), .int x0, .int x1, .int x2] : List Value).toArray below meth c H locs 0 0 (MQ below (QR G n (some (.int rR)) CR) ([.ref (bb G + 244), .int x0, .int x1, .int x2] : List Value).toArray s 0 0 (frA G)) (F0 m 54 ls [])) (X := fun r => r = o17) ?_ fuel ((99 : Int32), (0 : Int32), C12) o17 hit17 rfl _ _ _ hw hS (lv_sub hl [2, 3, 4, 5, 1, 0] rfl)
      intro x oo17 hF hk17 hX17 H locs ls hw hS hl
      obtain ⟨v14, v15, C16⟩ := x
      have hF : S_X9_ahead_54 x0 x1 v14 v15 C16 = some oo17 := hF
      have hw : Wd G n C16 H := hw
      have hl : lv_has ls 7 [(0, .ref (bb G + 244)), (1, .int x0), (2, .int x1), (3, .int x2), (4, .int v14), (5, .int v15)] := hl
      unfold S_X9_ahead_54 at hF
      refine lv_iload hx hb dX9_ahead_54 (lv_at hl 5 rfl) ?_
      refine lv_iload_n hx hb dX9_ahead_56 rfl (lv_at hl 1 rfl) ?_
      refine lv_icmp_ge (tgt := 101) hx hb dX9_ahead_57 (by decide) (fun h21 => ?_) (fun h21 => ?_)
      · have hF := it_t h21 hF
        exact hR17 _ _ _ _ _ _ (it_exit hF hX17).symm hw hS (lv_sub hl [0, 3, 4] rfl)
      · have hF := it_f h21 hF
        refine lv_aload_n hx hb dX9_ahead_60 rfl (lv_at hl 0 rfl) ?_
        refine lv_aload_n hx hb dX9_ahead_61 rfl (lv_at hl 0 rfl) ?_
        refine gX9_26 hC hw (by omega)  dX9_ahead_62 ?_
        refine lv_iload_n hx hb dX9_ahead_65 rfl (lv_at hl 2 rfl) ?_
        obtain ⟨r22, C23, hc24, hF⟩ := b2_t hF
        refine call_Vv hC (c_X9_tickOn l G n (by omega) hn2 34 (show 31 ≤ 34 ∧ 34 ≤ 36 by decide) x1 _ _ _ hc24) wvX9_119 ⟨rfl, rfl, by decide, by decide⟩ hw hS (by omega) ca_model rfl hl.1 rfl (rest := []) rfl (Nat.le_of_ble_eq_true rfl) dX9_ahead_66 ⟨by decide, by decide⟩ (fun H locs hw hS _ => ?_)
        refine lv_aload_n hx hb dX9_ahead_69 rfl (lv_at hl 0 rfl) ?_
        refine lv_aload_n hx hb dX9_ahead_70 rfl (lv_at hl 0 rfl) ?_
        refine gX9_26 hC hw (by omega)  dX9_ahead_71 ?_
        obtain ⟨r25, C26, hc27, hF⟩ := b2_t hF
        refine call_Vi hC (c_X9_meanOf l G n (by omega) hn2 34 (show 31 ≤ 34 ∧ 34 ≤ 36 by decide) _ _ _ hc27) wvX9_87 ⟨rfl, rfl, by decide, by decide⟩ hw hS (by omega) ca_model rfl hl.1 rfl (rest := []) rfl (Nat.le_of_ble_eq_true rfl) dX9_ahead_74 ⟨by decide, by decide⟩ (fun H locs hw hS _ => ?_)
        refine lv_istore (lv' := [(6, .int r25), (0, .ref (bb G + 244)), (1, .int x0), (2, .int x1), (3, .int x2), (4, .int v14), (5, .int v15)]) hx hb dX9_ahead_77 hl (by decide) rfl (fun ls hl => ?_)
        refine lv_iload hx hb dX9_ahead_79 (lv_at hl 0 rfl) ?_
        refine lv_iload hx hb dX9_ahead_81 (lv_at hl 5 rfl) ?_
        refine lv_icmp_ge (tgt := 91) hx hb dX9_ahead_83 (by decide) (fun h28 => ?_) (fun h28 => ?_)
        · have hF := it_t h28 hF
          refine lv_iload hx hb dX9_ahead_91 (lv_at hl 5 rfl) ?_
          refine lv_istore (lv' := [(4, .int v14), (6, .int r25), (0, .ref (bb G + 244)), (1, .int x0), (2, .int x1), (3, .int x2), (5, .int v15)]) hx hb dX9_ahead_93 hl (by decide) rfl (fun ls hl => ?_)
          obtain ⟨v29, ev29, hF⟩ := nm_t hF
          refine lv_iinc (v := v29) (lv' := [(5, .int v29), (4, .int v14), (6, .int r25), (0, .ref (bb G + 244)), (1, .int x0), (2, .int x1), (3, .int x2)]) hx hb dX9_ahead_95 hl (k := 6) rfl (by rw [ev29]; rfl) (by decide) rfl (fun ls hl => ?_)
          refine lv_goto (tgt := 54) hx hb dX9_ahead_98 (by decide) ?_
          exact it_back hF hk17 _ _ _ hw hS (lv_sub hl [3, 4, 5, 6, 1, 0] rfl)
        · have hF := it_f h28 hF
          refine lv_iload hx hb dX9_ahead_86 (lv_at hl 0 rfl) ?_
          refine lv_goto (tgt := 93) hx hb dX9_ahead_88 (by decide) ?_
          refine lv_istore (lv' := [(4, .int r25), (6, .int r25), (0, .ref (bb G + 244)), (1, .int x0), (2, .int x1), (3, .int x2), (5, .int v15)]) hx hb dX9_ahead_93 hl (by decide) rfl (fun ls hl => ?_)
          obtain ⟨v30, ev30, hF⟩ := nm_t hF
          refine lv_iinc (v := v30) (lv' := [(5, .int v30), (4, .int r25), (6, .int r25), (0, .ref (bb G + 244)), (1, .int x0), (2, .int x1), (3, .int x2)]) hx hb dX9_ahead_95 hl (k := 6) rfl (by rw [ev30]; rfl) (by decide) rfl (fun ls hl => ?_)
          refine lv_goto (tgt := 54) hx hb dX9_ahead_98 (by decide) ?_
          exact it_back hF hk17 _ _ _ hw hS (lv_sub hl [3, 4, 5, 6, 1, 0] rfl)
    · have hF := it_f h10 hF
      refine lv_iconst (v := 0) hx hb dX9_ahead_32 (by decide) ?_
      exact m_iret hC hr hlk hw hS dX9_ahead_33 hF
  refine lv_if_eq (tgt := 25) hx hb dX9_ahead_6 (by decide) (fun h4 => ?_) (fun h4 => ?_)
  · have hF := it_t h4 hF
    refine lv_iconst (v := 1) hx hb dX9_ahead_25 (by decide) ?_
    exact hJ26 (1 : Int32) C2 _ _ _ hF hw hS (lv_sub hl [0, 1, 2, 3] rfl)
  · have hF := it_f h4 hF
    refine lv_iload_n hx hb dX9_ahead_9 rfl (lv_at hl 3 rfl) ?_
    refine lv_i2l (v := (x2).toInt64) hx hb dX9_ahead_10 rfl ?_
    refine lv_lconst (v := 0) hx hb dX9_ahead_11 (by decide) ?_
    refine lv_ldc2 (v := 6) hx hb hC.2.2.2.1 (hC.2.2.2.2.1 _ kcX9_207) dX9_ahead_12 ?_
    obtain ⟨r57, C58, hc59, hF⟩ := b2_t hF
    refine call_Si hC (c_X9_in l G n (by omega) hn2 ((x2).toInt64) (0 : Int64) (6 : Int64) _ _ _ hc59) wsX9_50 ⟨rfl, rfl, by decide, by decide⟩ hw hS hl.1 rfl (rest := [.ref (bb G + 244)]) rfl (Nat.le_of_ble_eq_true rfl) dX9_ahead_15 ⟨by decide, by decide⟩ (fun H locs hw hS _ => ?_)
    refine lv_if_eq (tgt := 25) hx hb dX9_ahead_18 (by decide) (fun h60 => ?_) (fun h60 => ?_)
    · have hF := it_t h60 hF
      refine lv_iconst (v := 1) hx hb dX9_ahead_25 (by decide) ?_
      exact hJ26 (1 : Int32) C58 _ _ _ hF hw hS (lv_sub hl [0, 1, 2, 3] rfl)
    · have hF := it_f h60 hF
      refine lv_iconst (v := 0) hx hb dX9_ahead_21 (by decide) ?_
      refine lv_goto (tgt := 26) hx hb dX9_ahead_22 (by decide) ?_
      exact hJ26 (0 : Int32) C58 _ _ _ hF hw hS (lv_sub hl [0, 1, 2, 3] rfl)
set_option maxHeartbeats 4000000 in
set_option maxRecDepth 100000 in
theorem c_X9_warmAfter (l : Launch) (G : GG) (n : Nat) (hn : 252 ≤ n) (hn2 : n ≤ 253) (x0 : Int32) (x1 : Int32) (C : Mem) (rR : Int32) (CR : Mem) (hF : F_X9_warmAfter x0 x1 C = some (rR, CR)) : Ct l yX9_warmAfter cX9_warmAfter 4 (some .int) (rmN 6 140) G n C [.ref (bb G + 244), .int x0, .int x1] (some (.int rR)) CR := by
  refine Ct.of (by decide) (Nat.le_of_ble_eq_true rfl) ?_
  intro p e s m below meth c ls hC hr hlk hw hl
  have hx := hC.1
  have hb := hC.2.1
  have hS : LW G s s.heap [] := va_S.rf
  have hl : lv_has ls 4 [(0, .ref (bb G + 244)), (1, .int x0), (2, .int x1)] := hl
  unfold F_X9_warmAfter at hF
  refine lv_aload_n hx hb dX9_warmAfter_0 rfl (lv_at hl 0 rfl) ?_
  refine lv_iload_n hx hb dX9_warmAfter_1 rfl (lv_at hl 1 rfl) ?_
  refine lv_i2l (v := (x0).toInt64) hx hb dX9_warmAfter_2 rfl ?_
  refine lv_lconst (v := 0) hx hb dX9_warmAfter_3 (by decide) ?_
  refine lv_ldc2 (v := 99) hx hb hC.2.2.2.1 (hC.2.2.2.2.1 _ kcX9_200) dX9_warmAfter_4 ?_
  obtain ⟨r1, C2, hc3, hF⟩ := b2_t hF
  refine call_Si hC (c_X9_in l G n (by omega) hn2 ((x0).toInt64) (0 : Int64) (99 : Int64) _ _ _ hc3) wsX9_50 ⟨rfl, rfl, by decide, by decide⟩ hw hS hl.1 rfl (rest := [.ref (bb G + 244)]) rfl (Nat.le_of_ble_eq_true rfl) dX9_warmAfter_7 ⟨by decide, by decide⟩ (fun H locs hw hS _ => ?_)
  have hJ30 : ∀ (v5 : Int32) (C6 : Mem) (H : Heap) (locs : List Loc) (ls : Array Slot), J_X9_warmAfter_30 x0 x1 v5 C6 = some (rR, CR) → Wd G n C6 H → LW G s H locs → lv_has ls 4 [(0, .ref (bb G + 244)), (1, .int x0), (2, .int x1)] → W p l e (rmN 6 140) s m ([.ref (bb G + 244), .int x0, .int x1] : List Value).toArray below meth c H locs 0 0 (MQ below (QR G n (some (.int rR)) CR) ([.ref (bb G + 244), .int x0, .int x1] : List Value).toArray s 0 0 (frA G)) (F0 m 30 ls [.int v5, .ref (bb G + 244)]) := by
    intro v5 C6 H locs ls hF hw hS hl
    unfold J_X9_warmAfter_30 at hF
    obtain ⟨r7, C8, hc9, hF⟩ := b2_t hF
    refine call_Vi hC (c_X9_refused l G n (by omega) hn2 v5 _ _ _ hc9) wvX9_127 ⟨rfl, rfl, by decide, by decide⟩ hw hS (by omega) ca_model rfl hl.1 rfl (rest := []) rfl (Nat.le_of_ble_eq_true rfl) dX9_warmAfter_30 ⟨by decide, by decide⟩ (fun H locs hw hS _ => ?_)
    refine lv_if_eq (tgt := 38) hx hb dX9_warmAfter_33 (by decide) (fun h10 => ?_) (fun h10 => ?_)
    · have hF := it_t h10 hF
      refine lv_aload_n hx hb dX9_warmAfter_38 rfl (lv_at hl 0 rfl) ?_
      refine gX9_23 hC hw (by omega)  dX9_warmAfter_39 ?_
      refine lv_iconst (v := 0) hx hb dX9_warmAfter_42 (by decide) ?_
      refine lv_aload_n hx hb dX9_warmAfter_43 rfl (lv_at hl 0 rfl) ?_
      refine gX9_26 hC hw (by omega)  dX9_warmAfter_44 ?_
      refine lv_iconst (v := 0) hx hb dX9_warmAfter_47 (by decide) ?_
      obtain ⟨r11, C12, hc13, hF⟩ := b2_t hF
      refine call_Sv hC (c_X9_copyPage l G n (by omega) hn2 33 (show 31 ≤ 33 ∧ 33 ≤ 36 by decide) (0 : Int32) 34 (show 31 ≤ 34 ∧ 34 ≤ 36 by decide) (0 : Int32) _ _ _ hc13) wsX9_156 ⟨rfl, rfl, by decide, by decide⟩ hw hS hl.1 rfl (rest := []) rfl (Nat.le_of_ble_eq_true rfl) dX9_warmAfter_48 ⟨by decide, by decide⟩ (fun H locs hw hS _ => ?_)
      refine lv_iconst (v := 0) hx hb dX9_warmAfter_51 (by decide) ?_
      refine lv_istore_n (lv' := [(3, .int (0 : Int32)), (0, .ref (bb G + 244)), (1, .int x0), (2, .int x1)]) hx hb dX9_warmAfter_52 rfl hl (by decide) rfl (fun ls hl => ?_)
      obtain ⟨o16, hit16, hG16⟩ := b1_t hF
      have hR16 : ∀ (v17 : Int32) (C18 : Mem) (H : Heap) (locs : List Loc) (ls : Array Slot), o16 = Sum.inl (v17, C18) → Wd G n C18 H → LW G s H locs → lv_has ls 4 [] → W p l e (rmN 6 140) s m ([.ref (bb G + 244), .int x0, .int x1] : List Value).toArray below meth c H locs 0 0 (MQ below (QR G n (some (.int rR)) CR) ([.ref (bb G + 244), .int x0, .int x1] : List Value).toArray s 0 0 (frA G)) (F0 m 89 ls []) := by
        intro v17 C18 H locs ls hE hw hS hl
        subst hE
        have hF := u2_t (se_l rfl hG16)
        refine lv_bipush (v := -9) hx hb dX9_warmAfter_89 (by decide) ?_
        exact m_iret hC hr hlk hw hS dX9_warmAfter_91 hF
      refine iter_sound (P := fun x : Int32 × Mem => ∀ (H : Heap) (locs : List Loc) (ls : Array Slot), Wd G n x.2 H → LW G s H locs → lv_has ls 4 [(0, .ref (bb G + 244)), (1, .int x0), (2, .int x1), (3, .int x.1)] → W p l e (rmN 6 140) s m ([.ref (bb G + 244), .int x0, .int x1] : List Value).toArray below meth c H locs 0 0 (MQ below (QR G n (some (.int rR)) CR) ([.ref (bb G + 244), .int x0, .int x1] : List Value).toArray s 0 0 (frA G)) (F0 m 53 ls [])) (X := fun r => r = o16) ?_ fuel ((0 : Int32), C12) o16 hit16 rfl _ _ _ hw hS (lv_sub hl [1, 2, 3, 0] rfl)
      intro x oo16 hF hk16 hX16 H locs ls hw hS hl
      obtain ⟨v14, C15⟩ := x
      have hF : S_X9_warmAfter_53 x0 x1 v14 C15 = some oo16 := hF
      have hw : Wd G n C15 H := hw
      have hl : lv_has ls 4 [(0, .ref (bb G + 244)), (1, .int x0), (2, .int x1), (3, .int v14)] := hl
      unfold S_X9_warmAfter_53 at hF
      refine lv_iload_n hx hb dX9_warmAfter_53 rfl (lv_at hl 3 rfl) ?_
      refine lv_sipush (v := 200) hx hb dX9_warmAfter_54 (by decide) ?_
      refine lv_icmp_gt (tgt := 89) hx hb dX9_warmAfter_57 (by decide) (fun h19 => ?_) (fun h19 => ?_)
      · have hF := it_t h19 hF
        exact hR16 _ _ _ _ _ (it_exit hF hX16).symm hw hS (lv_sub hl [] rfl)
      · have hF := it_f h19 hF
        refine lv_aload_n hx hb dX9_warmAfter_60 rfl (lv_at hl 0 rfl) ?_
        refine lv_aload_n hx hb dX9_warmAfter_61 rfl (lv_at hl 0 rfl) ?_
        refine gX9_26 hC hw (by omega)  dX9_warmAfter_62 ?_
        obtain ⟨r20, C21, hc22, hF⟩ := b2_t hF
        refine call_Vi hC (c_X9_meanOf l G n (by omega) hn2 34 (show 31 ≤ 34 ∧ 34 ≤ 36 by decide) _ _ _ hc22) wvX9_87 ⟨rfl, rfl, by decide, by decide⟩ hw hS (by omega) ca_model rfl hl.1 rfl (rest := []) rfl (Nat.le_of_ble_eq_true rfl) dX9_warmAfter_65 ⟨by decide, by decide⟩ (fun H locs hw hS _ => ?_)
        refine lv_iload_n hx hb dX9_warmAfter_68 rfl (lv_at hl 1 rfl) ?_
        refine lv_icmp_lt (tgt := 74) hx hb dX9_warmAfter_69 (by decide) (fun h23 => ?_) (fun h23 => ?_)
        · have hF := it_t h23 hF
          refine lv_aload_n hx hb dX9_warmAfter_74 rfl (lv_at hl 0 rfl) ?_
          refine lv_aload_n hx hb dX9_warmAfter_75 rfl (lv_at hl 0 rfl) ?_
          refine gX9_26 hC hw (by omega)  dX9_warmAfter_76 ?_
          refine lv_iload_n hx hb dX9_warmAfter_79 rfl (lv_at hl 2 rfl) ?_
          obtain ⟨r24, C25, hc26, hF⟩ := b2_t hF
          refine call_Vv hC (c_X9_tickOn l G n (by omega) hn2 34 (show 31 ≤ 34 ∧ 34 ≤ 36 by decide) x1 _ _ _ hc26) wvX9_119 ⟨rfl, rfl, by decide, by decide⟩ hw hS (by omega) ca_model rfl hl.1 rfl (rest := []) rfl (Nat.le_of_ble_eq_true rfl) dX9_warmAfter_80 ⟨by decide, by decide⟩ (fun H locs hw hS _ => ?_)
          obtain ⟨v27, ev27, hF⟩ := nm_t hF
          refine lv_iinc (v := v27) (lv' := [(3, .int v27), (0, .ref (bb G + 244)), (1, .int x0), (2, .int x1)]) hx hb dX9_warmAfter_83 hl (k := 3) rfl (by rw [ev27]; rfl) (by decide) rfl (fun ls hl => ?_)
          refine lv_goto (tgt := 53) hx hb dX9_warmAfter_86 (by decide) ?_
          exact it_back hF hk16 _ _ _ hw hS (lv_sub hl [1, 2, 3, 0] rfl)
        · have hF := it_f h23 hF
          refine lv_iload_n hx hb dX9_warmAfter_72 rfl (lv_at hl 3 rfl) ?_
          have hF := se_r (it_exit hF hX16).symm hG16
          exact m_iret hC hr hlk hw hS dX9_warmAfter_73 hF
    · have hF := it_f h10 hF
      refine lv_iconst (v := 0) hx hb dX9_warmAfter_36 (by decide) ?_
      exact m_iret hC hr hlk hw hS dX9_warmAfter_37 hF
  refine lv_if_eq (tgt := 29) hx hb dX9_warmAfter_10 (by decide) (fun h4 => ?_) (fun h4 => ?_)
  · have hF := it_t h4 hF
    refine lv_iconst (v := 1) hx hb dX9_warmAfter_29 (by decide) ?_
    exact hJ30 (1 : Int32) C2 _ _ _ hF hw hS (lv_sub hl [0, 1, 2] rfl)
  · have hF := it_f h4 hF
    refine lv_iload_n hx hb dX9_warmAfter_13 rfl (lv_at hl 2 rfl) ?_
    refine lv_i2l (v := (x1).toInt64) hx hb dX9_warmAfter_14 rfl ?_
    refine lv_lconst (v := 0) hx hb dX9_warmAfter_15 (by decide) ?_
    refine lv_ldc2 (v := 5) hx hb hC.2.2.2.1 (hC.2.2.2.2.1 _ kcX9_60) dX9_warmAfter_16 ?_
    obtain ⟨r28, C29, hc30, hF⟩ := b2_t hF
    refine call_Si hC (c_X9_in l G n (by omega) hn2 ((x1).toInt64) (0 : Int64) (5 : Int64) _ _ _ hc30) wsX9_50 ⟨rfl, rfl, by decide, by decide⟩ hw hS hl.1 rfl (rest := [.ref (bb G + 244)]) rfl (Nat.le_of_ble_eq_true rfl) dX9_warmAfter_19 ⟨by decide, by decide⟩ (fun H locs hw hS _ => ?_)
    refine lv_if_eq (tgt := 29) hx hb dX9_warmAfter_22 (by decide) (fun h31 => ?_) (fun h31 => ?_)
    · have hF := it_t h31 hF
      refine lv_iconst (v := 1) hx hb dX9_warmAfter_29 (by decide) ?_
      exact hJ30 (1 : Int32) C29 _ _ _ hF hw hS (lv_sub hl [0, 1, 2] rfl)
    · have hF := it_f h31 hF
      refine lv_iconst (v := 0) hx hb dX9_warmAfter_25 (by decide) ?_
      refine lv_goto (tgt := 30) hx hb dX9_warmAfter_26 (by decide) ?_
      exact hJ30 (0 : Int32) C29 _ _ _ hF hw hS (lv_sub hl [0, 1, 2] rfl)
set_option maxHeartbeats 4000000 in
set_option maxRecDepth 100000 in
theorem c_X9_bearable (l : Launch) (G : GG) (n : Nat) (hn : 252 ≤ n) (hn2 : n ≤ 253) (x0 : Int32) (x1 : Int32) (C : Mem) (rR : Int32) (CR : Mem) (hF : F_X9_bearable x0 x1 C = some (rR, CR)) : Ct l yX9_bearable cX9_bearable 6 (some .int) (rmN 6 140) G n C [.ref (bb G + 244), .int x0, .int x1] (some (.int rR)) CR := by
  refine Ct.of (by decide) (Nat.le_of_ble_eq_true rfl) ?_
  intro p e s m below meth c ls hC hr hlk hw hl
  have hx := hC.1
  have hb := hC.2.1
  have hS : LW G s s.heap [] := va_S.rf
  have hl : lv_has ls 6 [(0, .ref (bb G + 244)), (1, .int x0), (2, .int x1)] := hl
  unfold F_X9_bearable at hF
  refine lv_aload_n hx hb dX9_bearable_0 rfl (lv_at hl 0 rfl) ?_
  refine lv_iload_n hx hb dX9_bearable_1 rfl (lv_at hl 1 rfl) ?_
  refine lv_i2l (v := (x0).toInt64) hx hb dX9_bearable_2 rfl ?_
  refine lv_lconst (v := 1) hx hb dX9_bearable_3 (by decide) ?_
  refine lv_ldc2 (v := 96) hx hb hC.2.2.2.1 (hC.2.2.2.2.1 _ kcX9_178) dX9_bearable_4 ?_
  obtain ⟨r1, C2, hc3, hF⟩ := b2_t hF
  refine call_Si hC (c_X9_in l G n (by omega) hn2 ((x0).toInt64) (1 : Int64) (96 : Int64) _ _ _ hc3) wsX9_50 ⟨rfl, rfl, by decide, by decide⟩ hw hS hl.1 rfl (rest := [.ref (bb G + 244)]) rfl (Nat.le_of_ble_eq_true rfl) dX9_bearable_7 ⟨by decide, by decide⟩ (fun H locs hw hS _ => ?_)
  have hJ32 : ∀ (v5 : Int32) (C6 : Mem) (H : Heap) (locs : List Loc) (ls : Array Slot), J_X9_bearable_32 x0 x1 v5 C6 = some (rR, CR) → Wd G n C6 H → LW G s H locs → lv_has ls 6 [(0, .ref (bb G + 244)), (1, .int x0), (2, .int x1)] → W p l e (rmN 6 140) s m ([.ref (bb G + 244), .int x0, .int x1] : List Value).toArray below meth c H locs 0 0 (MQ below (QR G n (some (.int rR)) CR) ([.ref (bb G + 244), .int x0, .int x1] : List Value).toArray s 0 0 (frA G)) (F0 m 32 ls [.int v5, .ref (bb G + 244)]) := by
    intro v5 C6 H locs ls hF hw hS hl
    unfold J_X9_bearable_32 at hF
    obtain ⟨r7, C8, hc9, hF⟩ := b2_t hF
    refine call_Vi hC (c_X9_refused l G n (by omega) hn2 v5 _ _ _ hc9) wvX9_127 ⟨rfl, rfl, by decide, by decide⟩ hw hS (by omega) ca_model rfl hl.1 rfl (rest := []) rfl (Nat.le_of_ble_eq_true rfl) dX9_bearable_32 ⟨by decide, by decide⟩ (fun H locs hw hS _ => ?_)
    refine lv_if_eq (tgt := 40) hx hb dX9_bearable_35 (by decide) (fun h10 => ?_) (fun h10 => ?_)
    · have hF := it_t h10 hF
      refine lv_iconst (v := 5) hx hb dX9_bearable_40 (by decide) ?_
      refine lv_istore_n (lv' := [(3, .int (5 : Int32)), (0, .ref (bb G + 244)), (1, .int x0), (2, .int x1)]) hx hb dX9_bearable_41 rfl hl (by decide) rfl (fun ls hl => ?_)
      obtain ⟨o13, hit13, hG13⟩ := b1_t hF
      have hR13 : ∀ (v14 : Int32) (C15 : Mem) (H : Heap) (locs : List Loc) (ls : Array Slot), o13 = Sum.inl (v14, C15) → Wd G n C15 H → LW G s H locs → lv_has ls 6 [] → W p l e (rmN 6 140) s m ([.ref (bb G + 244), .int x0, .int x1] : List Value).toArray below meth c H locs 0 0 (MQ below (QR G n (some (.int rR)) CR) ([.ref (bb G + 244), .int x0, .int x1] : List Value).toArray s 0 0 (frA G)) (F0 m 129 ls []) := by
        intro v14 C15 H locs ls hE hw hS hl
        subst hE
        have hF := u2_t (se_l rfl hG13)
        refine lv_bipush (v := -9) hx hb dX9_bearable_129 (by decide) ?_
        exact m_iret hC hr hlk hw hS dX9_bearable_131 hF
      refine iter_sound (P := fun x : Int32 × Mem => ∀ (H : Heap) (locs : List Loc) (ls : Array Slot), Wd G n x.2 H → LW G s H locs → lv_has ls 6 [(0, .ref (bb G + 244)), (1, .int x0), (2, .int x1), (3, .int x.1)] → W p l e (rmN 6 140) s m ([.ref (bb G + 244), .int x0, .int x1] : List Value).toArray below meth c H locs 0 0 (MQ below (QR G n (some (.int rR)) CR) ([.ref (bb G + 244), .int x0, .int x1] : List Value).toArray s 0 0 (frA G)) (F0 m 42 ls [])) (X := fun r => r = o13) ?_ fuel ((5 : Int32), C8) o13 hit13 rfl _ _ _ hw hS (lv_sub hl [1, 2, 3, 0] rfl)
      intro x oo13 hF hk13 hX13 H locs ls hw hS hl
      obtain ⟨v11, C12⟩ := x
      have hF : S_X9_bearable_42 x0 x1 v11 C12 = some oo13 := hF
      have hw : Wd G n C12 H := hw
      have hl : lv_has ls 6 [(0, .ref (bb G + 244)), (1, .int x0), (2, .int x1), (3, .int v11)] := hl
      unfold S_X9_bearable_42 at hF
      refine lv_iload_n hx hb dX9_bearable_42 rfl (lv_at hl 3 rfl) ?_
      refine lv_if_lt (tgt := 129) hx hb dX9_bearable_43 (by decide) (fun h16 => ?_) (fun h16 => ?_)
      · have hF := it_t h16 hF
        exact hR13 _ _ _ _ _ (it_exit hF hX13).symm hw hS (lv_sub hl [] rfl)
      · have hF := it_f h16 hF
        refine lv_aload_n hx hb dX9_bearable_46 rfl (lv_at hl 0 rfl) ?_
        refine gX9_23 hC hw (by omega)  dX9_bearable_47 ?_
        refine lv_iconst (v := 0) hx hb dX9_bearable_50 (by decide) ?_
        refine lv_aload_n hx hb dX9_bearable_51 rfl (lv_at hl 0 rfl) ?_
        refine gX9_26 hC hw (by omega)  dX9_bearable_52 ?_
        refine lv_iconst (v := 0) hx hb dX9_bearable_55 (by decide) ?_
        obtain ⟨r17, C18, hc19, hF⟩ := b2_t hF
        refine call_Sv hC (c_X9_copyPage l G n (by omega) hn2 33 (show 31 ≤ 33 ∧ 33 ≤ 36 by decide) (0 : Int32) 34 (show 31 ≤ 34 ∧ 34 ≤ 36 by decide) (0 : Int32) _ _ _ hc19) wsX9_156 ⟨rfl, rfl, by decide, by decide⟩ hw hS hl.1 rfl (rest := []) rfl (Nat.le_of_ble_eq_true rfl) dX9_bearable_56 ⟨by decide, by decide⟩ (fun H locs hw hS _ => ?_)
        refine lv_iconst (v := 1) hx hb dX9_bearable_59 (by decide) ?_
        refine lv_istore (lv' := [(4, .int (1 : Int32)), (0, .ref (bb G + 244)), (1, .int x0), (2, .int x1), (3, .int v11)]) hx hb dX9_bearable_60 hl (by decide) rfl (fun ls hl => ?_)
        refine lv_iconst (v := 0) hx hb dX9_bearable_62 (by decide) ?_
        refine lv_istore (lv' := [(5, .int (0 : Int32)), (4, .int (1 : Int32)), (0, .ref (bb G + 244)), (1, .int x0), (2, .int x1), (3, .int v11)]) hx hb dX9_bearable_63 hl (by decide) rfl (fun ls hl => ?_)
        obtain ⟨o23, hit23, hG23⟩ := b1_t hF
        have hR23 : ∀ (v24 : Int32) (v25 : Int32) (C26 : Mem) (H : Heap) (locs : List Loc) (ls : Array Slot), o23 = (v24, v25, C26) → Wd G n C26 H → LW G s H locs → lv_has ls 6 [(0, .ref (bb G + 244)), (1, .int x0), (2, .int x1), (3, .int v11), (4, .int v24)] → W p l e (rmN 6 140) s m ([.ref (bb G + 244), .int x0, .int x1] : List Value).toArray below meth c H locs 0 0 (MQ below (QR G n (some (.int rR)) CR) ([.ref (bb G + 244), .int x0, .int x1] : List Value).toArray s 0 0 (frA G)) (F0 m 116 ls []) := by
          intro v24 v25 C26 H locs ls hE hw hS hl
          subst hE
          have hF := u3_t (hG23)
          refine lv_iload hx hb dX9_bearable_116 (lv_at hl 4 rfl) ?_
          refine lv_if_eq (tgt := 123) hx hb dX9_bearable_118 (by decide) (fun h36 => ?_) (fun h36 => ?_)
          · have hF := it_t h36 hF
            obtain ⟨v37, ev37, hF⟩ := nm_t hF
            refine lv_iinc (v := v37) (lv' := [(3, .int v37), (0, .ref (bb G + 244)), (1, .int x0), (2, .int x1), (4, .int v24)]) hx hb dX9_bearable_123 hl (k := 3) rfl (by rw [ev37]; rfl) (by decide) rfl (fun ls hl => ?_)
            refine lv_goto (tgt := 42) hx hb dX9_bearable_126 (by decide) ?_
            exact it_back hF hk13 _ _ _ hw hS (lv_sub hl [1, 2, 3, 0] rfl)
          · have hF := it_f h36 hF
            refine lv_iload_n hx hb dX9_bearable_121 rfl (lv_at hl 3 rfl) ?_
            have hF := se_r (it_exit hF hX13).symm hG13
            exact m_iret hC hr hlk hw hS dX9_bearable_122 hF
        refine iter_sound (P := fun x : Int32 × Int32 × Mem => ∀ (H : Heap) (locs : List Loc) (ls : Array Slot), Wd G n x.2.2 H → LW G s H locs → lv_has ls 6 [(0, .ref (bb G + 244)), (1, .int x0), (2, .int x1), (3, .int v11), (4, .int x.1), (5, .int x.2.1)] → W p l e (rmN 6 140) s m ([.ref (bb G + 244), .int x0, .int x1] : List Value).toArray below meth c H locs 0 0 (MQ below (QR G n (some (.int rR)) CR) ([.ref (bb G + 244), .int x0, .int x1] : List Value).toArray s 0 0 (frA G)) (F0 m 65 ls [])) (X := fun r => r = o23) ?_ fuel ((1 : Int32), (0 : Int32), C18) o23 hit23 rfl _ _ _ hw hS (lv_sub hl [2, 3, 4, 5, 1, 0] rfl)
        intro x oo23 hF hk23 hX23 H locs ls hw hS hl
        obtain ⟨v20, v21, C22⟩ := x
        have hF : S_X9_bearable_65 x0 x1 v11 v20 v21 C22 = some oo23 := hF
        have hw : Wd G n C22 H := hw
        have hl : lv_has ls 6 [(0, .ref (bb G + 244)), (1, .int x0), (2, .int x1), (3, .int v11), (4, .int v20), (5, .int v21)] := hl
        unfold S_X9_bearable_65 at hF
        refine lv_iload hx hb dX9_bearable_65 (lv_at hl 5 rfl) ?_
        refine lv_iload_n hx hb dX9_bearable_67 rfl (lv_at hl 1 rfl) ?_
        refine lv_icmp_ge (tgt := 116) hx hb dX9_bearable_68 (by decide) (fun h27 => ?_) (fun h27 => ?_)
        · have hF := it_t h27 hF
          exact hR23 _ _ _ _ _ _ (it_exit hF hX23).symm hw hS (lv_sub hl [0, 1, 2, 3, 4] rfl)
        · have hF := it_f h27 hF
          refine lv_iload hx hb dX9_bearable_71 (lv_at hl 4 rfl) ?_
          refine lv_if_eq (tgt := 116) hx hb dX9_bearable_73 (by decide) (fun h28 => ?_) (fun h28 => ?_)
          · have hF := it_t h28 hF
            exact hR23 _ _ _ _ _ _ (it_exit hF hX23).symm hw hS (lv_sub hl [0, 1, 2, 3, 4] rfl)
          · have hF := it_f h28 hF
            refine lv_aload_n hx hb dX9_bearable_76 rfl (lv_at hl 0 rfl) ?_
            refine lv_aload_n hx hb dX9_bearable_77 rfl (lv_at hl 0 rfl) ?_
            refine gX9_26 hC hw (by omega)  dX9_bearable_78 ?_
            refine lv_iload_n hx hb dX9_bearable_81 rfl (lv_at hl 3 rfl) ?_
            obtain ⟨r29, C30, hc31, hF⟩ := b2_t hF
            refine call_Vv hC (c_X9_tickOn l G n (by omega) hn2 34 (show 31 ≤ 34 ∧ 34 ≤ 36 by decide) v11 _ _ _ hc31) wvX9_119 ⟨rfl, rfl, by decide, by decide⟩ hw hS (by omega) ca_model rfl hl.1 rfl (rest := []) rfl (Nat.le_of_ble_eq_true rfl) dX9_bearable_82 ⟨by decide, by decide⟩ (fun H locs hw hS _ => ?_)
            refine lv_aload_n hx hb dX9_bearable_85 rfl (lv_at hl 0 rfl) ?_
            refine gX9_26 hC hw (by omega)  dX9_bearable_86 ?_
            refine lv_bipush (v := 22) hx hb dX9_bearable_89 (by decide) ?_
            refine lv_aload_n hx hb dX9_bearable_91 rfl (lv_at hl 0 rfl) ?_
            refine gX9_17 hC hw (by omega)  dX9_bearable_92 ?_
            refine lv_iadd hx hb dX9_bearable_95 ?_
            refine lv_iconst (v := 1) hx hb dX9_bearable_96 (by decide) ?_
            refine lv_isub hx hb dX9_bearable_97 ?_
            obtain ⟨g32, hF⟩ := gi_t hF
            refine ld_marr hC hw (by omega) (show 31 ≤ 34 ∧ 34 ≤ 36 by decide) g32 dX9_bearable_98 ?_
            refine lv_iload_n hx hb dX9_bearable_99 rfl (lv_at hl 2 rfl) ?_
            refine lv_icmp_lt (tgt := 107) hx hb dX9_bearable_100 (by decide) (fun h33 => ?_) (fun h33 => ?_)
            · have hF := it_t h33 hF
              refine lv_iconst (v := 0) hx hb dX9_bearable_107 (by decide) ?_
              refine lv_istore (lv' := [(4, .int (0 : Int32)), (0, .ref (bb G + 244)), (1, .int x0), (2, .int x1), (3, .int v11), (5, .int v21)]) hx hb dX9_bearable_108 hl (by decide) rfl (fun ls hl => ?_)
              obtain ⟨v34, ev34, hF⟩ := nm_t hF
              refine lv_iinc (v := v34) (lv' := [(5, .int v34), (4, .int (0 : Int32)), (0, .ref (bb G + 244)), (1, .int x0), (2, .int x1), (3, .int v11)]) hx hb dX9_bearable_110 hl (k := 5) rfl (by rw [ev34]; rfl) (by decide) rfl (fun ls hl => ?_)
              refine lv_goto (tgt := 65) hx hb dX9_bearable_113 (by decide) ?_
              exact it_back hF hk23 _ _ _ hw hS (lv_sub hl [2, 3, 4, 5, 1, 0] rfl)
            · have hF := it_f h33 hF
              refine lv_iconst (v := 1) hx hb dX9_bearable_103 (by decide) ?_
              refine lv_goto (tgt := 108) hx hb dX9_bearable_104 (by decide) ?_
              refine lv_istore (lv' := [(4, .int (1 : Int32)), (0, .ref (bb G + 244)), (1, .int x0), (2, .int x1), (3, .int v11), (5, .int v21)]) hx hb dX9_bearable_108 hl (by decide) rfl (fun ls hl => ?_)
              obtain ⟨v35, ev35, hF⟩ := nm_t hF
              refine lv_iinc (v := v35) (lv' := [(5, .int v35), (4, .int (1 : Int32)), (0, .ref (bb G + 244)), (1, .int x0), (2, .int x1), (3, .int v11)]) hx hb dX9_bearable_110 hl (k := 5) rfl (by rw [ev35]; rfl) (by decide) rfl (fun ls hl => ?_)
              refine lv_goto (tgt := 65) hx hb dX9_bearable_113 (by decide) ?_
              exact it_back hF hk23 _ _ _ hw hS (lv_sub hl [2, 3, 4, 5, 1, 0] rfl)
    · have hF := it_f h10 hF
      refine lv_iconst (v := 0) hx hb dX9_bearable_38 (by decide) ?_
      exact m_iret hC hr hlk hw hS dX9_bearable_39 hF
  refine lv_if_eq (tgt := 31) hx hb dX9_bearable_10 (by decide) (fun h4 => ?_) (fun h4 => ?_)
  · have hF := it_t h4 hF
    refine lv_iconst (v := 1) hx hb dX9_bearable_31 (by decide) ?_
    exact hJ32 (1 : Int32) C2 _ _ _ hF hw hS (lv_sub hl [0, 1, 2] rfl)
  · have hF := it_f h4 hF
    refine lv_iload_n hx hb dX9_bearable_13 rfl (lv_at hl 2 rfl) ?_
    refine lv_i2l (v := (x1).toInt64) hx hb dX9_bearable_14 rfl ?_
    refine lv_ldc2 (v := 10) hx hb hC.2.2.2.1 (hC.2.2.2.2.1 _ kcX9_212) dX9_bearable_15 ?_
    refine lv_ldc2 (v := 80) hx hb hC.2.2.2.1 (hC.2.2.2.2.1 _ kcX9_56) dX9_bearable_18 ?_
    obtain ⟨r38, C39, hc40, hF⟩ := b2_t hF
    refine call_Si hC (c_X9_in l G n (by omega) hn2 ((x1).toInt64) (10 : Int64) (80 : Int64) _ _ _ hc40) wsX9_50 ⟨rfl, rfl, by decide, by decide⟩ hw hS hl.1 rfl (rest := [.ref (bb G + 244)]) rfl (Nat.le_of_ble_eq_true rfl) dX9_bearable_21 ⟨by decide, by decide⟩ (fun H locs hw hS _ => ?_)
    refine lv_if_eq (tgt := 31) hx hb dX9_bearable_24 (by decide) (fun h41 => ?_) (fun h41 => ?_)
    · have hF := it_t h41 hF
      refine lv_iconst (v := 1) hx hb dX9_bearable_31 (by decide) ?_
      exact hJ32 (1 : Int32) C39 _ _ _ hF hw hS (lv_sub hl [0, 1, 2] rfl)
    · have hF := it_f h41 hF
      refine lv_iconst (v := 0) hx hb dX9_bearable_27 (by decide) ?_
      refine lv_goto (tgt := 32) hx hb dX9_bearable_28 (by decide) ?_
      exact hJ32 (0 : Int32) C39 _ _ _ hF hw hS (lv_sub hl [0, 1, 2] rfl)
set_option maxHeartbeats 4000000 in
set_option maxRecDepth 100000 in
theorem c_X9_cheapestPurge (l : Launch) (G : GG) (n : Nat) (hn : 252 ≤ n) (hn2 : n ≤ 253) (x0 : Int32) (x1 : Int32) (C : Mem) (rR : Int32) (CR : Mem) (hF : F_X9_cheapestPurge x0 x1 C = some (rR, CR)) : Ct l yX9_cheapestPurge cX9_cheapestPurge 8 (some .int) (rmN 7 164) G n C [.ref (bb G + 244), .int x0, .int x1] (some (.int rR)) CR := by
  refine Ct.of (by decide) (Nat.le_of_ble_eq_true rfl) ?_
  intro p e s m below meth c ls hC hr hlk hw hl
  have hx := hC.1
  have hb := hC.2.1
  have hS : LW G s s.heap [] := va_S.rf
  have hl : lv_has ls 8 [(0, .ref (bb G + 244)), (1, .int x0), (2, .int x1)] := hl
  unfold F_X9_cheapestPurge at hF
  refine lv_aload_n hx hb dX9_cheapestPurge_0 rfl (lv_at hl 0 rfl) ?_
  refine lv_iload_n hx hb dX9_cheapestPurge_1 rfl (lv_at hl 1 rfl) ?_
  refine lv_iload_n hx hb dX9_cheapestPurge_2 rfl (lv_at hl 2 rfl) ?_
  obtain ⟨r1, C2, hc3, hF⟩ := b2_t hF
  refine call_Si hC (c_X9_areTicks l G n (by omega) hn2 x0 x1 _ _ _ hc3) wsX9_180 ⟨rfl, rfl, by decide, by decide⟩ hw hS hl.1 rfl (rest := [.ref (bb G + 244)]) rfl (Nat.le_of_ble_eq_true rfl) dX9_cheapestPurge_3 ⟨by decide, by decide⟩ (fun H locs hw hS _ => ?_)
  have hJ14 : ∀ (v5 : Int32) (H : Heap) (locs : List Loc) (ls : Array Slot), J_X9_cheapestPurge_14 x0 x1 C2 v5 = some (rR, CR) → Wd G n C2 H → LW G s H locs → lv_has ls 8 [(0, .ref (bb G + 244)), (1, .int x0), (2, .int x1)] → W p l e (rmN 7 164) s m ([.ref (bb G + 244), .int x0, .int x1] : List Value).toArray below meth c H locs 0 0 (MQ below (QR G n (some (.int rR)) CR) ([.ref (bb G + 244), .int x0, .int x1] : List Value).toArray s 0 0 (frA G)) (F0 m 14 ls [.int v5, .ref (bb G + 244)]) := by
    intro v5 H locs ls hF hw hS hl
    unfold J_X9_cheapestPurge_14 at hF
    obtain ⟨r6, C7, hc8, hF⟩ := b2_t hF
    refine call_Vi hC (c_X9_refused l G n (by omega) hn2 v5 _ _ _ hc8) wvX9_127 ⟨rfl, rfl, by decide, by decide⟩ hw hS (by omega) ca_model rfl hl.1 rfl (rest := []) rfl (Nat.le_of_ble_eq_true rfl) dX9_cheapestPurge_14 ⟨by decide, by decide⟩ (fun H locs hw hS _ => ?_)
    refine lv_if_eq (tgt := 22) hx hb dX9_cheapestPurge_17 (by decide) (fun h9 => ?_) (fun h9 => ?_)
    · have hF := it_t h9 hF
      refine lv_iconst (v := 0) hx hb dX9_cheapestPurge_22 (by decide) ?_
      refine lv_istore_n (lv' := [(3, .int (0 : Int32)), (0, .ref (bb G + 244)), (1, .int x0), (2, .int x1)]) hx hb dX9_cheapestPurge_23 rfl hl (by decide) rfl (fun ls hl => ?_)
      refine lv_iconst (v := 0) hx hb dX9_cheapestPurge_24 (by decide) ?_
      refine lv_istore (lv' := [(4, .int (0 : Int32)), (3, .int (0 : Int32)), (0, .ref (bb G + 244)), (1, .int x0), (2, .int x1)]) hx hb dX9_cheapestPurge_25 hl (by decide) rfl (fun ls hl => ?_)
      refine lv_iconst (v := 1) hx hb dX9_cheapestPurge_27 (by decide) ?_
      refine lv_istore (lv' := [(5, .int (1 : Int32)), (4, .int (0 : Int32)), (3, .int (0 : Int32)), (0, .ref (bb G + 244)), (1, .int x0), (2, .int x1)]) hx hb dX9_cheapestPurge_28 hl (by decide) rfl (fun ls hl => ?_)
      obtain ⟨o14, hit14, hG14⟩ := b1_t hF
      have hR14 : ∀ (v15 : Int32) (v16 : Int32) (v17 : Int32) (C18 : Mem) (H : Heap) (locs : List Loc) (ls : Array Slot), o14 = (v15, v16, v17, C18) → Wd G n C18 H → LW G s H locs → lv_has ls 8 [(3, .int v15)] → W p l e (rmN 7 164) s m ([.ref (bb G + 244), .int x0, .int x1] : List Value).toArray below meth c H locs 0 0 (MQ below (QR G n (some (.int rR)) CR) ([.ref (bb G + 244), .int x0, .int x1] : List Value).toArray s 0 0 (frA G)) (F0 m 127 ls []) := by
        intro v15 v16 v17 C18 H locs ls hE hw hS hl
        subst hE
        have hF := u4_t (hG14)
        refine lv_iload_n hx hb dX9_cheapestPurge_127 rfl (lv_at hl 0 rfl) ?_
        exact m_iret hC hr hlk hw hS dX9_cheapestPurge_128 hF
      refine iter_sound (P := fun x : Int32 × Int32 × Int32 × Mem => ∀ (H : Heap) (locs : List Loc) (ls : Array Slot), Wd G n x.2.2.2 H → LW G s H locs → lv_has ls 8 [(0, .ref (bb G + 244)), (1, .int x0), (2, .int x1), (3, .int x.1), (4, .int x.2.1), (5, .int x.2.2.1)] → W p l e (rmN 7 164) s m ([.ref (bb G + 244), .int x0, .int x1] : List Value).toArray below meth c H locs 0 0 (MQ below (QR G n (some (.int rR)) CR) ([.ref (bb G + 244), .int x0, .int x1] : List Value).toArray s 0 0 (frA G)) (F0 m 30 ls [])) (X := fun r => r = o14) ?_ fuel ((0 : Int32), (0 : Int32), (1 : Int32), C7) o14 hit14 rfl _ _ _ hw hS (lv_sub hl [3, 4, 5, 2, 1, 0] rfl)
      intro x oo14 hF hk14 hX14 H locs ls hw hS hl
      obtain ⟨v10, v11, v12, C13⟩ := x
      have hF : S_X9_cheapestPurge_30 x0 x1 v10 v11 v12 C13 = some oo14 := hF
      have hw : Wd G n C13 H := hw
      have hl : lv_has ls 8 [(0, .ref (bb G + 244)), (1, .int x0), (2, .int x1), (3, .int v10), (4, .int v11), (5, .int v12)] := hl
      unfold S_X9_cheapestPurge_30 at hF
      refine lv_iload hx hb dX9_cheapestPurge_30 (lv_at hl 5 rfl) ?_
      refine lv_iconst (v := 5) hx hb dX9_cheapestPurge_32 (by decide) ?_
      refine lv_icmp_gt (tgt := 127) hx hb dX9_cheapestPurge_33 (by decide) (fun h19 => ?_) (fun h19 => ?_)
      · have hF := it_t h19 hF
        exact hR14 _ _ _ _ _ _ _ (it_exit hF hX14).symm hw hS (lv_sub hl [3] rfl)
      · have hF := it_f h19 hF
        refine lv_aload_n hx hb dX9_cheapestPurge_36 rfl (lv_at hl 0 rfl) ?_
        refine gX9_23 hC hw (by omega)  dX9_cheapestPurge_37 ?_
        refine lv_iconst (v := 0) hx hb dX9_cheapestPurge_40 (by decide) ?_
        refine lv_aload_n hx hb dX9_cheapestPurge_41 rfl (lv_at hl 0 rfl) ?_
        refine gX9_26 hC hw (by omega)  dX9_cheapestPurge_42 ?_
        refine lv_iconst (v := 0) hx hb dX9_cheapestPurge_45 (by decide) ?_
        obtain ⟨r20, C21, hc22, hF⟩ := b2_t hF
        refine call_Sv hC (c_X9_copyPage l G n (by omega) hn2 33 (show 31 ≤ 33 ∧ 33 ≤ 36 by decide) (0 : Int32) 34 (show 31 ≤ 34 ∧ 34 ≤ 36 by decide) (0 : Int32) _ _ _ hc22) wsX9_156 ⟨rfl, rfl, by decide, by decide⟩ hw hS hl.1 rfl (rest := []) rfl (Nat.le_of_ble_eq_true rfl) dX9_cheapestPurge_46 ⟨by decide, by decide⟩ (fun H locs hw hS _ => ?_)
        refine lv_aload_n hx hb dX9_cheapestPurge_49 rfl (lv_at hl 0 rfl) ?_
        refine gX9_26 hC hw (by omega)  dX9_cheapestPurge_50 ?_
        refine lv_iconst (v := 2) hx hb dX9_cheapestPurge_53 (by decide) ?_
        refine lv_iload hx hb dX9_cheapestPurge_54 (lv_at hl 5 rfl) ?_
        obtain ⟨g23, hF⟩ := gi_t hF
        refine st_marr hC hw hS (by omega) hn2 (show 31 ≤ 34 ∧ 34 ≤ 36 by decide) g23 dX9_cheapestPurge_56 (fun H locs hw hS _ => ?_)
        obtain ⟨C24, eC24, hF⟩ := nm_t hF
        have hw := Wd.cast eC24 hw
        refine lv_aload_n hx hb dX9_cheapestPurge_57 rfl (lv_at hl 0 rfl) ?_
        refine lv_aload_n hx hb dX9_cheapestPurge_58 rfl (lv_at hl 0 rfl) ?_
        refine gX9_26 hC hw (by omega)  dX9_cheapestPurge_59 ?_
        refine lv_iload_n hx hb dX9_cheapestPurge_62 rfl (lv_at hl 1 rfl) ?_
        refine lv_iload_n hx hb dX9_cheapestPurge_63 rfl (lv_at hl 2 rfl) ?_
        obtain ⟨r25, C26, hc27, hF⟩ := b2_t hF
        refine call_Vv hC (c_X9_ticksOn l G n (by omega) hn2 34 (show 31 ≤ 34 ∧ 34 ≤ 36 by decide) x0 x1 _ _ _ hc27) wvX9_187 ⟨rfl, rfl, by decide, by decide⟩ hw hS (by omega) ca_model rfl hl.1 rfl (rest := []) rfl (Nat.le_of_ble_eq_true rfl) dX9_cheapestPurge_64 ⟨by decide, by decide⟩ (fun H locs hw hS _ => ?_)
        refine lv_aload_n hx hb dX9_cheapestPurge_67 rfl (lv_at hl 0 rfl) ?_
        refine lv_aload_n hx hb dX9_cheapestPurge_68 rfl (lv_at hl 0 rfl) ?_
        refine gX9_26 hC hw (by omega)  dX9_cheapestPurge_69 ?_
        obtain ⟨r28, C29, hc30, hF⟩ := b2_t hF
        refine call_Vi hC (c_X9_fuelOf l G n (by omega) hn2 34 (show 31 ≤ 34 ∧ 34 ≤ 36 by decide) _ _ _ hc30) wvX9_175 ⟨rfl, rfl, by decide, by decide⟩ hw hS (by omega) ca_model rfl hl.1 rfl (rest := []) rfl (Nat.le_of_ble_eq_true rfl) dX9_cheapestPurge_72 ⟨by decide, by decide⟩ (fun H locs hw hS _ => ?_)
        refine lv_istore (lv' := [(6, .int r28), (0, .ref (bb G + 244)), (1, .int x0), (2, .int x1), (3, .int v10), (4, .int v11), (5, .int v12)]) hx hb dX9_cheapestPurge_75 hl (by decide) rfl (fun ls hl => ?_)
        refine lv_iload_n hx hb dX9_cheapestPurge_77 rfl (lv_at hl 4 rfl) ?_
        have hJ93 : ∀ (v32 : Int32) (H : Heap) (locs : List Loc) (ls : Array Slot), J_X9_cheapestPurge_93 v10 v11 v12 r28 C29 v32 = some oo14 → Wd G n C29 H → LW G s H locs → lv_has ls 8 [(0, .ref (bb G + 244)), (1, .int x0), (2, .int x1), (3, .int v10), (4, .int v11), (5, .int v12), (6, .int r28)] → W p l e (rmN 7 164) s m ([.ref (bb G + 244), .int x0, .int x1] : List Value).toArray below meth c H locs 0 0 (MQ below (QR G n (some (.int rR)) CR) ([.ref (bb G + 244), .int x0, .int x1] : List Value).toArray s 0 0 (frA G)) (F0 m 93 ls [.int v32]) := by
          intro v32 H locs ls hF hw hS hl
          unfold J_X9_cheapestPurge_93 at hF
          refine lv_istore (lv' := [(7, .int v32), (0, .ref (bb G + 244)), (1, .int x0), (2, .int x1), (3, .int v10), (4, .int v11), (5, .int v12), (6, .int r28)]) hx hb dX9_cheapestPurge_93 hl (by decide) rfl (fun ls hl => ?_)
          refine lv_iload hx hb dX9_cheapestPurge_95 (lv_at hl 0 rfl) ?_
          refine lv_if_eq (tgt := 105) hx hb dX9_cheapestPurge_97 (by decide) (fun h33 => ?_) (fun h33 => ?_)
          · have hF := it_t h33 hF
            refine lv_iload_n hx hb dX9_cheapestPurge_105 rfl (lv_at hl 4 rfl) ?_
            refine lv_istore_n (lv' := [(3, .int v10), (7, .int v32), (0, .ref (bb G + 244)), (1, .int x0), (2, .int x1), (4, .int v11), (5, .int v12), (6, .int r28)]) hx hb dX9_cheapestPurge_106 rfl hl (by decide) rfl (fun ls hl => ?_)
            refine lv_iload hx hb dX9_cheapestPurge_107 (lv_at hl 1 rfl) ?_
            refine lv_if_eq (tgt := 117) hx hb dX9_cheapestPurge_109 (by decide) (fun h34 => ?_) (fun h34 => ?_)
            · have hF := it_t h34 hF
              refine lv_iload hx hb dX9_cheapestPurge_117 (lv_at hl 5 rfl) ?_
              refine lv_istore (lv' := [(4, .int v11), (3, .int v10), (7, .int v32), (0, .ref (bb G + 244)), (1, .int x0), (2, .int x1), (5, .int v12), (6, .int r28)]) hx hb dX9_cheapestPurge_119 hl (by decide) rfl (fun ls hl => ?_)
              obtain ⟨v35, ev35, hF⟩ := nm_t hF
              refine lv_iinc (v := v35) (lv' := [(5, .int v35), (4, .int v11), (3, .int v10), (7, .int v32), (0, .ref (bb G + 244)), (1, .int x0), (2, .int x1), (6, .int r28)]) hx hb dX9_cheapestPurge_121 hl (k := 6) rfl (by rw [ev35]; rfl) (by decide) rfl (fun ls hl => ?_)
              refine lv_goto (tgt := 30) hx hb dX9_cheapestPurge_124 (by decide) ?_
              exact it_back hF hk14 _ _ _ hw hS (lv_sub hl [4, 5, 6, 2, 1, 0] rfl)
            · have hF := it_f h34 hF
              refine lv_iload hx hb dX9_cheapestPurge_112 (lv_at hl 7 rfl) ?_
              refine lv_goto (tgt := 119) hx hb dX9_cheapestPurge_114 (by decide) ?_
              refine lv_istore (lv' := [(4, .int r28), (3, .int v10), (7, .int v32), (0, .ref (bb G + 244)), (1, .int x0), (2, .int x1), (5, .int v12), (6, .int r28)]) hx hb dX9_cheapestPurge_119 hl (by decide) rfl (fun ls hl => ?_)
              obtain ⟨v36, ev36, hF⟩ := nm_t hF
              refine lv_iinc (v := v36) (lv' := [(5, .int v36), (4, .int r28), (3, .int v10), (7, .int v32), (0, .ref (bb G + 244)), (1, .int x0), (2, .int x1), (6, .int r28)]) hx hb dX9_cheapestPurge_121 hl (k := 6) rfl (by rw [ev36]; rfl) (by decide) rfl (fun ls hl => ?_)
              refine lv_goto (tgt := 30) hx hb dX9_cheapestPurge_124 (by decide) ?_
              exact it_back hF hk14 _ _ _ hw hS (lv_sub hl [4, 5, 6, 2, 1, 0] rfl)
          · have hF := it_f h33 hF
            refine lv_iload hx hb dX9_cheapestPurge_100 (lv_at hl 6 rfl) ?_
            refine lv_goto (tgt := 106) hx hb dX9_cheapestPurge_102 (by decide) ?_
            refine lv_istore_n (lv' := [(3, .int v12), (7, .int v32), (0, .ref (bb G + 244)), (1, .int x0), (2, .int x1), (4, .int v11), (5, .int v12), (6, .int r28)]) hx hb dX9_cheapestPurge_106 rfl hl (by decide) rfl (fun ls hl => ?_)
            refine lv_iload hx hb dX9_cheapestPurge_107 (lv_at hl 1 rfl) ?_
            refine lv_if_eq (tgt := 117) hx hb dX9_cheapestPurge_109 (by decide) (fun h37 => ?_) (fun h37 => ?_)
            · have hF := it_t h37 hF
              refine lv_iload hx hb dX9_cheapestPurge_117 (lv_at hl 5 rfl) ?_
              refine lv_istore (lv' := [(4, .int v11), (3, .int v12), (7, .int v32), (0, .ref (bb G + 244)), (1, .int x0), (2, .int x1), (5, .int v12), (6, .int r28)]) hx hb dX9_cheapestPurge_119 hl (by decide) rfl (fun ls hl => ?_)
              obtain ⟨v38, ev38, hF⟩ := nm_t hF
              refine lv_iinc (v := v38) (lv' := [(5, .int v38), (4, .int v11), (3, .int v12), (7, .int v32), (0, .ref (bb G + 244)), (1, .int x0), (2, .int x1), (6, .int r28)]) hx hb dX9_cheapestPurge_121 hl (k := 6) rfl (by rw [ev38]; rfl) (by decide) rfl (fun ls hl => ?_)
              refine lv_goto (tgt := 30) hx hb dX9_cheapestPurge_124 (by decide) ?_
              exact it_back hF hk14 _ _ _ hw hS (lv_sub hl [4, 5, 6, 2, 1, 0] rfl)
            · have hF := it_f h37 hF
              refine lv_iload hx hb dX9_cheapestPurge_112 (lv_at hl 7 rfl) ?_
              refine lv_goto (tgt := 119) hx hb dX9_cheapestPurge_114 (by decide) ?_
              refine lv_istore (lv' := [(4, .int r28), (3, .int v12), (7, .int v32), (0, .ref (bb G + 244)), (1, .int x0), (2, .int x1), (5, .int v12), (6, .int r28)]) hx hb dX9_cheapestPurge_119 hl (by decide) rfl (fun ls hl => ?_)
              obtain ⟨v39, ev39, hF⟩ := nm_t hF
              refine lv_iinc (v := v39) (lv' := [(5, .int v39), (4, .int r28), (3, .int v12), (7, .int v32), (0, .ref (bb G + 244)), (1, .int x0), (2, .int x1), (6, .int r28)]) hx hb dX9_cheapestPurge_121 hl (k := 6) rfl (by rw [ev39]; rfl) (by decide) rfl (fun ls hl => ?_)
              refine lv_goto (tgt := 30) hx hb dX9_cheapestPurge_124 (by decide) ?_
              exact it_back hF hk14 _ _ _ hw hS (lv_sub hl [4, 5, 6, 2, 1, 0] rfl)
        refine lv_if_eq (tgt := 88) hx hb dX9_cheapestPurge_78 (by decide) (fun h31 => ?_) (fun h31 => ?_)
        · have hF := it_t h31 hF
          refine lv_iconst (v := 1) hx hb dX9_cheapestPurge_88 (by decide) ?_
          refine lv_goto (tgt := 93) hx hb dX9_cheapestPurge_89 (by decide) ?_
          exact hJ93 (1 : Int32) _ _ _ hF hw hS (lv_sub hl [1, 2, 3, 4, 5, 6, 0] rfl)
        · have hF := it_f h31 hF
          refine lv_iload hx hb dX9_cheapestPurge_81 (lv_at hl 0 rfl) ?_
          refine lv_iload hx hb dX9_cheapestPurge_83 (lv_at hl 5 rfl) ?_
          refine lv_icmp_ge (tgt := 92) hx hb dX9_cheapestPurge_85 (by decide) (fun h40 => ?_) (fun h40 => ?_)
          · have hF := it_t h40 hF
            refine lv_iconst (v := 0) hx hb dX9_cheapestPurge_92 (by decide) ?_
            exact hJ93 (0 : Int32) _ _ _ hF hw hS (lv_sub hl [1, 2, 3, 4, 5, 6, 0] rfl)
          · have hF := it_f h40 hF
            refine lv_iconst (v := 1) hx hb dX9_cheapestPurge_88 (by decide) ?_
            refine lv_goto (tgt := 93) hx hb dX9_cheapestPurge_89 (by decide) ?_
            exact hJ93 (1 : Int32) _ _ _ hF hw hS (lv_sub hl [1, 2, 3, 4, 5, 6, 0] rfl)
    · have hF := it_f h9 hF
      refine lv_iconst (v := 0) hx hb dX9_cheapestPurge_20 (by decide) ?_
      exact m_iret hC hr hlk hw hS dX9_cheapestPurge_21 hF
  refine lv_if_eq (tgt := 13) hx hb dX9_cheapestPurge_6 (by decide) (fun h4 => ?_) (fun h4 => ?_)
  · have hF := it_t h4 hF
    refine lv_iconst (v := 1) hx hb dX9_cheapestPurge_13 (by decide) ?_
    exact hJ14 (1 : Int32) _ _ _ hF hw hS (lv_sub hl [0, 1, 2] rfl)
  · have hF := it_f h4 hF
    refine lv_iconst (v := 0) hx hb dX9_cheapestPurge_9 (by decide) ?_
    refine lv_goto (tgt := 14) hx hb dX9_cheapestPurge_10 (by decide) ?_
    exact hJ14 (0 : Int32) _ _ _ hF hw hS (lv_sub hl [0, 1, 2] rfl)
set_option maxHeartbeats 4000000 in
set_option maxRecDepth 100000 in
theorem c_X9_does (l : Launch) (G : GG) (n : Nat) (hn : 252 ≤ n) (hn2 : n ≤ 253) (x0 : Int32) (x1 : Int32) (x2 : Int32) (C : Mem) (rR : Int32) (CR : Mem) (hF : F_X9_does x0 x1 x2 C = some (rR, CR)) : Ct l yX9_does cX9_does 5 (some .boolean) (rmN 7 164) G n C [.ref (bb G + 244), .int x0, .int x1, .int x2] (some (.int rR)) CR := by
  refine Ct.of (by decide) (Nat.le_of_ble_eq_true rfl) ?_
  intro p e s m below meth c ls hC hr hlk hw hl
  have hx := hC.1
  have hb := hC.2.1
  have hS : LW G s s.heap [] := va_S.rf
  have hl : lv_has ls 5 [(0, .ref (bb G + 244)), (1, .int x0), (2, .int x1), (3, .int x2)] := hl
  unfold F_X9_does at hF
  refine lv_aload_n hx hb dX9_does_0 rfl (lv_at hl 0 rfl) ?_
  refine lv_iload_n hx hb dX9_does_1 rfl (lv_at hl 2 rfl) ?_
  obtain ⟨r1, C2, hc3, hF⟩ := b2_t hF
  refine call_Vi hC (c_X9_isBoiler l G n (by omega) hn2 x1 _ _ _ hc3) wvX9_168 ⟨rfl, rfl, by decide, by decide⟩ hw hS (by omega) ca_model rfl hl.1 rfl (rest := []) rfl (Nat.le_of_ble_eq_true rfl) dX9_does_2 ⟨by decide, by decide⟩ (fun H locs hw hS _ => ?_)
  refine lv_istore (lv' := [(4, .int r1), (0, .ref (bb G + 244)), (1, .int x0), (2, .int x1), (3, .int x2)]) hx hb dX9_does_5 hl (by decide) rfl (fun ls hl => ?_)
  refine lv_iload_n hx hb dX9_does_7 rfl (lv_at hl 2 rfl) ?_
  by_cases h4 : x0 = (1 : Int32)
  · have hF := it_t h4 hF
    refine lv_tableIn (tgt := 60) (off := 52) hx hb dX9_does_8 (by rw [h4]; decide) (by rw [h4]; decide) (by rw [h4]; rfl) (by decide) ?_
    refine lv_iload_n hx hb dX9_does_60 rfl (lv_at hl 4 rfl) ?_
    refine lv_bipush (v := 99) hx hb dX9_does_61 (by decide) ?_
    refine lv_icmp_gt (tgt := 74) hx hb dX9_does_63 (by decide) (fun h13 => ?_) (fun h13 => ?_)
    · have hF := it_t h13 hF
      refine lv_iconst (v := 0) hx hb dX9_does_74 (by decide) ?_
      exact m_zret hC hr hlk hw hS dX9_does_75 (by decide) hF
    · have hF := it_f h13 hF
      refine lv_iload_n hx hb dX9_does_66 rfl (lv_at hl 4 rfl) ?_
      refine lv_iload_n hx hb dX9_does_67 rfl (lv_at hl 3 rfl) ?_
      obtain ⟨r14, C15, hc16, hF⟩ := b2_t hF
      refine call_Si hC (c_X9_areTicks l G n (by omega) hn2 x2 x1 _ _ _ hc16) wsX9_180 ⟨rfl, rfl, by decide, by decide⟩ hw hS hl.1 rfl (rest := []) rfl (Nat.le_of_ble_eq_true rfl) dX9_does_68 ⟨by decide, by decide⟩ (fun H locs hw hS _ => ?_)
      refine lv_if_ne (tgt := 76) hx hb dX9_does_71 (by decide) (fun h17 => ?_) (fun h17 => ?_)
      · have hF := it_f h17 hF
        refine lv_aload_n hx hb dX9_does_76 rfl (lv_at hl 1 rfl) ?_
        refine lv_aload_n hx hb dX9_does_77 rfl (lv_at hl 1 rfl) ?_
        refine gX9_26 hC hw (by omega)  dX9_does_78 ?_
        refine lv_iload_n hx hb dX9_does_81 rfl (lv_at hl 4 rfl) ?_
        refine lv_iload_n hx hb dX9_does_82 rfl (lv_at hl 3 rfl) ?_
        obtain ⟨r18, C19, hc20, hF⟩ := b2_t hF
        refine call_Vv hC (c_X9_ticksOn l G n (by omega) hn2 34 (show 31 ≤ 34 ∧ 34 ≤ 36 by decide) x2 x1 _ _ _ hc20) wvX9_187 ⟨rfl, rfl, by decide, by decide⟩ hw hS (by omega) ca_model rfl hl.1 rfl (rest := []) rfl (Nat.le_of_ble_eq_true rfl) dX9_does_83 ⟨by decide, by decide⟩ (fun H locs hw hS _ => ?_)
        refine lv_iconst (v := 1) hx hb dX9_does_86 (by decide) ?_
        exact m_zret hC hr hlk hw hS dX9_does_87 (by decide) hF
      · have hF := it_t h17 hF
        refine lv_iconst (v := 0) hx hb dX9_does_74 (by decide) ?_
        exact m_zret hC hr hlk hw hS dX9_does_75 (by decide) hF
  have hF := it_f h4 hF
  by_cases h5 : x0 = (2 : Int32)
  · have hF := it_t h5 hF
    refine lv_tableIn (tgt := 88) (off := 80) hx hb dX9_does_8 (by rw [h5]; decide) (by rw [h5]; decide) (by rw [h5]; rfl) (by decide) ?_
    refine lv_iload_n hx hb dX9_does_88 rfl (lv_at hl 3 rfl) ?_
    refine lv_if_ne (tgt := 104) hx hb dX9_does_89 (by decide) (fun h21 => ?_) (fun h21 => ?_)
    · have hF := it_f h21 hF
      refine lv_iconst (v := 0) hx hb dX9_does_104 (by decide) ?_
      exact m_zret hC hr hlk hw hS dX9_does_105 (by decide) hF
    · have hF := it_t h21 hF
      refine lv_iload_n hx hb dX9_does_92 rfl (lv_at hl 4 rfl) ?_
      refine lv_i2l (v := (x2).toInt64) hx hb dX9_does_93 rfl ?_
      refine lv_lconst (v := 1) hx hb dX9_does_94 (by decide) ?_
      refine lv_ldc2 (v := 20) hx hb hC.2.2.2.1 (hC.2.2.2.2.1 _ kcX9_191) dX9_does_95 ?_
      obtain ⟨r22, C23, hc24, hF⟩ := b2_t hF
      refine call_Si hC (c_X9_in l G n (by omega) hn2 ((x2).toInt64) (1 : Int64) (20 : Int64) _ _ _ hc24) wsX9_50 ⟨rfl, rfl, by decide, by decide⟩ hw hS hl.1 rfl (rest := []) rfl (Nat.le_of_ble_eq_true rfl) dX9_does_98 ⟨by decide, by decide⟩ (fun H locs hw hS _ => ?_)
      refine lv_if_ne (tgt := 106) hx hb dX9_does_101 (by decide) (fun h25 => ?_) (fun h25 => ?_)
      · have hF := it_f h25 hF
        refine lv_aload_n hx hb dX9_does_106 rfl (lv_at hl 1 rfl) ?_
        refine lv_aload_n hx hb dX9_does_107 rfl (lv_at hl 1 rfl) ?_
        refine gX9_26 hC hw (by omega)  dX9_does_108 ?_
        refine lv_iload_n hx hb dX9_does_111 rfl (lv_at hl 4 rfl) ?_
        obtain ⟨r26, C27, hc28, hF⟩ := b2_t hF
        refine call_Vi hC (c_X9_drawOn l G n (by omega) hn2 34 (show 31 ≤ 34 ∧ 34 ≤ 36 by decide) x2 _ _ _ hc28) wvX9_104 ⟨rfl, rfl, by decide, by decide⟩ hw hS (by omega) ca_model rfl hl.1 rfl (rest := []) rfl (Nat.le_of_ble_eq_true rfl) dX9_does_112 ⟨by decide, by decide⟩ (fun H locs hw hS _ => ?_)
        refine lv_pop hx hb dX9_does_115 rfl ?_
        refine lv_iconst (v := 1) hx hb dX9_does_116 (by decide) ?_
        exact m_zret hC hr hlk hw hS dX9_does_117 (by decide) hF
      · have hF := it_t h25 hF
        refine lv_iconst (v := 0) hx hb dX9_does_104 (by decide) ?_
        exact m_zret hC hr hlk hw hS dX9_does_105 (by decide) hF
  have hF := it_f h5 hF
  by_cases h6 : x0 = (3 : Int32)
  · have hF := it_t h6 hF
    refine lv_tableIn (tgt := 118) (off := 110) hx hb dX9_does_8 (by rw [h6]; decide) (by rw [h6]; decide) (by rw [h6]; rfl) (by decide) ?_
    refine lv_iload_n hx hb dX9_does_118 rfl (lv_at hl 4 rfl) ?_
    refine lv_bipush (v := 99) hx hb dX9_does_119 (by decide) ?_
    refine lv_icmp_gt (tgt := 132) hx hb dX9_does_121 (by decide) (fun h29 => ?_) (fun h29 => ?_)
    · have hF := it_t h29 hF
      refine lv_iconst (v := 0) hx hb dX9_does_132 (by decide) ?_
      exact m_zret hC hr hlk hw hS dX9_does_133 (by decide) hF
    · have hF := it_f h29 hF
      refine lv_iload_n hx hb dX9_does_124 rfl (lv_at hl 3 rfl) ?_
      refine lv_iload_n hx hb dX9_does_125 rfl (lv_at hl 4 rfl) ?_
      obtain ⟨r30, C31, hc32, hF⟩ := b2_t hF
      refine call_Si hC (c_X9_isSetting l G n (by omega) hn2 x1 x2 _ _ _ hc32) wsX9_193 ⟨rfl, rfl, by decide, by decide⟩ hw hS hl.1 rfl (rest := []) rfl (Nat.le_of_ble_eq_true rfl) dX9_does_126 ⟨by decide, by decide⟩ (fun H locs hw hS _ => ?_)
      refine lv_if_ne (tgt := 134) hx hb dX9_does_129 (by decide) (fun h33 => ?_) (fun h33 => ?_)
      · have hF := it_f h33 hF
        refine lv_aload_n hx hb dX9_does_134 rfl (lv_at hl 1 rfl) ?_
        refine gX9_26 hC hw (by omega)  dX9_does_135 ?_
        refine lv_iload_n hx hb dX9_does_138 rfl (lv_at hl 3 rfl) ?_
        refine lv_iload_n hx hb dX9_does_139 rfl (lv_at hl 4 rfl) ?_
        obtain ⟨g34, hF⟩ := gi_t hF
        refine st_marr hC hw hS (by omega) hn2 (show 31 ≤ 34 ∧ 34 ≤ 36 by decide) g34 dX9_does_140 (fun H locs hw hS _ => ?_)
        obtain ⟨C35, eC35, hF⟩ := nm_t hF
        have hw := Wd.cast eC35 hw
        refine lv_iconst (v := 1) hx hb dX9_does_141 (by decide) ?_
        exact m_zret hC hr hlk hw hS dX9_does_142 (by decide) hF
      · have hF := it_t h33 hF
        refine lv_iconst (v := 0) hx hb dX9_does_132 (by decide) ?_
        exact m_zret hC hr hlk hw hS dX9_does_133 (by decide) hF
  have hF := it_f h6 hF
  by_cases h7 : x0 = (4 : Int32)
  · have hF := it_t h7 hF
    refine lv_tableIn (tgt := 143) (off := 135) hx hb dX9_does_8 (by rw [h7]; decide) (by rw [h7]; decide) (by rw [h7]; rfl) (by decide) ?_
    refine lv_iload_n hx hb dX9_does_143 rfl (lv_at hl 3 rfl) ?_
    refine lv_iconst (v := 1) hx hb dX9_does_144 (by decide) ?_
    refine lv_icmp_gt (tgt := 153) hx hb dX9_does_145 (by decide) (fun h36 => ?_) (fun h36 => ?_)
    · have hF := it_t h36 hF
      refine lv_iconst (v := 0) hx hb dX9_does_153 (by decide) ?_
      exact m_zret hC hr hlk hw hS dX9_does_154 (by decide) hF
    · have hF := it_f h36 hF
      refine lv_iload_n hx hb dX9_does_148 rfl (lv_at hl 4 rfl) ?_
      refine lv_iconst (v := 1) hx hb dX9_does_149 (by decide) ?_
      refine lv_icmp_le (tgt := 155) hx hb dX9_does_150 (by decide) (fun h37 => ?_) (fun h37 => ?_)
      · have hF := it_t h37 hF
        refine lv_aload_n hx hb dX9_does_155 rfl (lv_at hl 1 rfl) ?_
        refine lv_aload_n hx hb dX9_does_156 rfl (lv_at hl 1 rfl) ?_
        refine gX9_26 hC hw (by omega)  dX9_does_157 ?_
        refine lv_iload_n hx hb dX9_does_160 rfl (lv_at hl 3 rfl) ?_
        refine lv_iload_n hx hb dX9_does_161 rfl (lv_at hl 4 rfl) ?_
        refine lv_iconst (v := 1) hx hb dX9_does_162 (by decide) ?_
        refine lv_icmp_ne (tgt := 170) hx hb dX9_does_163 (by decide) (fun h38 => ?_) (fun h38 => ?_)
        · have hF := it_f h38 hF
          refine lv_iconst (v := 0) hx hb dX9_does_170 (by decide) ?_
          obtain ⟨r39, C40, hc41, hF⟩ := b2_t hF
          refine call_Vi hC (c_X9_flueOn l G n (by omega) hn2 34 (show 31 ≤ 34 ∧ 34 ≤ 36 by decide) x1 (0 : Int32) _ _ _ hc41) wvX9_196 ⟨rfl, rfl, by decide, by decide⟩ hw hS (by omega) ca_model rfl hl.1 rfl (rest := []) rfl (Nat.le_of_ble_eq_true rfl) dX9_does_171 ⟨by decide, by decide⟩ (fun H locs hw hS _ => ?_)
          refine lv_pop hx hb dX9_does_174 rfl ?_
          refine lv_iconst (v := 1) hx hb dX9_does_175 (by decide) ?_
          exact m_zret hC hr hlk hw hS dX9_does_176 (by decide) hF
        · have hF := it_t h38 hF
          refine lv_iconst (v := 1) hx hb dX9_does_166 (by decide) ?_
          refine lv_goto (tgt := 171) hx hb dX9_does_167 (by decide) ?_
          obtain ⟨r42, C43, hc44, hF⟩ := b2_t hF
          refine call_Vi hC (c_X9_flueOn l G n (by omega) hn2 34 (show 31 ≤ 34 ∧ 34 ≤ 36 by decide) x1 (1 : Int32) _ _ _ hc44) wvX9_196 ⟨rfl, rfl, by decide, by decide⟩ hw hS (by omega) ca_model rfl hl.1 rfl (rest := []) rfl (Nat.le_of_ble_eq_true rfl) dX9_does_171 ⟨by decide, by decide⟩ (fun H locs hw hS _ => ?_)
          refine lv_pop hx hb dX9_does_174 rfl ?_
          refine lv_iconst (v := 1) hx hb dX9_does_175 (by decide) ?_
          exact m_zret hC hr hlk hw hS dX9_does_176 (by decide) hF
      · have hF := it_f h37 hF
        refine lv_iconst (v := 0) hx hb dX9_does_153 (by decide) ?_
        exact m_zret hC hr hlk hw hS dX9_does_154 (by decide) hF
  have hF := it_f h7 hF
  by_cases h8 : x0 = (5 : Int32)
  · have hF := it_t h8 hF
    refine lv_tableIn (tgt := 177) (off := 169) hx hb dX9_does_8 (by rw [h8]; decide) (by rw [h8]; decide) (by rw [h8]; rfl) (by decide) ?_
    refine lv_iload hx hb dX9_does_177 (lv_at hl 0 rfl) ?_
    refine lv_if_eq (tgt := 201) hx hb dX9_does_179 (by decide) (fun h45 => ?_) (fun h45 => ?_)
    · have hF := it_t h45 hF
      refine lv_iconst (v := 0) hx hb dX9_does_201 (by decide) ?_
      exact m_zret hC hr hlk hw hS dX9_does_202 (by decide) hF
    · have hF := it_f h45 hF
      refine lv_iload_n hx hb dX9_does_182 rfl (lv_at hl 4 rfl) ?_
      refine lv_if_ne (tgt := 201) hx hb dX9_does_183 (by decide) (fun h46 => ?_) (fun h46 => ?_)
      · have hF := it_f h46 hF
        refine lv_iconst (v := 0) hx hb dX9_does_201 (by decide) ?_
        exact m_zret hC hr hlk hw hS dX9_does_202 (by decide) hF
      · have hF := it_t h46 hF
        refine lv_aload_n hx hb dX9_does_186 rfl (lv_at hl 1 rfl) ?_
        refine gX9_26 hC hw (by omega)  dX9_does_187 ?_
        refine lv_iload_n hx hb dX9_does_190 rfl (lv_at hl 3 rfl) ?_
        obtain ⟨r47, C48, hc49, hF⟩ := b2_t hF
        refine call_Si hC (c_X9_at l G n (by omega) hn2 x1 _ _ _ hc49) wsX9_68 ⟨rfl, rfl, by decide, by decide⟩ hw hS hl.1 rfl (rest := [.ref (bb G + (34 + 214))]) rfl (Nat.le_of_ble_eq_true rfl) dX9_does_191 ⟨by decide, by decide⟩ (fun H locs hw hS _ => ?_)
        refine lv_iconst (v := 2) hx hb dX9_does_194 (by decide) ?_
        refine lv_iadd hx hb dX9_does_195 ?_
        obtain ⟨g50, hF⟩ := gi_t hF
        refine ld_marr hC hw (by omega) (show 31 ≤ 34 ∧ 34 ≤ 36 by decide) g50 dX9_does_196 ?_
        refine lv_iconst (v := 4) hx hb dX9_does_197 (by decide) ?_
        refine lv_icmp_ne (tgt := 203) hx hb dX9_does_198 (by decide) (fun h51 => ?_) (fun h51 => ?_)
        · have hF := it_f h51 hF
          refine lv_aload_n hx hb dX9_does_203 rfl (lv_at hl 1 rfl) ?_
          refine gX9_26 hC hw (by omega)  dX9_does_204 ?_
          refine lv_iload_n hx hb dX9_does_207 rfl (lv_at hl 3 rfl) ?_
          refine lv_iconst (v := 4) hx hb dX9_does_208 (by decide) ?_
          obtain ⟨r52, C53, hc54, hF⟩ := b2_t hF
          refine call_Sv hC (c_X9_put l G n (by omega) hn2 34 (show 31 ≤ 34 ∧ 34 ≤ 36 by decide) x1 (4 : Int32) _ _ _ hc54) wsX9_202 ⟨rfl, rfl, by decide, by decide⟩ hw hS hl.1 rfl (rest := []) rfl (Nat.le_of_ble_eq_true rfl) dX9_does_209 ⟨by decide, by decide⟩ (fun H locs hw hS _ => ?_)
          refine lv_iconst (v := 1) hx hb dX9_does_212 (by decide) ?_
          exact m_zret hC hr hlk hw hS dX9_does_213 (by decide) hF
        · have hF := it_t h51 hF
          refine lv_iconst (v := 0) hx hb dX9_does_201 (by decide) ?_
          exact m_zret hC hr hlk hw hS dX9_does_202 (by decide) hF
  have hF := it_f h8 hF
  by_cases h9 : x0 = (6 : Int32)
  · have hF := it_t h9 hF
    refine lv_tableIn (tgt := 214) (off := 206) hx hb dX9_does_8 (by rw [h9]; decide) (by rw [h9]; decide) (by rw [h9]; rfl) (by decide) ?_
    refine lv_iload hx hb dX9_does_214 (lv_at hl 0 rfl) ?_
    refine lv_if_eq (tgt := 238) hx hb dX9_does_216 (by decide) (fun h55 => ?_) (fun h55 => ?_)
    · have hF := it_t h55 hF
      refine lv_iconst (v := 0) hx hb dX9_does_238 (by decide) ?_
      exact m_zret hC hr hlk hw hS dX9_does_239 (by decide) hF
    · have hF := it_f h55 hF
      refine lv_iload_n hx hb dX9_does_219 rfl (lv_at hl 4 rfl) ?_
      refine lv_if_ne (tgt := 238) hx hb dX9_does_220 (by decide) (fun h56 => ?_) (fun h56 => ?_)
      · have hF := it_f h56 hF
        refine lv_iconst (v := 0) hx hb dX9_does_238 (by decide) ?_
        exact m_zret hC hr hlk hw hS dX9_does_239 (by decide) hF
      · have hF := it_t h56 hF
        refine lv_aload_n hx hb dX9_does_223 rfl (lv_at hl 1 rfl) ?_
        refine gX9_26 hC hw (by omega)  dX9_does_224 ?_
        refine lv_iload_n hx hb dX9_does_227 rfl (lv_at hl 3 rfl) ?_
        obtain ⟨r57, C58, hc59, hF⟩ := b2_t hF
        refine call_Si hC (c_X9_at l G n (by omega) hn2 x1 _ _ _ hc59) wsX9_68 ⟨rfl, rfl, by decide, by decide⟩ hw hS hl.1 rfl (rest := [.ref (bb G + (34 + 214))]) rfl (Nat.le_of_ble_eq_true rfl) dX9_does_228 ⟨by decide, by decide⟩ (fun H locs hw hS _ => ?_)
        refine lv_iconst (v := 2) hx hb dX9_does_231 (by decide) ?_
        refine lv_iadd hx hb dX9_does_232 ?_
        obtain ⟨g60, hF⟩ := gi_t hF
        refine ld_marr hC hw (by omega) (show 31 ≤ 34 ∧ 34 ≤ 36 by decide) g60 dX9_does_233 ?_
        refine lv_iconst (v := 4) hx hb dX9_does_234 (by decide) ?_
        refine lv_icmp_eq (tgt := 240) hx hb dX9_does_235 (by decide) (fun h61 => ?_) (fun h61 => ?_)
        · have hF := it_t h61 hF
          refine lv_aload_n hx hb dX9_does_240 rfl (lv_at hl 1 rfl) ?_
          refine gX9_26 hC hw (by omega)  dX9_does_241 ?_
          refine lv_iload_n hx hb dX9_does_244 rfl (lv_at hl 3 rfl) ?_
          refine lv_iconst (v := 0) hx hb dX9_does_245 (by decide) ?_
          obtain ⟨r62, C63, hc64, hF⟩ := b2_t hF
          refine call_Sv hC (c_X9_put l G n (by omega) hn2 34 (show 31 ≤ 34 ∧ 34 ≤ 36 by decide) x1 (0 : Int32) _ _ _ hc64) wsX9_202 ⟨rfl, rfl, by decide, by decide⟩ hw hS hl.1 rfl (rest := []) rfl (Nat.le_of_ble_eq_true rfl) dX9_does_246 ⟨by decide, by decide⟩ (fun H locs hw hS _ => ?_)
          refine lv_iconst (v := 1) hx hb dX9_does_249 (by decide) ?_
          exact m_zret hC hr hlk hw hS dX9_does_250 (by decide) hF
        · have hF := it_f h61 hF
          refine lv_iconst (v := 0) hx hb dX9_does_238 (by decide) ?_
          exact m_zret hC hr hlk hw hS dX9_does_239 (by decide) hF
  have hF := it_f h9 hF
  by_cases h10 : x0 = (7 : Int32)
  · have hF := it_t h10 hF
    refine lv_tableIn (tgt := 251) (off := 243) hx hb dX9_does_8 (by rw [h10]; decide) (by rw [h10]; decide) (by rw [h10]; rfl) (by decide) ?_
    refine lv_iload_n hx hb dX9_does_251 rfl (lv_at hl 3 rfl) ?_
    refine lv_if_ne (tgt := 277) hx hb dX9_does_252 (by decide) (fun h65 => ?_) (fun h65 => ?_)
    · have hF := it_f h65 hF
      refine lv_iconst (v := 0) hx hb dX9_does_277 (by decide) ?_
      exact m_zret hC hr hlk hw hS dX9_does_278 (by decide) hF
    · have hF := it_t h65 hF
      refine lv_iload_n hx hb dX9_does_255 rfl (lv_at hl 4 rfl) ?_
      refine lv_bipush (v := 100) hx hb dX9_does_256 (by decide) ?_
      refine lv_icmp_ge (tgt := 277) hx hb dX9_does_258 (by decide) (fun h66 => ?_) (fun h66 => ?_)
      · have hF := it_t h66 hF
        refine lv_iconst (v := 0) hx hb dX9_does_277 (by decide) ?_
        exact m_zret hC hr hlk hw hS dX9_does_278 (by decide) hF
      · have hF := it_f h66 hF
        refine lv_aload_n hx hb dX9_does_261 rfl (lv_at hl 1 rfl) ?_
        refine lv_aload_n hx hb dX9_does_262 rfl (lv_at hl 1 rfl) ?_
        refine gX9_26 hC hw (by omega)  dX9_does_263 ?_
        obtain ⟨r67, C68, hc69, hF⟩ := b2_t hF
        refine call_Vi hC (c_X9_meanOf l G n (by omega) hn2 34 (show 31 ≤ 34 ∧ 34 ≤ 36 by decide) _ _ _ hc69) wvX9_87 ⟨rfl, rfl, by decide, by decide⟩ hw hS (by omega) ca_model rfl hl.1 rfl (rest := []) rfl (Nat.le_of_ble_eq_true rfl) dX9_does_266 ⟨by decide, by decide⟩ (fun H locs hw hS _ => ?_)
        refine lv_iload_n hx hb dX9_does_269 rfl (lv_at hl 4 rfl) ?_
        refine lv_icmp_lt (tgt := 277) hx hb dX9_does_270 (by decide) (fun h70 => ?_) (fun h70 => ?_)
        · have hF := it_t h70 hF
          refine lv_iconst (v := 0) hx hb dX9_does_277 (by decide) ?_
          exact m_zret hC hr hlk hw hS dX9_does_278 (by decide) hF
        · have hF := it_f h70 hF
          refine lv_iconst (v := 1) hx hb dX9_does_273 (by decide) ?_
          refine lv_goto (tgt := 278) hx hb dX9_does_274 (by decide) ?_
          exact m_zret hC hr hlk hw hS dX9_does_278 (by decide) hF
  have hF := it_f h10 hF
  by_cases h11 : x0 = (8 : Int32)
  · have hF := it_t h11 hF
    refine lv_tableIn (tgt := 279) (off := 271) hx hb dX9_does_8 (by rw [h11]; decide) (by rw [h11]; decide) (by rw [h11]; rfl) (by decide) ?_
    refine lv_iload hx hb dX9_does_279 (lv_at hl 0 rfl) ?_
    refine lv_if_eq (tgt := 309) hx hb dX9_does_281 (by decide) (fun h71 => ?_) (fun h71 => ?_)
    · have hF := it_t h71 hF
      refine lv_iconst (v := 0) hx hb dX9_does_309 (by decide) ?_
      exact m_zret hC hr hlk hw hS dX9_does_310 (by decide) hF
    · have hF := it_f h71 hF
      refine lv_iload_n hx hb dX9_does_284 rfl (lv_at hl 4 rfl) ?_
      refine lv_bipush (v := 10) hx hb dX9_does_285 (by decide) ?_
      refine lv_icmp_ge (tgt := 309) hx hb dX9_does_287 (by decide) (fun h72 => ?_) (fun h72 => ?_)
      · have hF := it_t h72 hF
        refine lv_iconst (v := 0) hx hb dX9_does_309 (by decide) ?_
        exact m_zret hC hr hlk hw hS dX9_does_310 (by decide) hF
      · have hF := it_f h72 hF
        refine lv_aload_n hx hb dX9_does_290 rfl (lv_at hl 1 rfl) ?_
        refine gX9_26 hC hw (by omega)  dX9_does_291 ?_
        refine lv_iload_n hx hb dX9_does_294 rfl (lv_at hl 3 rfl) ?_
        obtain ⟨r73, C74, hc75, hF⟩ := b2_t hF
        refine call_Si hC (c_X9_at l G n (by omega) hn2 x1 _ _ _ hc75) wsX9_68 ⟨rfl, rfl, by decide, by decide⟩ hw hS hl.1 rfl (rest := [.ref (bb G + (34 + 214))]) rfl (Nat.le_of_ble_eq_true rfl) dX9_does_295 ⟨by decide, by decide⟩ (fun H locs hw hS _ => ?_)
        refine lv_iconst (v := 2) hx hb dX9_does_298 (by decide) ?_
        refine lv_iadd hx hb dX9_does_299 ?_
        obtain ⟨g76, hF⟩ := gi_t hF
        refine ld_marr hC hw (by omega) (show 31 ≤ 34 ∧ 34 ≤ 36 by decide) g76 dX9_does_300 ?_
        refine lv_iload_n hx hb dX9_does_301 rfl (lv_at hl 4 rfl) ?_
        refine lv_icmp_ne (tgt := 309) hx hb dX9_does_302 (by decide) (fun h77 => ?_) (fun h77 => ?_)
        · have hF := it_f h77 hF
          refine lv_iconst (v := 0) hx hb dX9_does_309 (by decide) ?_
          exact m_zret hC hr hlk hw hS dX9_does_310 (by decide) hF
        · have hF := it_t h77 hF
          refine lv_iconst (v := 1) hx hb dX9_does_305 (by decide) ?_
          refine lv_goto (tgt := 310) hx hb dX9_does_306 (by decide) ?_
          exact m_zret hC hr hlk hw hS dX9_does_310 (by decide) hF
  have hF := it_f h11 hF
  by_cases h12 : x0 = (9 : Int32)
  · have hF := it_t h12 hF
    refine lv_tableIn (tgt := 311) (off := 303) hx hb dX9_does_8 (by rw [h12]; decide) (by rw [h12]; decide) (by rw [h12]; rfl) (by decide) ?_
    refine lv_iload_n hx hb dX9_does_311 rfl (lv_at hl 3 rfl) ?_
    refine lv_if_ne (tgt := 336) hx hb dX9_does_312 (by decide) (fun h78 => ?_) (fun h78 => ?_)
    · have hF := it_f h78 hF
      refine lv_iconst (v := 0) hx hb dX9_does_336 (by decide) ?_
      exact m_zret hC hr hlk hw hS dX9_does_337 (by decide) hF
    · have hF := it_t h78 hF
      refine lv_iload_n hx hb dX9_does_315 rfl (lv_at hl 4 rfl) ?_
      refine lv_bipush (v := 10) hx hb dX9_does_316 (by decide) ?_
      refine lv_icmp_ge (tgt := 336) hx hb dX9_does_318 (by decide) (fun h79 => ?_) (fun h79 => ?_)
      · have hF := it_t h79 hF
        refine lv_iconst (v := 0) hx hb dX9_does_336 (by decide) ?_
        exact m_zret hC hr hlk hw hS dX9_does_337 (by decide) hF
      · have hF := it_f h79 hF
        refine lv_aload_n hx hb dX9_does_321 rfl (lv_at hl 1 rfl) ?_
        refine gX9_26 hC hw (by omega)  dX9_does_322 ?_
        refine lv_bipush (v := 11) hx hb dX9_does_325 (by decide) ?_
        obtain ⟨g80, hF⟩ := gi_t hF
        refine ld_marr hC hw (by omega) (show 31 ≤ 34 ∧ 34 ≤ 36 by decide) g80 dX9_does_327 ?_
        refine lv_iload_n hx hb dX9_does_328 rfl (lv_at hl 4 rfl) ?_
        refine lv_icmp_ne (tgt := 336) hx hb dX9_does_329 (by decide) (fun h81 => ?_) (fun h81 => ?_)
        · have hF := it_f h81 hF
          refine lv_iconst (v := 0) hx hb dX9_does_336 (by decide) ?_
          exact m_zret hC hr hlk hw hS dX9_does_337 (by decide) hF
        · have hF := it_t h81 hF
          refine lv_iconst (v := 1) hx hb dX9_does_332 (by decide) ?_
          refine lv_goto (tgt := 337) hx hb dX9_does_333 (by decide) ?_
          exact m_zret hC hr hlk hw hS dX9_does_337 (by decide) hF
  have hF := it_f h12 hF
  refine lv_tableOut (tgt := 338) hx hb dX9_does_8 (sw_out (fun k ka kb kc => by (have kd : k = 1 ∨ k = 2 ∨ k = 3 ∨ k = 4 ∨ k = 5 ∨ k = 6 ∨ k = 7 ∨ k = 8 ∨ k = 9 := by omega); exact kd.elim (fun kd => by subst kd; exact lv_neT h4 (by decide) kc) (fun kd => kd.elim (fun kd => by subst kd; exact lv_neT h5 (by decide) kc) (fun kd => kd.elim (fun kd => by subst kd; exact lv_neT h6 (by decide) kc) (fun kd => kd.elim (fun kd => by subst kd; exact lv_neT h7 (by decide) kc) (fun kd => kd.elim (fun kd => by subst kd; exact lv_neT h8 (by decide) kc) (fun kd => kd.elim (fun kd => by subst kd; exact lv_neT h9 (by decide) kc) (fun kd => kd.elim (fun kd => by subst kd; exact lv_neT h10 (by decide) kc) (fun kd => kd.elim (fun kd => by subst kd; exact lv_neT h11 (by decide) kc) (fun kd => (by subst kd; exact lv_neT h12 (by decide) kc))))))))))) (by decide) ?_
  refine lv_iconst (v := 0) hx hb dX9_does_338 (by decide) ?_
  exact m_zret hC hr hlk hw hS dX9_does_339 (by decide) hF
set_option maxHeartbeats 4000000 in
set_option maxRecDepth 100000 in
theorem c_X9_runScript (l : Launch) (G : GG) (n : Nat) (hn : 252 ≤ n) (hn2 : n ≤ 253) (x0 : Int32) (x1 : Int64) (C : Mem) (rR : Int32) (CR : Mem) (hF : F_X9_runScript x0 x1 C = some (rR, CR)) : Ct l yX9_runScript cX9_runScript 10 (some .int) (rmN 8 188) G n C [.ref (bb G + 244), .int x0, .long x1] (some (.int rR)) CR := by
  refine Ct.of (by decide) (Nat.le_of_ble_eq_true rfl) ?_
  intro p e s m below meth c ls hC hr hlk hw hl
  have hx := hC.1
  have hb := hC.2.1
  have hS : LW G s s.heap [] := va_S.rf
  have hl : lv_has ls 10 [(0, .ref (bb G + 244)), (1, .int x0), (2, .long x1)] := hl
  unfold F_X9_runScript at hF
  refine lv_iload_n hx hb dX9_runScript_0 rfl (lv_at hl 1 rfl) ?_
  refine lv_iconst (v := 1) hx hb dX9_runScript_1 (by decide) ?_
  have hJ25 : ∀ (v2 : Int64) (H : Heap) (locs : List Loc) (ls : Array Slot), J_X9_runScript_25 x0 x1 C v2 = some (rR, CR) → Wd G n C H → LW G s H locs → lv_has ls 10 [(0, .ref (bb G + 244)), (1, .int x0), (2, .long x1)] → W p l e (rmN 8 188) s m ([.ref (bb G + 244), .int x0, .long x1] : List Value).toArray below meth c H locs 0 0 (MQ below (QR G n (some (.int rR)) CR) ([.ref (bb G + 244), .int x0, .long x1] : List Value).toArray s 0 0 (frA G)) (F0 m 25 ls [.long v2]) := by
    intro v2 H locs ls hF hw hS hl
    unfold J_X9_runScript_25 at hF
    refine lv_lstore (lv' := [(4, .long v2), (0, .ref (bb G + 244)), (1, .int x0), (2, .long x1)]) hx hb dX9_runScript_25 hl (by decide) rfl (fun ls hl => ?_)
    refine lv_aload_n hx hb dX9_runScript_27 rfl (lv_at hl 1 rfl) ?_
    refine lv_iload_n hx hb dX9_runScript_28 rfl (lv_at hl 2 rfl) ?_
    refine lv_i2l (v := (x0).toInt64) hx hb dX9_runScript_29 rfl ?_
    refine lv_lconst (v := 1) hx hb dX9_runScript_30 (by decide) ?_
    refine lv_ldc2 (v := 3) hx hb hC.2.2.2.1 (hC.2.2.2.2.1 _ kcX9_173) dX9_runScript_31 ?_
    obtain ⟨r3, C4, hc5, hF⟩ := b2_t hF
    refine call_Si hC (c_X9_in l G n (by omega) hn2 ((x0).toInt64) (1 : Int64) (3 : Int64) _ _ _ hc5) wsX9_50 ⟨rfl, rfl, by decide, by decide⟩ hw hS hl.1 rfl (rest := [.ref (bb G + 244)]) rfl (Nat.le_of_ble_eq_true rfl) dX9_runScript_34 ⟨by decide, by decide⟩ (fun H locs hw hS _ => ?_)
    have hJ57 : ∀ (v7 : Int32) (C8 : Mem) (H : Heap) (locs : List Loc) (ls : Array Slot), J_X9_runScript_57 x0 x1 v2 v7 C8 = some (rR, CR) → Wd G n C8 H → LW G s H locs → lv_has ls 10 [(0, .ref (bb G + 244)), (1, .int x0), (2, .long x1), (4, .long v2)] → W p l e (rmN 8 188) s m ([.ref (bb G + 244), .int x0, .long x1] : List Value).toArray below meth c H locs 0 0 (MQ below (QR G n (some (.int rR)) CR) ([.ref (bb G + 244), .int x0, .long x1] : List Value).toArray s 0 0 (frA G)) (F0 m 57 ls [.int v7, .ref (bb G + 244)]) := by
      intro v7 C8 H locs ls hF hw hS hl
      unfold J_X9_runScript_57 at hF
      obtain ⟨r9, C10, hc11, hF⟩ := b2_t hF
      refine call_Vi hC (c_X9_refused l G n (by omega) hn2 v7 _ _ _ hc11) wvX9_127 ⟨rfl, rfl, by decide, by decide⟩ hw hS (by omega) ca_model rfl hl.1 rfl (rest := []) rfl (Nat.le_of_ble_eq_true rfl) dX9_runScript_57 ⟨by decide, by decide⟩ (fun H locs hw hS _ => ?_)
      refine lv_if_eq (tgt := 65) hx hb dX9_runScript_60 (by decide) (fun h12 => ?_) (fun h12 => ?_)
      · have hF := it_t h12 hF
        refine lv_aload_n hx hb dX9_runScript_65 rfl (lv_at hl 0 rfl) ?_
        refine gX9_23 hC hw (by omega)  dX9_runScript_66 ?_
        refine lv_iconst (v := 0) hx hb dX9_runScript_69 (by decide) ?_
        refine lv_aload_n hx hb dX9_runScript_70 rfl (lv_at hl 0 rfl) ?_
        refine gX9_26 hC hw (by omega)  dX9_runScript_71 ?_
        refine lv_iconst (v := 0) hx hb dX9_runScript_74 (by decide) ?_
        obtain ⟨r13, C14, hc15, hF⟩ := b2_t hF
        refine call_Sv hC (c_X9_copyPage l G n (by omega) hn2 33 (show 31 ≤ 33 ∧ 33 ≤ 36 by decide) (0 : Int32) 34 (show 31 ≤ 34 ∧ 34 ≤ 36 by decide) (0 : Int32) _ _ _ hc15) wsX9_156 ⟨rfl, rfl, by decide, by decide⟩ hw hS hl.1 rfl (rest := []) rfl (Nat.le_of_ble_eq_true rfl) dX9_runScript_75 ⟨by decide, by decide⟩ (fun H locs hw hS _ => ?_)
        refine lv_lload_n hx hb dX9_runScript_78 rfl (lv_at hl 2 rfl) ?_
        refine lv_lstore (lv' := [(6, .long x1), (0, .ref (bb G + 244)), (1, .int x0), (2, .long x1), (4, .long v2)]) hx hb dX9_runScript_79 hl (by decide) rfl (fun ls hl => ?_)
        refine lv_iconst (v := 0) hx hb dX9_runScript_81 (by decide) ?_
        refine lv_istore (lv' := [(8, .int (0 : Int32)), (6, .long x1), (0, .ref (bb G + 244)), (1, .int x0), (2, .long x1), (4, .long v2)]) hx hb dX9_runScript_82 hl (by decide) rfl (fun ls hl => ?_)
        obtain ⟨o20, hit20, hG20⟩ := b1_t hF
        have hR20 : ∀ (v21 : Int64) (v22 : Int64) (v23 : Int32) (C24 : Mem) (H : Heap) (locs : List Loc) (ls : Array Slot), o20 = Sum.inl (v21, v22, v23, C24) → Wd G n C24 H → LW G s H locs → lv_has ls 10 [] → W p l e (rmN 8 188) s m ([.ref (bb G + 244), .int x0, .long x1] : List Value).toArray below meth c H locs 0 0 (MQ below (QR G n (some (.int rR)) CR) ([.ref (bb G + 244), .int x0, .long x1] : List Value).toArray s 0 0 (frA G)) (F0 m 150 ls []) := by
          intro v21 v22 v23 C24 H locs ls hE hw hS hl
          subst hE
          have hF := u4_t (se_l rfl hG20)
          refine lv_bipush (v := -9) hx hb dX9_runScript_150 (by decide) ?_
          exact m_iret hC hr hlk hw hS dX9_runScript_152 hF
        refine iter_sound (P := fun x : Int64 × Int64 × Int32 × Mem => ∀ (H : Heap) (locs : List Loc) (ls : Array Slot), Wd G n x.2.2.2 H → LW G s H locs → lv_has ls 10 [(0, .ref (bb G + 244)), (1, .int x0), (4, .long x.1), (6, .long x.2.1), (8, .int x.2.2.1)] → W p l e (rmN 8 188) s m ([.ref (bb G + 244), .int x0, .long x1] : List Value).toArray below meth c H locs 0 0 (MQ below (QR G n (some (.int rR)) CR) ([.ref (bb G + 244), .int x0, .long x1] : List Value).toArray s 0 0 (frA G)) (F0 m 84 ls [])) (X := fun r => r = o20) ?_ fuel (v2, x1, (0 : Int32), C14) o20 hit20 rfl _ _ _ hw hS (lv_sub hl [2, 3, 5, 1, 0] rfl)
        intro x oo20 hF hk20 hX20 H locs ls hw hS hl
        obtain ⟨v16, v17, v18, C19⟩ := x
        have hF : S_X9_runScript_84 x0 v16 v17 v18 C19 = some oo20 := hF
        have hw : Wd G n C19 H := hw
        have hl : lv_has ls 10 [(0, .ref (bb G + 244)), (1, .int x0), (4, .long v16), (6, .long v17), (8, .int v18)] := hl
        unfold S_X9_runScript_84 at hF
        refine lv_iload hx hb dX9_runScript_84 (lv_at hl 4 rfl) ?_
        refine lv_iload_n hx hb dX9_runScript_86 rfl (lv_at hl 1 rfl) ?_
        refine lv_icmp_ge (tgt := 150) hx hb dX9_runScript_87 (by decide) (fun h25 => ?_) (fun h25 => ?_)
        · have hF := it_t h25 hF
          exact hR20 _ _ _ _ _ _ _ (it_exit hF hX20).symm hw hS (lv_sub hl [] rfl)
        · have hF := it_f h25 hF
          refine lv_lload hx hb dX9_runScript_90 (lv_at hl 2 rfl) ?_
          refine lv_ldc2 (v := 100000) hx hb hC.2.2.2.1 (hC.2.2.2.2.1 _ kcX9_214) dX9_runScript_92 ?_
          refine lv_ldiv hx hb dX9_runScript_95 (by decide) ?_
          obtain ⟨v26, ev26, hF⟩ := nm_t hF
          refine lv_nml ev26 ?_
          refine lv_lstore (lv' := [(4, .long v26), (0, .ref (bb G + 244)), (1, .int x0), (6, .long v17), (8, .int v18)]) hx hb dX9_runScript_96 hl (by decide) rfl (fun ls hl => ?_)
          refine lv_lload hx hb dX9_runScript_98 (lv_at hl 3 rfl) ?_
          refine lv_lload hx hb dX9_runScript_100 (lv_at hl 0 rfl) ?_
          obtain ⟨g27, hF⟩ := gzL_t hF
          refine lv_ldiv hx hb dX9_runScript_102 g27 ?_
          refine lv_l2i (v := (((v17 / v26)).toInt32)) hx hb dX9_runScript_103 rfl ?_
          obtain ⟨v28, ev28, hF⟩ := nm_t hF
          refine lv_nmi ev28 ?_
          refine lv_istore (lv' := [(9, .int v28), (4, .long v26), (0, .ref (bb G + 244)), (1, .int x0), (6, .long v17), (8, .int v18)]) hx hb dX9_runScript_104 hl (by decide) rfl (fun ls hl => ?_)
          refine lv_lload hx hb dX9_runScript_106 (lv_at hl 4 rfl) ?_
          refine lv_lload hx hb dX9_runScript_108 (lv_at hl 1 rfl) ?_
          obtain ⟨g29, hF⟩ := gzL_t hF
          refine lv_lrem hx hb dX9_runScript_110 g29 ?_
          obtain ⟨v30, ev30, hF⟩ := nm_t hF
          refine lv_nml ev30 ?_
          refine lv_lstore (lv' := [(6, .long v30), (9, .int v28), (4, .long v26), (0, .ref (bb G + 244)), (1, .int x0), (8, .int v18)]) hx hb dX9_runScript_111 hl (by decide) rfl (fun ls hl => ?_)
          refine lv_aload_n hx hb dX9_runScript_113 rfl (lv_at hl 3 rfl) ?_
          refine lv_iload hx hb dX9_runScript_114 (lv_at hl 1 rfl) ?_
          refine lv_sipush (v := 10000) hx hb dX9_runScript_116 (by decide) ?_
          refine lv_idiv hx hb dX9_runScript_119 (by decide) ?_
          refine lv_iload hx hb dX9_runScript_120 (lv_at hl 1 rfl) ?_
          refine lv_sipush (v := 1000) hx hb dX9_runScript_122 (by decide) ?_
          refine lv_idiv hx hb dX9_runScript_125 (by decide) ?_
          refine lv_bipush (v := 10) hx hb dX9_runScript_126 (by decide) ?_
          refine lv_irem hx hb dX9_runScript_128 (by decide) ?_
          refine lv_iload hx hb dX9_runScript_129 (lv_at hl 1 rfl) ?_
          refine lv_sipush (v := 1000) hx hb dX9_runScript_131 (by decide) ?_
          refine lv_irem hx hb dX9_runScript_134 (by decide) ?_
          obtain ⟨r31, C32, hc33, hF⟩ := b2_t hF
          refine call_Vi hC (c_X9_does l G n (by omega) hn2 (v28 / (10000 : Int32)) ((v28 / (1000 : Int32)) - (v28 / (1000 : Int32)) / (10 : Int32) * (10 : Int32)) (v28 - v28 / (1000 : Int32) * (1000 : Int32)) _ _ _ hc33) wvX9_220 ⟨rfl, rfl, by decide, by decide⟩ hw hS (by omega) ca_model rfl hl.1 rfl (rest := []) rfl (Nat.le_of_ble_eq_true rfl) dX9_runScript_135 ⟨by decide, by decide⟩ (fun H locs hw hS _ => ?_)
          refine lv_if_ne (tgt := 144) hx hb dX9_runScript_138 (by decide) (fun h34 => ?_) (fun h34 => ?_)
          · have hF := it_f h34 hF
            obtain ⟨v35, ev35, hF⟩ := nm_t hF
            refine lv_iinc (v := v35) (lv' := [(8, .int v35), (6, .long v30), (9, .int v28), (4, .long v26), (0, .ref (bb G + 244)), (1, .int x0)]) hx hb dX9_runScript_144 hl (k := 5) rfl (by rw [ev35]; rfl) (by decide) rfl (fun ls hl => ?_)
            refine lv_goto (tgt := 84) hx hb dX9_runScript_147 (by decide) ?_
            exact it_back hF hk20 _ _ _ hw hS (lv_sub hl [4, 5, 3, 1, 0] rfl)
          · have hF := it_t h34 hF
            refine lv_iload hx hb dX9_runScript_141 (lv_at hl 5 rfl) ?_
            have hF := se_r (it_exit hF hX20).symm hG20
            exact m_iret hC hr hlk hw hS dX9_runScript_143 hF
      · have hF := it_f h12 hF
        refine lv_iconst (v := 0) hx hb dX9_runScript_63 (by decide) ?_
        exact m_iret hC hr hlk hw hS dX9_runScript_64 hF
    refine lv_if_eq (tgt := 56) hx hb dX9_runScript_37 (by decide) (fun h6 => ?_) (fun h6 => ?_)
    · have hF := it_t h6 hF
      refine lv_iconst (v := 1) hx hb dX9_runScript_56 (by decide) ?_
      exact hJ57 (1 : Int32) C4 _ _ _ hF hw hS (lv_sub hl [1, 2, 3, 0] rfl)
    · have hF := it_f h6 hF
      refine lv_lload_n hx hb dX9_runScript_40 rfl (lv_at hl 3 rfl) ?_
      refine lv_lconst (v := 0) hx hb dX9_runScript_41 (by decide) ?_
      refine lv_lload hx hb dX9_runScript_42 (lv_at hl 0 rfl) ?_
      refine lv_lconst (v := 1) hx hb dX9_runScript_44 (by decide) ?_
      refine lv_lsub hx hb dX9_runScript_45 ?_
      obtain ⟨r36, C37, hc38, hF⟩ := b2_t hF
      refine call_Si hC (c_X9_in l G n (by omega) hn2 x1 (0 : Int64) (v2 - (1 : Int64)) _ _ _ hc38) wsX9_50 ⟨rfl, rfl, by decide, by decide⟩ hw hS hl.1 rfl (rest := [.ref (bb G + 244)]) rfl (Nat.le_of_ble_eq_true rfl) dX9_runScript_46 ⟨by decide, by decide⟩ (fun H locs hw hS _ => ?_)
      refine lv_if_eq (tgt := 56) hx hb dX9_runScript_49 (by decide) (fun h39 => ?_) (fun h39 => ?_)
      · have hF := it_t h39 hF
        refine lv_iconst (v := 1) hx hb dX9_runScript_56 (by decide) ?_
        exact hJ57 (1 : Int32) C37 _ _ _ hF hw hS (lv_sub hl [1, 2, 3, 0] rfl)
      · have hF := it_f h39 hF
        refine lv_iconst (v := 0) hx hb dX9_runScript_52 (by decide) ?_
        refine lv_goto (tgt := 57) hx hb dX9_runScript_53 (by decide) ?_
        exact hJ57 (0 : Int32) C37 _ _ _ hF hw hS (lv_sub hl [1, 2, 3, 0] rfl)
  refine lv_icmp_ne (tgt := 11) hx hb dX9_runScript_2 (by decide) (fun h1 => ?_) (fun h1 => ?_)
  · have hF := it_f h1 hF
    refine lv_iload_n hx hb dX9_runScript_11 rfl (lv_at hl 1 rfl) ?_
    refine lv_iconst (v := 2) hx hb dX9_runScript_12 (by decide) ?_
    refine lv_icmp_ne (tgt := 22) hx hb dX9_runScript_13 (by decide) (fun h40 => ?_) (fun h40 => ?_)
    · have hF := it_f h40 hF
      refine lv_ldc2 (v := 1000000000000000) hx hb hC.2.2.2.1 (hC.2.2.2.2.1 _ kcX9_218) dX9_runScript_22 ?_
      exact hJ25 (1000000000000000 : Int64) _ _ _ hF hw hS (lv_sub hl [0, 1, 2] rfl)
    · have hF := it_t h40 hF
      refine lv_ldc2 (v := 10000000000) hx hb hC.2.2.2.1 (hC.2.2.2.2.1 _ kcX9_216) dX9_runScript_16 ?_
      refine lv_goto (tgt := 25) hx hb dX9_runScript_19 (by decide) ?_
      exact hJ25 (10000000000 : Int64) _ _ _ hF hw hS (lv_sub hl [0, 1, 2] rfl)
  · have hF := it_t h1 hF
    refine lv_ldc2 (v := 100000) hx hb hC.2.2.2.1 (hC.2.2.2.2.1 _ kcX9_214) dX9_runScript_5 ?_
    refine lv_goto (tgt := 25) hx hb dX9_runScript_8 (by decide) ?_
    exact hJ25 (100000 : Int64) _ _ _ hF hw hS (lv_sub hl [0, 1, 2] rfl)
set_option maxHeartbeats 4000000 in
set_option maxRecDepth 100000 in
theorem c_X9_simulate (l : Launch) (G : GG) (n : Nat) (hn : 252 ≤ n) (hn2 : n ≤ 253) (x0 : Int64) (x1 : Int32) (C : Mem) (rR : Int32) (CR : Mem) (hF : F_X9_simulate x0 x1 C = some (rR, CR)) : Ct l yX9_simulate cX9_simulate 9 (some .int) (rmN 6 140) G n C [.ref (bb G + 244), .long x0, .int x1] (some (.int rR)) CR := by
  refine Ct.of (by decide) (Nat.le_of_ble_eq_true rfl) ?_
  intro p e s m below meth c ls hC hr hlk hw hl
  have hx := hC.1
  have hb := hC.2.1
  have hS : LW G s s.heap [] := va_S.rf
  have hl : lv_has ls 9 [(0, .ref (bb G + 244)), (1, .long x0), (3, .int x1)] := hl
  unfold F_X9_simulate at hF
  refine lv_aload_n hx hb dX9_simulate_0 rfl (lv_at hl 0 rfl) ?_
  refine lv_iload_n hx hb dX9_simulate_1 rfl (lv_at hl 2 rfl) ?_
  refine lv_i2l (v := (x1).toInt64) hx hb dX9_simulate_2 rfl ?_
  refine lv_lconst (v := 1) hx hb dX9_simulate_3 (by decide) ?_
  refine lv_ldc2 (v := 96) hx hb hC.2.2.2.1 (hC.2.2.2.2.1 _ kcX9_178) dX9_simulate_4 ?_
  obtain ⟨r1, C2, hc3, hF⟩ := b2_t hF
  refine call_Si hC (c_X9_in l G n (by omega) hn2 ((x1).toInt64) (1 : Int64) (96 : Int64) _ _ _ hc3) wsX9_50 ⟨rfl, rfl, by decide, by decide⟩ hw hS hl.1 rfl (rest := [.ref (bb G + 244)]) rfl (Nat.le_of_ble_eq_true rfl) dX9_simulate_7 ⟨by decide, by decide⟩ (fun H locs hw hS _ => ?_)
  have hJ18 : ∀ (v5 : Int32) (H : Heap) (locs : List Loc) (ls : Array Slot), J_X9_simulate_18 x0 x1 C2 v5 = some (rR, CR) → Wd G n C2 H → LW G s H locs → lv_has ls 9 [(0, .ref (bb G + 244)), (1, .long x0), (3, .int x1)] → W p l e (rmN 6 140) s m ([.ref (bb G + 244), .long x0, .int x1] : List Value).toArray below meth c H locs 0 0 (MQ below (QR G n (some (.int rR)) CR) ([.ref (bb G + 244), .long x0, .int x1] : List Value).toArray s 0 0 (frA G)) (F0 m 18 ls [.int v5, .ref (bb G + 244)]) := by
    intro v5 H locs ls hF hw hS hl
    unfold J_X9_simulate_18 at hF
    obtain ⟨r6, C7, hc8, hF⟩ := b2_t hF
    refine call_Vi hC (c_X9_refused l G n (by omega) hn2 v5 _ _ _ hc8) wvX9_127 ⟨rfl, rfl, by decide, by decide⟩ hw hS (by omega) ca_model rfl hl.1 rfl (rest := []) rfl (Nat.le_of_ble_eq_true rfl) dX9_simulate_18 ⟨by decide, by decide⟩ (fun H locs hw hS _ => ?_)
    refine lv_if_eq (tgt := 26) hx hb dX9_simulate_21 (by decide) (fun h9 => ?_) (fun h9 => ?_)
    · have hF := it_t h9 hF
      refine lv_aload_n hx hb dX9_simulate_26 rfl (lv_at hl 0 rfl) ?_
      refine gX9_23 hC hw (by omega)  dX9_simulate_27 ?_
      refine lv_iconst (v := 0) hx hb dX9_simulate_30 (by decide) ?_
      refine lv_aload_n hx hb dX9_simulate_31 rfl (lv_at hl 0 rfl) ?_
      refine gX9_26 hC hw (by omega)  dX9_simulate_32 ?_
      refine lv_iconst (v := 0) hx hb dX9_simulate_35 (by decide) ?_
      obtain ⟨r10, C11, hc12, hF⟩ := b2_t hF
      refine call_Sv hC (c_X9_copyPage l G n (by omega) hn2 33 (show 31 ≤ 33 ∧ 33 ≤ 36 by decide) (0 : Int32) 34 (show 31 ≤ 34 ∧ 34 ≤ 36 by decide) (0 : Int32) _ _ _ hc12) wsX9_156 ⟨rfl, rfl, by decide, by decide⟩ hw hS hl.1 rfl (rest := []) rfl (Nat.le_of_ble_eq_true rfl) dX9_simulate_36 ⟨by decide, by decide⟩ (fun H locs hw hS _ => ?_)
      refine lv_lload_n hx hb dX9_simulate_39 rfl (lv_at hl 1 rfl) ?_
      refine lv_lstore (lv' := [(4, .long x0), (0, .ref (bb G + 244)), (1, .long x0), (3, .int x1)]) hx hb dX9_simulate_40 hl (by decide) rfl (fun ls hl => ?_)
      refine lv_iconst (v := 0) hx hb dX9_simulate_42 (by decide) ?_
      refine lv_istore (lv' := [(6, .int (0 : Int32)), (4, .long x0), (0, .ref (bb G + 244)), (1, .long x0), (3, .int x1)]) hx hb dX9_simulate_43 hl (by decide) rfl (fun ls hl => ?_)
      obtain ⟨o16, hit16, hG16⟩ := b1_t hF
      have hR16 : ∀ (v17 : Int64) (v18 : Int32) (C19 : Mem) (H : Heap) (locs : List Loc) (ls : Array Slot), o16 = (v17, v18, C19) → Wd G n C19 H → LW G s H locs → lv_has ls 9 [(0, .ref (bb G + 244))] → W p l e (rmN 6 140) s m ([.ref (bb G + 244), .long x0, .int x1] : List Value).toArray below meth c H locs 0 0 (MQ below (QR G n (some (.int rR)) CR) ([.ref (bb G + 244), .long x0, .int x1] : List Value).toArray s 0 0 (frA G)) (F0 m 138 ls []) := by
        intro v17 v18 C19 H locs ls hE hw hS hl
        subst hE
        have hF := u3_t (hG16)
        refine lv_sipush (v := 1000) hx hb dX9_simulate_138 (by decide) ?_
        refine lv_aload_n hx hb dX9_simulate_141 rfl (lv_at hl 0 rfl) ?_
        refine lv_aload_n hx hb dX9_simulate_142 rfl (lv_at hl 0 rfl) ?_
        refine gX9_26 hC hw (by omega)  dX9_simulate_143 ?_
        obtain ⟨r38, C39, hc40, hF⟩ := b2_t hF
        refine call_Vi hC (c_X9_fuelOf l G n (by omega) hn2 34 (show 31 ≤ 34 ∧ 34 ≤ 36 by decide) _ _ _ hc40) wvX9_175 ⟨rfl, rfl, by decide, by decide⟩ hw hS (by omega) ca_model rfl hl.1 rfl (rest := [.int (1000 : Int32)]) rfl (Nat.le_of_ble_eq_true rfl) dX9_simulate_146 ⟨by decide, by decide⟩ (fun H locs hw hS _ => ?_)
        refine lv_aload_n hx hb dX9_simulate_149 rfl (lv_at hl 0 rfl) ?_
        refine lv_aload_n hx hb dX9_simulate_150 rfl (lv_at hl 0 rfl) ?_
        refine gX9_23 hC hw (by omega)  dX9_simulate_151 ?_
        obtain ⟨r41, C42, hc43, hF⟩ := b2_t hF
        refine call_Vi hC (c_X9_fuelOf l G n (by omega) hn2 33 (show 31 ≤ 33 ∧ 33 ≤ 36 by decide) _ _ _ hc43) wvX9_175 ⟨rfl, rfl, by decide, by decide⟩ hw hS (by omega) ca_model rfl hl.1 rfl (rest := [.int r38, .int (1000 : Int32)]) rfl (Nat.le_of_ble_eq_true rfl) dX9_simulate_154 ⟨by decide, by decide⟩ (fun H locs hw hS _ => ?_)
        refine lv_isub hx hb dX9_simulate_157 ?_
        refine lv_imul hx hb dX9_simulate_158 ?_
        refine lv_aload_n hx hb dX9_simulate_159 rfl (lv_at hl 0 rfl) ?_
        refine lv_aload_n hx hb dX9_simulate_160 rfl (lv_at hl 0 rfl) ?_
        refine gX9_26 hC hw (by omega)  dX9_simulate_161 ?_
        obtain ⟨r44, C45, hc46, hF⟩ := b2_t hF
        refine call_Vi hC (c_X9_meanOf l G n (by omega) hn2 34 (show 31 ≤ 34 ∧ 34 ≤ 36 by decide) _ _ _ hc46) wvX9_87 ⟨rfl, rfl, by decide, by decide⟩ hw hS (by omega) ca_model rfl hl.1 rfl (rest := [.int ((1000 : Int32) * (r38 - r41))]) rfl (Nat.le_of_ble_eq_true rfl) dX9_simulate_164 ⟨by decide, by decide⟩ (fun H locs hw hS _ => ?_)
        refine lv_iadd hx hb dX9_simulate_167 ?_
        exact m_iret hC hr hlk hw hS dX9_simulate_168 hF
      refine iter_sound (P := fun x : Int64 × Int32 × Mem => ∀ (H : Heap) (locs : List Loc) (ls : Array Slot), Wd G n x.2.2 H → LW G s H locs → lv_has ls 9 [(0, .ref (bb G + 244)), (3, .int x1), (4, .long x.1), (6, .int x.2.1)] → W p l e (rmN 6 140) s m ([.ref (bb G + 244), .long x0, .int x1] : List Value).toArray below meth c H locs 0 0 (MQ below (QR G n (some (.int rR)) CR) ([.ref (bb G + 244), .long x0, .int x1] : List Value).toArray s 0 0 (frA G)) (F0 m 45 ls [])) (X := fun r => r = o16) ?_ fuel (x0, (0 : Int32), C11) o16 hit16 rfl _ _ _ hw hS (lv_sub hl [2, 4, 1, 0] rfl)
      intro x oo16 hF hk16 hX16 H locs ls hw hS hl
      obtain ⟨v13, v14, C15⟩ := x
      have hF : S_X9_simulate_45 x1 v13 v14 C15 = some oo16 := hF
      have hw : Wd G n C15 H := hw
      have hl : lv_has ls 9 [(0, .ref (bb G + 244)), (3, .int x1), (4, .long v13), (6, .int v14)] := hl
      unfold S_X9_simulate_45 at hF
      refine lv_iload hx hb dX9_simulate_45 (lv_at hl 3 rfl) ?_
      refine lv_iload_n hx hb dX9_simulate_47 rfl (lv_at hl 1 rfl) ?_
      refine lv_icmp_ge (tgt := 138) hx hb dX9_simulate_48 (by decide) (fun h20 => ?_) (fun h20 => ?_)
      · have hF := it_t h20 hF
        exact hR16 _ _ _ _ _ _ (it_exit hF hX16).symm hw hS (lv_sub hl [0] rfl)
      · have hF := it_f h20 hF
        refine lv_lload hx hb dX9_simulate_51 (lv_at hl 2 rfl) ?_
        refine lv_ldc2 (v := 6364136223846793005) hx hb hC.2.2.2.1 (hC.2.2.2.2.1 _ kcX9_224) dX9_simulate_53 ?_
        refine lv_lmul hx hb dX9_simulate_56 ?_
        refine lv_ldc2 (v := 1442695040888963407) hx hb hC.2.2.2.1 (hC.2.2.2.2.1 _ kcX9_226) dX9_simulate_57 ?_
        refine lv_ladd hx hb dX9_simulate_60 ?_
        obtain ⟨v21, ev21, hF⟩ := nm_t hF
        refine lv_nml ev21 ?_
        refine lv_lstore (lv' := [(4, .long v21), (0, .ref (bb G + 244)), (3, .int x1), (6, .int v14)]) hx hb dX9_simulate_61 hl (by decide) rfl (fun ls hl => ?_)
        refine lv_lload hx hb dX9_simulate_63 (lv_at hl 0 rfl) ?_
        refine lv_bipush (v := 33) hx hb dX9_simulate_65 (by decide) ?_
        refine lv_lushr (v := (((v21).toUInt64 >>> (((33 : Int32)).toInt64.toUInt64 &&& Int64.toUInt64 63)).toInt64)) hx hb dX9_simulate_67 rfl ?_
        refine lv_l2i (v := (((((v21).toUInt64 >>> (((33 : Int32)).toInt64.toUInt64 &&& Int64.toUInt64 63)).toInt64)).toInt32)) hx hb dX9_simulate_68 rfl ?_
        obtain ⟨v22, ev22, hF⟩ := nm_t hF
        refine lv_nmi ev22 ?_
        refine lv_istore (lv' := [(7, .int v22), (4, .long v21), (0, .ref (bb G + 244)), (3, .int x1), (6, .int v14)]) hx hb dX9_simulate_69 hl (by decide) rfl (fun ls hl => ?_)
        refine lv_iload hx hb dX9_simulate_71 (lv_at hl 0 rfl) ?_
        refine lv_bipush (v := 16) hx hb dX9_simulate_73 (by decide) ?_
        refine lv_idiv hx hb dX9_simulate_75 (by decide) ?_
        refine lv_iconst (v := 2) hx hb dX9_simulate_76 (by decide) ?_
        refine lv_irem hx hb dX9_simulate_77 (by decide) ?_
        obtain ⟨v23, ev23, hF⟩ := nm_t hF
        refine lv_nmi ev23 ?_
        refine lv_istore (lv' := [(8, .int v23), (7, .int v22), (4, .long v21), (0, .ref (bb G + 244)), (3, .int x1), (6, .int v14)]) hx hb dX9_simulate_78 hl (by decide) rfl (fun ls hl => ?_)
        refine lv_iload hx hb dX9_simulate_80 (lv_at hl 1 rfl) ?_
        refine lv_bipush (v := 16) hx hb dX9_simulate_82 (by decide) ?_
        refine lv_irem hx hb dX9_simulate_84 (by decide) ?_
        have hJ117 : ∀ (C25 : Mem) (H : Heap) (locs : List Loc) (ls : Array Slot), J_X9_simulate_117 v14 v21 v22 C25 = some oo16 → Wd G n C25 H → LW G s H locs → lv_has ls 9 [(0, .ref (bb G + 244)), (3, .int x1), (4, .long v21), (6, .int v14), (7, .int v22)] → W p l e (rmN 6 140) s m ([.ref (bb G + 244), .long x0, .int x1] : List Value).toArray below meth c H locs 0 0 (MQ below (QR G n (some (.int rR)) CR) ([.ref (bb G + 244), .long x0, .int x1] : List Value).toArray s 0 0 (frA G)) (F0 m 117 ls []) := by
          intro C25 H locs ls hF hw hS hl
          unfold J_X9_simulate_117 at hF
          refine lv_aload_n hx hb dX9_simulate_117 rfl (lv_at hl 0 rfl) ?_
          refine lv_aload_n hx hb dX9_simulate_118 rfl (lv_at hl 0 rfl) ?_
          refine gX9_26 hC hw (by omega)  dX9_simulate_119 ?_
          refine lv_iload hx hb dX9_simulate_122 (lv_at hl 4 rfl) ?_
          refine lv_bipush (v := 64) hx hb dX9_simulate_124 (by decide) ?_
          refine lv_idiv hx hb dX9_simulate_126 (by decide) ?_
          refine lv_iconst (v := 4) hx hb dX9_simulate_127 (by decide) ?_
          refine lv_irem hx hb dX9_simulate_128 (by decide) ?_
          obtain ⟨r26, C27, hc28, hF⟩ := b2_t hF
          refine call_Vv hC (c_X9_tickOn l G n (by omega) hn2 34 (show 31 ≤ 34 ∧ 34 ≤ 36 by decide) ((v22 / (64 : Int32)) - (v22 / (64 : Int32)) / (4 : Int32) * (4 : Int32)) _ _ _ hc28) wvX9_119 ⟨rfl, rfl, by decide, by decide⟩ hw hS (by omega) ca_model rfl hl.1 rfl (rest := []) rfl (Nat.le_of_ble_eq_true rfl) dX9_simulate_129 ⟨by decide, by decide⟩ (fun H locs hw hS _ => ?_)
          obtain ⟨v29, ev29, hF⟩ := nm_t hF
          refine lv_iinc (v := v29) (lv' := [(6, .int v29), (0, .ref (bb G + 244)), (3, .int x1), (4, .long v21), (7, .int v22)]) hx hb dX9_simulate_132 hl (k := 3) rfl (by rw [ev29]; rfl) (by decide) rfl (fun ls hl => ?_)
          refine lv_goto (tgt := 45) hx hb dX9_simulate_135 (by decide) ?_
          exact it_back hF hk16 _ _ _ hw hS (lv_sub hl [1, 2, 3, 0] rfl)
        refine lv_if_ne (tgt := 117) hx hb dX9_simulate_85 (by decide) (fun h24 => ?_) (fun h24 => ?_)
        · have hF := it_f h24 hF
          exact hJ117 C15 _ _ _ hF hw hS (lv_sub hl [3, 4, 2, 5, 1] rfl)
        · have hF := it_t h24 hF
          refine lv_aload_n hx hb dX9_simulate_88 rfl (lv_at hl 3 rfl) ?_
          refine lv_aload_n hx hb dX9_simulate_89 rfl (lv_at hl 3 rfl) ?_
          refine gX9_26 hC hw (by omega)  dX9_simulate_90 ?_
          refine lv_iload hx hb dX9_simulate_93 (lv_at hl 0 rfl) ?_
          refine lv_aload_n hx hb dX9_simulate_95 rfl (lv_at hl 3 rfl) ?_
          refine gX9_26 hC hw (by omega)  dX9_simulate_96 ?_
          refine lv_bipush (v := 20) hx hb dX9_simulate_99 (by decide) ?_
          refine lv_iload hx hb dX9_simulate_101 (lv_at hl 0 rfl) ?_
          refine lv_iadd hx hb dX9_simulate_103 ?_
          obtain ⟨g30, hF⟩ := gi_t hF
          refine ld_marr hC hw (by omega) (show 31 ≤ 34 ∧ 34 ≤ 36 by decide) g30 dX9_simulate_104 ?_
          refine lv_if_ne (tgt := 112) hx hb dX9_simulate_105 (by decide) (fun h31 => ?_) (fun h31 => ?_)
          · have hF := it_f h31 hF
            refine lv_iconst (v := 0) hx hb dX9_simulate_112 (by decide) ?_
            obtain ⟨r32, C33, hc34, hF⟩ := b2_t hF
            refine call_Vi hC (c_X9_flueOn l G n (by omega) hn2 34 (show 31 ≤ 34 ∧ 34 ≤ 36 by decide) v23 (0 : Int32) _ _ _ hc34) wvX9_196 ⟨rfl, rfl, by decide, by decide⟩ hw hS (by omega) ca_model rfl hl.1 rfl (rest := []) rfl (Nat.le_of_ble_eq_true rfl) dX9_simulate_113 ⟨by decide, by decide⟩ (fun H locs hw hS _ => ?_)
            refine lv_pop hx hb dX9_simulate_116 rfl ?_
            exact hJ117 C33 _ _ _ hF hw hS (lv_sub hl [3, 4, 2, 5, 1] rfl)
          · have hF := it_t h31 hF
            refine lv_iconst (v := 1) hx hb dX9_simulate_108 (by decide) ?_
            refine lv_goto (tgt := 113) hx hb dX9_simulate_109 (by decide) ?_
            obtain ⟨r35, C36, hc37, hF⟩ := b2_t hF
            refine call_Vi hC (c_X9_flueOn l G n (by omega) hn2 34 (show 31 ≤ 34 ∧ 34 ≤ 36 by decide) v23 (1 : Int32) _ _ _ hc37) wvX9_196 ⟨rfl, rfl, by decide, by decide⟩ hw hS (by omega) ca_model rfl hl.1 rfl (rest := []) rfl (Nat.le_of_ble_eq_true rfl) dX9_simulate_113 ⟨by decide, by decide⟩ (fun H locs hw hS _ => ?_)
            refine lv_pop hx hb dX9_simulate_116 rfl ?_
            exact hJ117 C36 _ _ _ hF hw hS (lv_sub hl [3, 4, 2, 5, 1] rfl)
    · have hF := it_f h9 hF
      refine lv_iconst (v := 0) hx hb dX9_simulate_24 (by decide) ?_
      exact m_iret hC hr hlk hw hS dX9_simulate_25 hF
  refine lv_if_eq (tgt := 17) hx hb dX9_simulate_10 (by decide) (fun h4 => ?_) (fun h4 => ?_)
  · have hF := it_t h4 hF
    refine lv_iconst (v := 1) hx hb dX9_simulate_17 (by decide) ?_
    exact hJ18 (1 : Int32) _ _ _ hF hw hS (lv_sub hl [0, 1, 2] rfl)
  · have hF := it_f h4 hF
    refine lv_iconst (v := 0) hx hb dX9_simulate_13 (by decide) ?_
    refine lv_goto (tgt := 18) hx hb dX9_simulate_14 (by decide) ?_
    exact hJ18 (0 : Int32) _ _ _ hF hw hS (lv_sub hl [0, 1, 2] rfl)
