/-! contracts, by program out of the bytecode -/
set_option maxHeartbeats 4000000 in
set_option maxRecDepth 100000 in
theorem c_X9_save (l : Launch) (G : GG) (n : Nat) (hn : 252 ≤ n) (hn2 : n ≤ 253) (x0 : Int32) (C : Mem) (rR : Int32) (CR : Mem) (hF : F_X9_save x0 C = some (rR, CR)) : Ct l yX9_save cX9_save 2 (some .int) (rmN 1 25) G n C [.ref (bb G + 244), .int x0] (some (.int rR)) CR := by
  refine Ct.of (by decide) (Nat.le_of_ble_eq_true rfl) ?_
  intro p e s m below meth c ls hC hr hlk hw hl
  have hx := hC.1
  have hb := hC.2.1
  have hS : LW G s s.heap [] := va_S.rf
  have hl : lv_has ls 2 [(0, .ref (bb G + 244)), (1, .int x0)] := hl
  unfold F_X9_save at hF
  refine lv_aload_n hx hb dX9_save_0 rfl (lv_at hl 0 rfl) ?_
  refine lv_iload_n hx hb dX9_save_1 rfl (lv_at hl 1 rfl) ?_
  refine lv_i2l (v := (x0).toInt64) hx hb dX9_save_2 rfl ?_
  refine lv_lconst (v := 0) hx hb dX9_save_3 (by decide) ?_
  refine lv_lconst (v := 1) hx hb dX9_save_4 (by decide) ?_
  obtain ⟨r1, C2, hc3, hF⟩ := b2_t hF
  refine call_Si hC (c_X9_in l G n (by omega) hn2 ((x0).toInt64) (0 : Int64) (1 : Int64) _ _ _ hc3) wsX9_50 ⟨rfl, rfl, by decide, by decide⟩ hw hS hl.1 rfl (rest := [.ref (bb G + 244)]) rfl (Nat.le_of_ble_eq_true rfl) dX9_save_5 ⟨by decide, by decide⟩ (fun H locs hw hS _ => ?_)
  have hJ16 : ∀ (v5 : Int32) (H : Heap) (locs : List Loc) (ls : Array Slot), J_X9_save_16 x0 C2 v5 = some (rR, CR) → Wd G n C2 H → LW G s H locs → lv_has ls 2 [(0, .ref (bb G + 244)), (1, .int x0)] → W p l e (rmN 1 25) s m ([.ref (bb G + 244), .int x0] : List Value).toArray below meth c H locs 0 0 (MQ below (QR G n (some (.int rR)) CR) ([.ref (bb G + 244), .int x0] : List Value).toArray s 0 0 (frA G)) (F0 m 16 ls [.int v5, .ref (bb G + 244)]) := by
    intro v5 H locs ls hF hw hS hl
    unfold J_X9_save_16 at hF
    obtain ⟨r6, C7, hc8, hF⟩ := b2_t hF
    refine call_Vi hC (c_X9_refused l G n (by omega) hn2 v5 _ _ _ hc8) wvX9_127 ⟨rfl, rfl, by decide, by decide⟩ hw hS (by omega) ca_model rfl hl.1 rfl (rest := []) rfl (Nat.le_of_ble_eq_true rfl) dX9_save_16 ⟨by decide, by decide⟩ (fun H locs hw hS _ => ?_)
    refine lv_if_eq (tgt := 24) hx hb dX9_save_19 (by decide) (fun h9 => ?_) (fun h9 => ?_)
    · have hF := it_t h9 hF
      refine lv_aload_n hx hb dX9_save_24 rfl (lv_at hl 0 rfl) ?_
      refine gX9_35 hC hw (by omega)  dX9_save_25 ?_
      refine lv_iload_n hx hb dX9_save_28 rfl (lv_at hl 1 rfl) ?_
      refine lv_iconst (v := 1) hx hb dX9_save_29 (by decide) ?_
      obtain ⟨g10, hF⟩ := gi_t hF
      refine st_kept hC hw hS (by omega) hn2  g10 (by decide) dX9_save_30 (fun H locs hw hS _ => ?_)
      obtain ⟨C11, eC11, hF⟩ := nm_t hF
      have hw := Wd.cast eC11 hw
      refine lv_aload_n hx hb dX9_save_31 rfl (lv_at hl 0 rfl) ?_
      refine gX9_23 hC hw (by omega)  dX9_save_32 ?_
      refine lv_iconst (v := 0) hx hb dX9_save_35 (by decide) ?_
      refine lv_aload_n hx hb dX9_save_36 rfl (lv_at hl 0 rfl) ?_
      refine gX9_32 hC hw (by omega)  dX9_save_37 ?_
      refine lv_bipush (v := 65) hx hb dX9_save_40 (by decide) ?_
      refine lv_iload_n hx hb dX9_save_42 rfl (lv_at hl 1 rfl) ?_
      refine lv_imul hx hb dX9_save_43 ?_
      obtain ⟨r12, C13, hc14, hF⟩ := b2_t hF
      refine call_Sv hC (c_X9_copyPage l G n (by omega) hn2 33 (show 31 ≤ 33 ∧ 33 ≤ 36 by decide) (0 : Int32) 36 (show 31 ≤ 36 ∧ 36 ≤ 36 by decide) ((65 : Int32) * x0) _ _ _ hc14) wsX9_156 ⟨rfl, rfl, by decide, by decide⟩ hw hS hl.1 rfl (rest := []) rfl (Nat.le_of_ble_eq_true rfl) dX9_save_44 ⟨by decide, by decide⟩ (fun H locs hw hS _ => ?_)
      refine lv_aload_n hx hb dX9_save_47 rfl (lv_at hl 0 rfl) ?_
      refine gX9_23 hC hw (by omega)  dX9_save_48 ?_
      refine lv_bipush (v := 6) hx hb dX9_save_51 (by decide) ?_
      obtain ⟨g15, hF⟩ := gi_t hF
      refine ld_marr hC hw (by omega) (show 31 ≤ 33 ∧ 33 ≤ 36 by decide) g15 dX9_save_53 ?_
      exact m_iret hC hr hlk hw hS dX9_save_54 hF
    · have hF := it_f h9 hF
      refine lv_iconst (v := 0) hx hb dX9_save_22 (by decide) ?_
      exact m_iret hC hr hlk hw hS dX9_save_23 hF
  refine lv_if_eq (tgt := 15) hx hb dX9_save_8 (by decide) (fun h4 => ?_) (fun h4 => ?_)
  · have hF := it_t h4 hF
    refine lv_iconst (v := 1) hx hb dX9_save_15 (by decide) ?_
    exact hJ16 (1 : Int32) _ _ _ hF hw hS (lv_sub hl [0, 1] rfl)
  · have hF := it_f h4 hF
    refine lv_iconst (v := 0) hx hb dX9_save_11 (by decide) ?_
    refine lv_goto (tgt := 16) hx hb dX9_save_12 (by decide) ?_
    exact hJ16 (0 : Int32) _ _ _ hF hw hS (lv_sub hl [0, 1] rfl)
set_option maxHeartbeats 4000000 in
set_option maxRecDepth 100000 in
theorem c_X9_restore (l : Launch) (G : GG) (n : Nat) (hn : 252 ≤ n) (hn2 : n ≤ 253) (x0 : Int32) (C : Mem) (rR : Int32) (CR : Mem) (hF : F_X9_restore x0 C = some (rR, CR)) : Ct l yX9_restore cX9_restore 2 (some .int) (rmN 1 25) G n C [.ref (bb G + 244), .int x0] (some (.int rR)) CR := by
  refine Ct.of (by decide) (Nat.le_of_ble_eq_true rfl) ?_
  intro p e s m below meth c ls hC hr hlk hw hl
  have hx := hC.1
  have hb := hC.2.1
  have hS : LW G s s.heap [] := va_S.rf
  have hl : lv_has ls 2 [(0, .ref (bb G + 244)), (1, .int x0)] := hl
  unfold F_X9_restore at hF
  refine lv_aload_n hx hb dX9_restore_0 rfl (lv_at hl 0 rfl) ?_
  refine lv_iload_n hx hb dX9_restore_1 rfl (lv_at hl 1 rfl) ?_
  refine lv_i2l (v := (x0).toInt64) hx hb dX9_restore_2 rfl ?_
  refine lv_lconst (v := 0) hx hb dX9_restore_3 (by decide) ?_
  refine lv_lconst (v := 1) hx hb dX9_restore_4 (by decide) ?_
  obtain ⟨r1, C2, hc3, hF⟩ := b2_t hF
  refine call_Si hC (c_X9_in l G n (by omega) hn2 ((x0).toInt64) (0 : Int64) (1 : Int64) _ _ _ hc3) wsX9_50 ⟨rfl, rfl, by decide, by decide⟩ hw hS hl.1 rfl (rest := [.ref (bb G + 244)]) rfl (Nat.le_of_ble_eq_true rfl) dX9_restore_5 ⟨by decide, by decide⟩ (fun H locs hw hS _ => ?_)
  have hJ29 : ∀ (v5 : Int32) (H : Heap) (locs : List Loc) (ls : Array Slot), J_X9_restore_29 x0 C2 v5 = some (rR, CR) → Wd G n C2 H → LW G s H locs → lv_has ls 2 [(0, .ref (bb G + 244)), (1, .int x0)] → W p l e (rmN 1 25) s m ([.ref (bb G + 244), .int x0] : List Value).toArray below meth c H locs 0 0 (MQ below (QR G n (some (.int rR)) CR) ([.ref (bb G + 244), .int x0] : List Value).toArray s 0 0 (frA G)) (F0 m 29 ls [.int v5, .ref (bb G + 244)]) := by
    intro v5 H locs ls hF hw hS hl
    unfold J_X9_restore_29 at hF
    obtain ⟨r6, C7, hc8, hF⟩ := b2_t hF
    refine call_Vi hC (c_X9_refused l G n (by omega) hn2 v5 _ _ _ hc8) wvX9_127 ⟨rfl, rfl, by decide, by decide⟩ hw hS (by omega) ca_model rfl hl.1 rfl (rest := []) rfl (Nat.le_of_ble_eq_true rfl) dX9_restore_29 ⟨by decide, by decide⟩ (fun H locs hw hS _ => ?_)
    refine lv_if_eq (tgt := 37) hx hb dX9_restore_32 (by decide) (fun h9 => ?_) (fun h9 => ?_)
    · have hF := it_t h9 hF
      refine lv_aload_n hx hb dX9_restore_37 rfl (lv_at hl 0 rfl) ?_
      refine gX9_32 hC hw (by omega)  dX9_restore_38 ?_
      refine lv_bipush (v := 65) hx hb dX9_restore_41 (by decide) ?_
      refine lv_iload_n hx hb dX9_restore_43 rfl (lv_at hl 1 rfl) ?_
      refine lv_imul hx hb dX9_restore_44 ?_
      refine lv_aload_n hx hb dX9_restore_45 rfl (lv_at hl 0 rfl) ?_
      refine gX9_23 hC hw (by omega)  dX9_restore_46 ?_
      refine lv_iconst (v := 0) hx hb dX9_restore_49 (by decide) ?_
      obtain ⟨r10, C11, hc12, hF⟩ := b2_t hF
      refine call_Sv hC (c_X9_copyPage l G n (by omega) hn2 36 (show 31 ≤ 36 ∧ 36 ≤ 36 by decide) ((65 : Int32) * x0) 33 (show 31 ≤ 33 ∧ 33 ≤ 36 by decide) (0 : Int32) _ _ _ hc12) wsX9_156 ⟨rfl, rfl, by decide, by decide⟩ hw hS hl.1 rfl (rest := []) rfl (Nat.le_of_ble_eq_true rfl) dX9_restore_50 ⟨by decide, by decide⟩ (fun H locs hw hS _ => ?_)
      refine lv_aload_n hx hb dX9_restore_53 rfl (lv_at hl 0 rfl) ?_
      refine lv_iconst (v := 0) hx hb dX9_restore_54 (by decide) ?_
      refine pX9_160 hC hw hS (by omega) hn2  dX9_restore_55 (fun H locs hw hS _ => ?_)
      obtain ⟨C13, eC13, hF⟩ := nm_t hF
      have hw := Wd.cast eC13 hw
      refine lv_aload_n hx hb dX9_restore_58 rfl (lv_at hl 0 rfl) ?_
      refine gX9_23 hC hw (by omega)  dX9_restore_59 ?_
      refine lv_bipush (v := 6) hx hb dX9_restore_62 (by decide) ?_
      obtain ⟨g14, hF⟩ := gi_t hF
      refine ld_marr hC hw (by omega) (show 31 ≤ 33 ∧ 33 ≤ 36 by decide) g14 dX9_restore_64 ?_
      exact m_iret hC hr hlk hw hS dX9_restore_65 hF
    · have hF := it_f h9 hF
      refine lv_iconst (v := 0) hx hb dX9_restore_35 (by decide) ?_
      exact m_iret hC hr hlk hw hS dX9_restore_36 hF
  refine lv_if_ne (tgt := 15) hx hb dX9_restore_8 (by decide) (fun h4 => ?_) (fun h4 => ?_)
  · have hF := it_f h4 hF
    refine lv_aload_n hx hb dX9_restore_15 rfl (lv_at hl 0 rfl) ?_
    refine gX9_35 hC hw (by omega)  dX9_restore_16 ?_
    refine lv_iload_n hx hb dX9_restore_19 rfl (lv_at hl 1 rfl) ?_
    obtain ⟨g15, hF⟩ := gi_t hF
    refine ld_kept hC hw (by omega)  g15 dX9_restore_20 ?_
    refine lv_if_ne (tgt := 28) hx hb dX9_restore_21 (by decide) (fun h16 => ?_) (fun h16 => ?_)
    · have hF := it_f h16 hF
      refine lv_iconst (v := 0) hx hb dX9_restore_28 (by decide) ?_
      exact hJ29 (0 : Int32) _ _ _ hF hw hS (lv_sub hl [0, 1] rfl)
    · have hF := it_t h16 hF
      refine lv_iconst (v := 2) hx hb dX9_restore_24 (by decide) ?_
      refine lv_goto (tgt := 29) hx hb dX9_restore_25 (by decide) ?_
      exact hJ29 (2 : Int32) _ _ _ hF hw hS (lv_sub hl [0, 1] rfl)
  · have hF := it_t h4 hF
    refine lv_iconst (v := 1) hx hb dX9_restore_11 (by decide) ?_
    refine lv_goto (tgt := 29) hx hb dX9_restore_12 (by decide) ?_
    exact hJ29 (1 : Int32) _ _ _ hF hw hS (lv_sub hl [0, 1] rfl)
