/-! contracts, by program out of the bytecode -/
set_option maxHeartbeats 4000000 in
set_option maxRecDepth 100000 in
theorem c_X0_beginAs (l : Launch) (G : GG) (n : Nat) (hn : 244 ≤ n) (hn2 : 0 ≤ n) (q : Nat) (hq : q < 18) (i : Nat) (hi : i < 5) (x0 : Int32) (x1 : Int32) (C : Mem) (rR : Int32) (CR : Mem) (hF : F_X0_beginAs q i x0 x1 C = some (rR, CR)) : Ct l yX0_beginAs cX0_beginAs 3 none (rmN 0 0) G n C [.ref (bb G + (po q + (8 + i))), .int x0, .int x1] none CR := by
  refine Ct.of (by decide) (Nat.le_of_ble_eq_true rfl) ?_
  intro p e s m below meth c ls hC hr hlk hw hl
  have hx := hC.1
  have hb := hC.2.1
  have hS : LW G s s.heap [] := va_S.rf
  have hl : lv_has ls 3 [(0, .ref (bb G + (po q + (8 + i)))), (1, .int x0), (2, .int x1)] := hl
  unfold F_X0_beginAs at hF
  refine lv_aload_n hx hb dX0_beginAs_0 rfl (lv_at hl 0 rfl) ?_
  refine lv_iload_n hx hb dX0_beginAs_1 rfl (lv_at hl 1 rfl) ?_
  refine pX0_9 hC hw hS (by omega) hn2 hq hi dX0_beginAs_2 (fun H locs hw hS _ => ?_)
  obtain ⟨C1, eC1, hF⟩ := nm_t hF
  have hw := Wd.cast eC1 hw
  refine lv_aload_n hx hb dX0_beginAs_5 rfl (lv_at hl 0 rfl) ?_
  refine lv_iload_n hx hb dX0_beginAs_6 rfl (lv_at hl 2 rfl) ?_
  refine pX0_15 hC hw hS (by omega) hn2 hq hi dX0_beginAs_7 (fun H locs hw hS _ => ?_)
  obtain ⟨C2, eC2, hF⟩ := nm_t hF
  have hw := Wd.cast eC2 hw
  refine lv_aload_n hx hb dX0_beginAs_10 rfl (lv_at hl 0 rfl) ?_
  refine lv_iconst (v := 0) hx hb dX0_beginAs_11 (by decide) ?_
  refine pX0_18 hC hw hS (by omega) hn2 hq hi dX0_beginAs_12 (fun H locs hw hS _ => ?_)
  obtain ⟨C3, eC3, hF⟩ := nm_t hF
  have hw := Wd.cast eC3 hw
  refine lv_aload_n hx hb dX0_beginAs_15 rfl (lv_at hl 0 rfl) ?_
  refine lv_iconst (v := 0) hx hb dX0_beginAs_16 (by decide) ?_
  refine pX0_21 hC hw hS (by omega) hn2 hq hi dX0_beginAs_17 (fun H locs hw hS _ => ?_)
  obtain ⟨C4, eC4, hF⟩ := nm_t hF
  have hw := Wd.cast eC4 hw
  refine lv_aload_n hx hb dX0_beginAs_20 rfl (lv_at hl 0 rfl) ?_
  refine lv_iconst (v := 0) hx hb dX0_beginAs_21 (by decide) ?_
  refine pX0_24 hC hw hS (by omega) hn2 hq hi dX0_beginAs_22 (fun H locs hw hS _ => ?_)
  obtain ⟨C5, eC5, hF⟩ := nm_t hF
  have hw := Wd.cast eC5 hw
  refine lv_aload_n hx hb dX0_beginAs_25 rfl (lv_at hl 0 rfl) ?_
  refine lv_iconst (v := 0) hx hb dX0_beginAs_26 (by decide) ?_
  refine pX0_27 hC hw hS (by omega) hn2 hq hi dX0_beginAs_27 (fun H locs hw hS _ => ?_)
  obtain ⟨C6, eC6, hF⟩ := nm_t hF
  have hw := Wd.cast eC6 hw
  refine lv_aload_n hx hb dX0_beginAs_30 rfl (lv_at hl 0 rfl) ?_
  refine lv_iconst (v := 0) hx hb dX0_beginAs_31 (by decide) ?_
  refine pX0_30 hC hw hS (by omega) hn2 hq hi dX0_beginAs_32 (fun H locs hw hS _ => ?_)
  obtain ⟨C7, eC7, hF⟩ := nm_t hF
  have hw := Wd.cast eC7 hw
  exact m_vret hC hr hlk hw hS dX0_beginAs_35 hF
set_option maxHeartbeats 4000000 in
set_option maxRecDepth 100000 in
theorem c_X0_copyFrom (l : Launch) (G : GG) (n : Nat) (hn : 244 ≤ n) (hn2 : 0 ≤ n) (q : Nat) (hq : q < 18) (i : Nat) (hi : i < 5) (q0 : Nat) (hq0 : q0 < 18) (i0 : Nat) (hi0 : i0 < 5) (C : Mem) (rR : Int32) (CR : Mem) (hF : F_X0_copyFrom q i q0 i0 C = some (rR, CR)) : Ct l yX0_copyFrom cX0_copyFrom 2 none (rmN 0 0) G n C [.ref (bb G + (po q + (8 + i))), .ref (bb G + (po q0 + (8 + i0)))] none CR := by
  refine Ct.of (by decide) (Nat.le_of_ble_eq_true rfl) ?_
  intro p e s m below meth c ls hC hr hlk hw hl
  have hx := hC.1
  have hb := hC.2.1
  have hS : LW G s s.heap [] := va_S.rf
  have hl : lv_has ls 2 [(0, .ref (bb G + (po q + (8 + i)))), (1, .ref (bb G + (po q0 + (8 + i0))))] := hl
  unfold F_X0_copyFrom at hF
  refine lv_aload_n hx hb dX0_copyFrom_0 rfl (lv_at hl 0 rfl) ?_
  refine lv_aload_n hx hb dX0_copyFrom_1 rfl (lv_at hl 1 rfl) ?_
  refine gX0_9 hC hw (by omega) hq0 hi0 dX0_copyFrom_2 ?_
  refine pX0_9 hC hw hS (by omega) hn2 hq hi dX0_copyFrom_5 (fun H locs hw hS _ => ?_)
  obtain ⟨C1, eC1, hF⟩ := nm_t hF
  have hw := Wd.cast eC1 hw
  refine lv_aload_n hx hb dX0_copyFrom_8 rfl (lv_at hl 0 rfl) ?_
  refine lv_aload_n hx hb dX0_copyFrom_9 rfl (lv_at hl 1 rfl) ?_
  refine gX0_15 hC hw (by omega) hq0 hi0 dX0_copyFrom_10 ?_
  refine pX0_15 hC hw hS (by omega) hn2 hq hi dX0_copyFrom_13 (fun H locs hw hS _ => ?_)
  obtain ⟨C2, eC2, hF⟩ := nm_t hF
  have hw := Wd.cast eC2 hw
  refine lv_aload_n hx hb dX0_copyFrom_16 rfl (lv_at hl 0 rfl) ?_
  refine lv_aload_n hx hb dX0_copyFrom_17 rfl (lv_at hl 1 rfl) ?_
  refine gX0_18 hC hw (by omega) hq0 hi0 dX0_copyFrom_18 ?_
  refine pX0_18 hC hw hS (by omega) hn2 hq hi dX0_copyFrom_21 (fun H locs hw hS _ => ?_)
  obtain ⟨C3, eC3, hF⟩ := nm_t hF
  have hw := Wd.cast eC3 hw
  refine lv_aload_n hx hb dX0_copyFrom_24 rfl (lv_at hl 0 rfl) ?_
  refine lv_aload_n hx hb dX0_copyFrom_25 rfl (lv_at hl 1 rfl) ?_
  refine gX0_21 hC hw (by omega) hq0 hi0 dX0_copyFrom_26 ?_
  refine pX0_21 hC hw hS (by omega) hn2 hq hi dX0_copyFrom_29 (fun H locs hw hS _ => ?_)
  obtain ⟨C4, eC4, hF⟩ := nm_t hF
  have hw := Wd.cast eC4 hw
  refine lv_aload_n hx hb dX0_copyFrom_32 rfl (lv_at hl 0 rfl) ?_
  refine lv_aload_n hx hb dX0_copyFrom_33 rfl (lv_at hl 1 rfl) ?_
  refine gX0_24 hC hw (by omega) hq0 hi0 dX0_copyFrom_34 ?_
  refine pX0_24 hC hw hS (by omega) hn2 hq hi dX0_copyFrom_37 (fun H locs hw hS _ => ?_)
  obtain ⟨C5, eC5, hF⟩ := nm_t hF
  have hw := Wd.cast eC5 hw
  refine lv_aload_n hx hb dX0_copyFrom_40 rfl (lv_at hl 0 rfl) ?_
  refine lv_aload_n hx hb dX0_copyFrom_41 rfl (lv_at hl 1 rfl) ?_
  refine gX0_27 hC hw (by omega) hq0 hi0 dX0_copyFrom_42 ?_
  refine pX0_27 hC hw hS (by omega) hn2 hq hi dX0_copyFrom_45 (fun H locs hw hS _ => ?_)
  obtain ⟨C6, eC6, hF⟩ := nm_t hF
  have hw := Wd.cast eC6 hw
  refine lv_aload_n hx hb dX0_copyFrom_48 rfl (lv_at hl 0 rfl) ?_
  refine lv_aload_n hx hb dX0_copyFrom_49 rfl (lv_at hl 1 rfl) ?_
  refine gX0_30 hC hw (by omega) hq0 hi0 dX0_copyFrom_50 ?_
  refine pX0_30 hC hw hS (by omega) hn2 hq hi dX0_copyFrom_53 (fun H locs hw hS _ => ?_)
  obtain ⟨C7, eC7, hF⟩ := nm_t hF
  have hw := Wd.cast eC7 hw
  exact m_vret hC hr hlk hw hS dX0_copyFrom_56 hF
set_option maxHeartbeats 4000000 in
set_option maxRecDepth 100000 in
theorem c_X0_waits (l : Launch) (G : GG) (n : Nat) (hn : 244 ≤ n) (hn2 : 0 ≤ n) (q : Nat) (hq : q < 18) (i : Nat) (hi : i < 5) (C : Mem) (rR : Int32) (CR : Mem) (hF : F_X0_waits q i C = some (rR, CR)) : Ct l yX0_waits cX0_waits 1 (some .boolean) (rmN 0 0) G n C [.ref (bb G + (po q + (8 + i)))] (some (.int rR)) CR := by
  refine Ct.of (by decide) (Nat.le_of_ble_eq_true rfl) ?_
  intro p e s m below meth c ls hC hr hlk hw hl
  have hx := hC.1
  have hb := hC.2.1
  have hS : LW G s s.heap [] := va_S.rf
  have hl : lv_has ls 1 [(0, .ref (bb G + (po q + (8 + i))))] := hl
  unfold F_X0_waits at hF
  refine lv_aload_n hx hb dX0_waits_0 rfl (lv_at hl 0 rfl) ?_
  refine gX0_18 hC hw (by omega) hq hi dX0_waits_1 ?_
  refine lv_if_eq (tgt := 15) hx hb dX0_waits_4 (by decide) (fun h1 => ?_) (fun h1 => ?_)
  · have hF := it_t h1 hF
    refine lv_iconst (v := 1) hx hb dX0_waits_15 (by decide) ?_
    refine lv_goto (tgt := 20) hx hb dX0_waits_16 (by decide) ?_
    exact m_zret hC hr hlk hw hS dX0_waits_20 (by decide) hF
  · have hF := it_f h1 hF
    refine lv_aload_n hx hb dX0_waits_7 rfl (lv_at hl 0 rfl) ?_
    refine gX0_18 hC hw (by omega) hq hi dX0_waits_8 ?_
    refine lv_iconst (v := 3) hx hb dX0_waits_11 (by decide) ?_
    refine lv_icmp_ne (tgt := 19) hx hb dX0_waits_12 (by decide) (fun h2 => ?_) (fun h2 => ?_)
    · have hF := it_f h2 hF
      refine lv_iconst (v := 0) hx hb dX0_waits_19 (by decide) ?_
      exact m_zret hC hr hlk hw hS dX0_waits_20 (by decide) hF
    · have hF := it_t h2 hF
      refine lv_iconst (v := 1) hx hb dX0_waits_15 (by decide) ?_
      refine lv_goto (tgt := 20) hx hb dX0_waits_16 (by decide) ?_
      exact m_zret hC hr hlk hw hS dX0_waits_20 (by decide) hF
set_option maxHeartbeats 4000000 in
set_option maxRecDepth 100000 in
theorem c_X0_start (l : Launch) (G : GG) (n : Nat) (hn : 244 ≤ n) (hn2 : 0 ≤ n) (q : Nat) (hq : q < 18) (i : Nat) (hi : i < 5) (x0 : Int32) (C : Mem) (rR : Int32) (CR : Mem) (hF : F_X0_start q i x0 C = some (rR, CR)) : Ct l yX0_start cX0_start 2 none (rmN 0 0) G n C [.ref (bb G + (po q + (8 + i))), .int x0] none CR := by
  refine Ct.of (by decide) (Nat.le_of_ble_eq_true rfl) ?_
  intro p e s m below meth c ls hC hr hlk hw hl
  have hx := hC.1
  have hb := hC.2.1
  have hS : LW G s s.heap [] := va_S.rf
  have hl : lv_has ls 2 [(0, .ref (bb G + (po q + (8 + i)))), (1, .int x0)] := hl
  unfold F_X0_start at hF
  refine lv_aload_n hx hb dX0_start_0 rfl (lv_at hl 0 rfl) ?_
  refine gX0_18 hC hw (by omega) hq hi dX0_start_1 ?_
  refine lv_iconst (v := 3) hx hb dX0_start_4 (by decide) ?_
  refine lv_icmp_ne (tgt := 16) hx hb dX0_start_5 (by decide) (fun h1 => ?_) (fun h1 => ?_)
  · have hF := it_f h1 hF
    refine lv_aload_n hx hb dX0_start_16 rfl (lv_at hl 0 rfl) ?_
    refine lv_iconst (v := 1) hx hb dX0_start_17 (by decide) ?_
    refine pX0_18 hC hw hS (by omega) hn2 hq hi dX0_start_18 (fun H locs hw hS _ => ?_)
    obtain ⟨C2, eC2, hF⟩ := nm_t hF
    have hw := Wd.cast eC2 hw
    refine lv_aload_n hx hb dX0_start_21 rfl (lv_at hl 0 rfl) ?_
    refine lv_iload_n hx hb dX0_start_22 rfl (lv_at hl 1 rfl) ?_
    refine pX0_21 hC hw hS (by omega) hn2 hq hi dX0_start_23 (fun H locs hw hS _ => ?_)
    obtain ⟨C3, eC3, hF⟩ := nm_t hF
    have hw := Wd.cast eC3 hw
    refine lv_aload_n hx hb dX0_start_26 rfl (lv_at hl 0 rfl) ?_
    refine lv_dup hx hb dX0_start_27 rfl ?_
    refine gX0_27 hC hw (by omega) hq hi dX0_start_28 ?_
    refine lv_iconst (v := 1) hx hb dX0_start_31 (by decide) ?_
    refine lv_iadd hx hb dX0_start_32 ?_
    refine pX0_27 hC hw hS (by omega) hn2 hq hi dX0_start_33 (fun H locs hw hS _ => ?_)
    obtain ⟨C4, eC4, hF⟩ := nm_t hF
    have hw := Wd.cast eC4 hw
    exact m_vret hC hr hlk hw hS dX0_start_36 hF
  · have hF := it_t h1 hF
    refine lv_aload_n hx hb dX0_start_8 rfl (lv_at hl 0 rfl) ?_
    refine lv_iconst (v := 2) hx hb dX0_start_9 (by decide) ?_
    refine pX0_18 hC hw hS (by omega) hn2 hq hi dX0_start_10 (fun H locs hw hS _ => ?_)
    obtain ⟨C5, eC5, hF⟩ := nm_t hF
    have hw := Wd.cast eC5 hw
    refine lv_goto (tgt := 26) hx hb dX0_start_13 (by decide) ?_
    refine lv_aload_n hx hb dX0_start_26 rfl (lv_at hl 0 rfl) ?_
    refine lv_dup hx hb dX0_start_27 rfl ?_
    refine gX0_27 hC hw (by omega) hq hi dX0_start_28 ?_
    refine lv_iconst (v := 1) hx hb dX0_start_31 (by decide) ?_
    refine lv_iadd hx hb dX0_start_32 ?_
    refine pX0_27 hC hw hS (by omega) hn2 hq hi dX0_start_33 (fun H locs hw hS _ => ?_)
    obtain ⟨C6, eC6, hF⟩ := nm_t hF
    have hw := Wd.cast eC6 hw
    exact m_vret hC hr hlk hw hS dX0_start_36 hF
set_option maxHeartbeats 4000000 in
set_option maxRecDepth 100000 in
theorem c_X0_leaveFor (l : Launch) (G : GG) (n : Nat) (hn : 244 ≤ n) (hn2 : 0 ≤ n) (q : Nat) (hq : q < 18) (i : Nat) (hi : i < 5) (x0 : Int32) (C : Mem) (rR : Int32) (CR : Mem) (hF : F_X0_leaveFor q i x0 C = some (rR, CR)) : Ct l yX0_leaveFor cX0_leaveFor 2 none (rmN 0 0) G n C [.ref (bb G + (po q + (8 + i))), .int x0] none CR := by
  refine Ct.of (by decide) (Nat.le_of_ble_eq_true rfl) ?_
  intro p e s m below meth c ls hC hr hlk hw hl
  have hx := hC.1
  have hb := hC.2.1
  have hS : LW G s s.heap [] := va_S.rf
  have hl : lv_has ls 2 [(0, .ref (bb G + (po q + (8 + i)))), (1, .int x0)] := hl
  unfold F_X0_leaveFor at hF
  refine lv_aload_n hx hb dX0_leaveFor_0 rfl (lv_at hl 0 rfl) ?_
  refine lv_iload_n hx hb dX0_leaveFor_1 rfl (lv_at hl 1 rfl) ?_
  refine pX0_18 hC hw hS (by omega) hn2 hq hi dX0_leaveFor_2 (fun H locs hw hS _ => ?_)
  obtain ⟨C1, eC1, hF⟩ := nm_t hF
  have hw := Wd.cast eC1 hw
  refine lv_aload_n hx hb dX0_leaveFor_5 rfl (lv_at hl 0 rfl) ?_
  refine lv_iconst (v := 0) hx hb dX0_leaveFor_6 (by decide) ?_
  refine pX0_21 hC hw hS (by omega) hn2 hq hi dX0_leaveFor_7 (fun H locs hw hS _ => ?_)
  obtain ⟨C2, eC2, hF⟩ := nm_t hF
  have hw := Wd.cast eC2 hw
  exact m_vret hC hr hlk hw hS dX0_leaveFor_10 hF
set_option maxHeartbeats 4000000 in
set_option maxRecDepth 100000 in
theorem c_X0_work (l : Launch) (G : GG) (n : Nat) (hn : 244 ≤ n) (hn2 : 0 ≤ n) (q : Nat) (hq : q < 18) (i : Nat) (hi : i < 5) (C : Mem) (rR : Int32) (CR : Mem) (hF : F_X0_work q i C = some (rR, CR)) : Ct l yX0_work cX0_work 1 (some .int) (rmN 1 21) G n C [.ref (bb G + (po q + (8 + i)))] (some (.int rR)) CR := by
  refine Ct.of (by decide) (Nat.le_of_ble_eq_true rfl) ?_
  intro p e s m below meth c ls hC hr hlk hw hl
  have hx := hC.1
  have hb := hC.2.1
  have hS : LW G s s.heap [] := va_S.rf
  have hl : lv_has ls 1 [(0, .ref (bb G + (po q + (8 + i))))] := hl
  unfold F_X0_work at hF
  refine lv_aload_n hx hb dX0_work_0 rfl (lv_at hl 0 rfl) ?_
  refine gX0_18 hC hw (by omega) hq hi dX0_work_1 ?_
  by_cases h1 : (C q (30 + 7 * i + 2)) = (1 : Int32)
  · have hF := it_t h1 hF
    refine lv_tableIn (tgt := 32) (off := 28) hx hb dX0_work_4 (by rw [h1]; decide) (by rw [h1]; decide) (by rw [h1]; rfl) (by decide) ?_
    refine lv_aload_n hx hb dX0_work_32 rfl (lv_at hl 0 rfl) ?_
    refine lv_dup hx hb dX0_work_33 rfl ?_
    refine gX0_21 hC hw (by omega) hq hi dX0_work_34 ?_
    refine lv_iconst (v := 1) hx hb dX0_work_37 (by decide) ?_
    refine lv_isub hx hb dX0_work_38 ?_
    refine pX0_21 hC hw hS (by omega) hn2 hq hi dX0_work_39 (fun H locs hw hS _ => ?_)
    obtain ⟨C4, eC4, hF⟩ := nm_t hF
    have hw := Wd.cast eC4 hw
    refine lv_aload_n hx hb dX0_work_42 rfl (lv_at hl 0 rfl) ?_
    refine gX0_21 hC hw (by omega) hq hi dX0_work_43 ?_
    refine lv_if_gt (tgt := 54) hx hb dX0_work_46 (by decide) (fun h5 => ?_) (fun h5 => ?_)
    · have hF := it_t h5 hF
      refine lv_iconst (v := 0) hx hb dX0_work_54 (by decide) ?_
      exact m_iret hC hr hlk hw hS dX0_work_55 hF
    · have hF := it_f h5 hF
      refine lv_aload_n hx hb dX0_work_49 rfl (lv_at hl 0 rfl) ?_
      refine lv_iconst (v := 2) hx hb dX0_work_50 (by decide) ?_
      obtain ⟨r6, C7, hc8, hF⟩ := b2_t hF
      refine call_Vv hC (c_X0_leaveFor l G n (by omega) hn2 q hq i hi (2 : Int32) _ _ _ hc8) wvX0_33 ⟨rfl, rfl, by decide, by decide⟩ hw hS (by have := po_lt hq; have := hi; omega) (ca_boiler hq hi) rfl hl.1 rfl (rest := []) rfl (Nat.le_of_ble_eq_true rfl) dX0_work_51 ⟨by decide, by decide⟩ (fun H locs hw hS _ => ?_)
      refine lv_iconst (v := 0) hx hb dX0_work_54 (by decide) ?_
      exact m_iret hC hr hlk hw hS dX0_work_55 hF
  have hF := it_f h1 hF
  by_cases h2 : (C q (30 + 7 * i + 2)) = (2 : Int32)
  · have hF := it_t h2 hF
    refine lv_tableIn (tgt := 56) (off := 52) hx hb dX0_work_4 (by rw [h2]; decide) (by rw [h2]; decide) (by rw [h2]; rfl) (by decide) ?_
    refine lv_aload_n hx hb dX0_work_56 rfl (lv_at hl 0 rfl) ?_
    refine lv_dup hx hb dX0_work_57 rfl ?_
    refine gX0_24 hC hw (by omega) hq hi dX0_work_58 ?_
    refine lv_iconst (v := 1) hx hb dX0_work_61 (by decide) ?_
    refine lv_iadd hx hb dX0_work_62 ?_
    refine pX0_24 hC hw hS (by omega) hn2 hq hi dX0_work_63 (fun H locs hw hS _ => ?_)
    obtain ⟨C9, eC9, hF⟩ := nm_t hF
    have hw := Wd.cast eC9 hw
    refine lv_aload_n hx hb dX0_work_66 rfl (lv_at hl 0 rfl) ?_
    refine lv_dup hx hb dX0_work_67 rfl ?_
    refine gX0_30 hC hw (by omega) hq hi dX0_work_68 ?_
    refine lv_aload_n hx hb dX0_work_71 rfl (lv_at hl 0 rfl) ?_
    refine gX0_9 hC hw (by omega) hq hi dX0_work_72 ?_
    refine lv_iadd hx hb dX0_work_75 ?_
    refine pX0_30 hC hw hS (by omega) hn2 hq hi dX0_work_76 (fun H locs hw hS _ => ?_)
    obtain ⟨C10, eC10, hF⟩ := nm_t hF
    have hw := Wd.cast eC10 hw
    refine lv_aload_n hx hb dX0_work_79 rfl (lv_at hl 0 rfl) ?_
    refine gX0_9 hC hw (by omega) hq hi dX0_work_80 ?_
    exact m_iret hC hr hlk hw hS dX0_work_83 hF
  have hF := it_f h2 hF
  by_cases h3 : (C q (30 + 7 * i + 2)) = (3 : Int32)
  · have hF := it_t h3 hF
    refine lv_tableIn (tgt := 84) (off := 80) hx hb dX0_work_4 (by rw [h3]; decide) (by rw [h3]; decide) (by rw [h3]; rfl) (by decide) ?_
    refine lv_aload_n hx hb dX0_work_84 rfl (lv_at hl 0 rfl) ?_
    refine lv_dup hx hb dX0_work_85 rfl ?_
    refine gX0_30 hC hw (by omega) hq hi dX0_work_86 ?_
    refine lv_iconst (v := 1) hx hb dX0_work_89 (by decide) ?_
    refine lv_iadd hx hb dX0_work_90 ?_
    refine pX0_30 hC hw hS (by omega) hn2 hq hi dX0_work_91 (fun H locs hw hS _ => ?_)
    obtain ⟨C11, eC11, hF⟩ := nm_t hF
    have hw := Wd.cast eC11 hw
    refine lv_iconst (v := 0) hx hb dX0_work_94 (by decide) ?_
    exact m_iret hC hr hlk hw hS dX0_work_95 hF
  have hF := it_f h3 hF
  refine lv_tableOut (tgt := 96) hx hb dX0_work_4 (sw_out (fun k ka kb kc => by (have kd : k = 1 ∨ k = 2 ∨ k = 3 := by omega); exact kd.elim (fun kd => by subst kd; exact lv_neT h1 (by decide) kc) (fun kd => kd.elim (fun kd => by subst kd; exact lv_neT h2 (by decide) kc) (fun kd => (by subst kd; exact lv_neT h3 (by decide) kc))))) (by decide) ?_
  refine lv_iconst (v := 0) hx hb dX0_work_96 (by decide) ?_
  exact m_iret hC hr hlk hw hS dX0_work_97 hF
set_option maxHeartbeats 4000000 in
set_option maxRecDepth 100000 in
theorem c_X1_beginAs (l : Launch) (G : GG) (n : Nat) (hn : 244 ≤ n) (hn2 : 0 ≤ n) (q : Nat) (hq : q < 18) (f : Nat) (hf : f < 2) (x0 : Int32) (C : Mem) (rR : Int32) (CR : Mem) (hF : F_X1_beginAs q f x0 C = some (rR, CR)) : Ct l yX1_beginAs cX1_beginAs 2 none (rmN 0 0) G n C [.ref (bb G + (po q + (2 + f))), .int x0] none CR := by
  refine Ct.of (by decide) (Nat.le_of_ble_eq_true rfl) ?_
  intro p e s m below meth c ls hC hr hlk hw hl
  have hx := hC.1
  have hb := hC.2.1
  have hS : LW G s s.heap [] := va_S.rf
  have hl : lv_has ls 2 [(0, .ref (bb G + (po q + (2 + f)))), (1, .int x0)] := hl
  unfold F_X1_beginAs at hF
  refine lv_aload_n hx hb dX1_beginAs_0 rfl (lv_at hl 0 rfl) ?_
  refine lv_iload_n hx hb dX1_beginAs_1 rfl (lv_at hl 1 rfl) ?_
  refine pX1_7 hC hw hS (by omega) hn2 hq hf dX1_beginAs_2 (fun H locs hw hS _ => ?_)
  obtain ⟨C1, eC1, hF⟩ := nm_t hF
  have hw := Wd.cast eC1 hw
  refine lv_aload_n hx hb dX1_beginAs_5 rfl (lv_at hl 0 rfl) ?_
  refine lv_iconst (v := 1) hx hb dX1_beginAs_6 (by decide) ?_
  refine pX1_13 hC hw hS (by omega) hn2 hq hf (by decide) dX1_beginAs_7 (fun H locs hw hS _ => ?_)
  obtain ⟨C2, eC2, hF⟩ := nm_t hF
  have hw := Wd.cast eC2 hw
  exact m_vret hC hr hlk hw hS dX1_beginAs_10 hF
set_option maxHeartbeats 4000000 in
set_option maxRecDepth 100000 in
theorem c_X1_copyFrom (l : Launch) (G : GG) (n : Nat) (hn : 244 ≤ n) (hn2 : 0 ≤ n) (q : Nat) (hq : q < 18) (f : Nat) (hf : f < 2) (q0 : Nat) (hq0 : q0 < 18) (f0 : Nat) (hf0 : f0 < 2) (C : Mem) (rR : Int32) (CR : Mem) (hF : F_X1_copyFrom q f q0 f0 C = some (rR, CR)) : Ct l yX1_copyFrom cX1_copyFrom 2 none (rmN 0 0) G n C [.ref (bb G + (po q + (2 + f))), .ref (bb G + (po q0 + (2 + f0)))] none CR := by
  refine Ct.of (by decide) (Nat.le_of_ble_eq_true rfl) ?_
  intro p e s m below meth c ls hC hr hlk hw hl
  have hx := hC.1
  have hb := hC.2.1
  have hS : LW G s s.heap [] := va_S.rf
  have hl : lv_has ls 2 [(0, .ref (bb G + (po q + (2 + f)))), (1, .ref (bb G + (po q0 + (2 + f0))))] := hl
  unfold F_X1_copyFrom at hF
  refine lv_aload_n hx hb dX1_copyFrom_0 rfl (lv_at hl 0 rfl) ?_
  refine lv_aload_n hx hb dX1_copyFrom_1 rfl (lv_at hl 1 rfl) ?_
  refine gX1_7 hC hw (by omega) hq0 hf0 dX1_copyFrom_2 ?_
  refine pX1_7 hC hw hS (by omega) hn2 hq hf dX1_copyFrom_5 (fun H locs hw hS _ => ?_)
  obtain ⟨C1, eC1, hF⟩ := nm_t hF
  have hw := Wd.cast eC1 hw
  refine lv_aload_n hx hb dX1_copyFrom_8 rfl (lv_at hl 0 rfl) ?_
  refine lv_aload_n hx hb dX1_copyFrom_9 rfl (lv_at hl 1 rfl) ?_
  refine gX1_13 hC hw (by omega) hq0 hf0 dX1_copyFrom_10 ?_
  obtain ⟨g2, hF⟩ := gb_t hF
  refine pX1_13 hC hw hS (by omega) hn2 hq hf g2 dX1_copyFrom_13 (fun H locs hw hS _ => ?_)
  obtain ⟨C3, eC3, hF⟩ := nm_t hF
  have hw := Wd.cast eC3 hw
  exact m_vret hC hr hlk hw hS dX1_copyFrom_16 hF
set_option maxHeartbeats 4000000 in
set_option maxRecDepth 100000 in
theorem c_X3_end (l : Launch) (G : GG) (n : Nat) (hn : 244 ≤ n) (hn2 : 0 ≤ n) (q : Nat) (hq : q < 18) (C : Mem) (rR : Int32) (CR : Mem) (hF : F_X3_end q C = some (rR, CR)) : Ct l yX3_end cX3_end 1 none (rmN 0 0) G n C [.ref (bb G + (po q + 7))] none CR := by
  refine Ct.of (by decide) (Nat.le_of_ble_eq_true rfl) ?_
  intro p e s m below meth c ls hC hr hlk hw hl
  have hx := hC.1
  have hb := hC.2.1
  have hS : LW G s s.heap [] := va_S.rf
  have hl : lv_has ls 1 [(0, .ref (bb G + (po q + 7)))] := hl
  unfold F_X3_end at hF
  refine lv_aload_n hx hb dX3_end_0 rfl (lv_at hl 0 rfl) ?_
  refine lv_iconst (v := 0) hx hb dX3_end_1 (by decide) ?_
  refine pX3_21 hC hw hS (by omega) hn2 hq (by decide) dX3_end_2 (fun H locs hw hS _ => ?_)
  obtain ⟨C1, eC1, hF⟩ := nm_t hF
  have hw := Wd.cast eC1 hw
  refine lv_aload_n hx hb dX3_end_5 rfl (lv_at hl 0 rfl) ?_
  refine lv_iconst (v := 0) hx hb dX3_end_6 (by decide) ?_
  refine pX3_25 hC hw hS (by omega) hn2 hq dX3_end_7 (fun H locs hw hS _ => ?_)
  obtain ⟨C2, eC2, hF⟩ := nm_t hF
  have hw := Wd.cast eC2 hw
  refine lv_aload_n hx hb dX3_end_10 rfl (lv_at hl 0 rfl) ?_
  refine lv_iconst (v := 0) hx hb dX3_end_11 (by decide) ?_
  refine pX3_28 hC hw hS (by omega) hn2 hq dX3_end_12 (fun H locs hw hS _ => ?_)
  obtain ⟨C3, eC3, hF⟩ := nm_t hF
  have hw := Wd.cast eC3 hw
  exact m_vret hC hr hlk hw hS dX3_end_15 hF
set_option maxHeartbeats 4000000 in
set_option maxRecDepth 100000 in
theorem c_X3_beginAsNew (l : Launch) (G : GG) (n : Nat) (hn : 244 ≤ n) (hn2 : 0 ≤ n) (q : Nat) (hq : q < 18) (C : Mem) (rR : Int32) (CR : Mem) (hF : F_X3_beginAsNew q C = some (rR, CR)) : Ct l yX3_beginAsNew cX3_beginAsNew 1 none (rmN 1 20) G n C [.ref (bb G + (po q + 7))] none CR := by
  refine Ct.of (by decide) (Nat.le_of_ble_eq_true rfl) ?_
  intro p e s m below meth c ls hC hr hlk hw hl
  have hx := hC.1
  have hb := hC.2.1
  have hS : LW G s s.heap [] := va_S.rf
  have hl : lv_has ls 1 [(0, .ref (bb G + (po q + 7)))] := hl
  unfold F_X3_beginAsNew at hF
  refine lv_aload_n hx hb dX3_beginAsNew_0 rfl (lv_at hl 0 rfl) ?_
  refine lv_iconst (v := 0) hx hb dX3_beginAsNew_1 (by decide) ?_
  refine pX3_9 hC hw hS (by omega) hn2 hq dX3_beginAsNew_2 (fun H locs hw hS _ => ?_)
  obtain ⟨C1, eC1, hF⟩ := nm_t hF
  have hw := Wd.cast eC1 hw
  refine lv_aload_n hx hb dX3_beginAsNew_5 rfl (lv_at hl 0 rfl) ?_
  refine lv_iconst (v := 0) hx hb dX3_beginAsNew_6 (by decide) ?_
  refine pX3_15 hC hw hS (by omega) hn2 hq dX3_beginAsNew_7 (fun H locs hw hS _ => ?_)
  obtain ⟨C2, eC2, hF⟩ := nm_t hF
  have hw := Wd.cast eC2 hw
  refine lv_aload_n hx hb dX3_beginAsNew_10 rfl (lv_at hl 0 rfl) ?_
  obtain ⟨r3, C4, hc5, hF⟩ := b2_t hF
  refine call_Vv hC (c_X3_end l G n (by omega) hn2 q hq _ _ _ hc5) wvX3_18 ⟨rfl, rfl, by decide, by decide⟩ hw hS (by have := po_lt hq; omega) (ca_kill hq) rfl hl.1 rfl (rest := []) rfl (Nat.le_of_ble_eq_true rfl) dX3_beginAsNew_11 ⟨by decide, by decide⟩ (fun H locs hw hS _ => ?_)
  exact m_vret hC hr hlk hw hS dX3_beginAsNew_14 hF
set_option maxHeartbeats 4000000 in
set_option maxRecDepth 100000 in
theorem c_X3_copyFrom (l : Launch) (G : GG) (n : Nat) (hn : 244 ≤ n) (hn2 : 0 ≤ n) (q : Nat) (hq : q < 18) (q0 : Nat) (hq0 : q0 < 18) (C : Mem) (rR : Int32) (CR : Mem) (hF : F_X3_copyFrom q q0 C = some (rR, CR)) : Ct l yX3_copyFrom cX3_copyFrom 2 none (rmN 0 0) G n C [.ref (bb G + (po q + 7)), .ref (bb G + (po q0 + 7))] none CR := by
  refine Ct.of (by decide) (Nat.le_of_ble_eq_true rfl) ?_
  intro p e s m below meth c ls hC hr hlk hw hl
  have hx := hC.1
  have hb := hC.2.1
  have hS : LW G s s.heap [] := va_S.rf
  have hl : lv_has ls 2 [(0, .ref (bb G + (po q + 7))), (1, .ref (bb G + (po q0 + 7)))] := hl
  unfold F_X3_copyFrom at hF
  refine lv_aload_n hx hb dX3_copyFrom_0 rfl (lv_at hl 0 rfl) ?_
  refine lv_aload_n hx hb dX3_copyFrom_1 rfl (lv_at hl 1 rfl) ?_
  refine gX3_21 hC hw (by omega) hq0 dX3_copyFrom_2 ?_
  obtain ⟨g1, hF⟩ := gb_t hF
  refine pX3_21 hC hw hS (by omega) hn2 hq g1 dX3_copyFrom_5 (fun H locs hw hS _ => ?_)
  obtain ⟨C2, eC2, hF⟩ := nm_t hF
  have hw := Wd.cast eC2 hw
  refine lv_aload_n hx hb dX3_copyFrom_8 rfl (lv_at hl 0 rfl) ?_
  refine lv_aload_n hx hb dX3_copyFrom_9 rfl (lv_at hl 1 rfl) ?_
  refine gX3_25 hC hw (by omega) hq0 dX3_copyFrom_10 ?_
  refine pX3_25 hC hw hS (by omega) hn2 hq dX3_copyFrom_13 (fun H locs hw hS _ => ?_)
  obtain ⟨C3, eC3, hF⟩ := nm_t hF
  have hw := Wd.cast eC3 hw
  refine lv_aload_n hx hb dX3_copyFrom_16 rfl (lv_at hl 0 rfl) ?_
  refine lv_aload_n hx hb dX3_copyFrom_17 rfl (lv_at hl 1 rfl) ?_
  refine gX3_28 hC hw (by omega) hq0 dX3_copyFrom_18 ?_
  refine pX3_28 hC hw hS (by omega) hn2 hq dX3_copyFrom_21 (fun H locs hw hS _ => ?_)
  obtain ⟨C4, eC4, hF⟩ := nm_t hF
  have hw := Wd.cast eC4 hw
  refine lv_aload_n hx hb dX3_copyFrom_24 rfl (lv_at hl 0 rfl) ?_
  refine lv_aload_n hx hb dX3_copyFrom_25 rfl (lv_at hl 1 rfl) ?_
  refine gX3_9 hC hw (by omega) hq0 dX3_copyFrom_26 ?_
  refine pX3_9 hC hw hS (by omega) hn2 hq dX3_copyFrom_29 (fun H locs hw hS _ => ?_)
  obtain ⟨C5, eC5, hF⟩ := nm_t hF
  have hw := Wd.cast eC5 hw
  refine lv_aload_n hx hb dX3_copyFrom_32 rfl (lv_at hl 0 rfl) ?_
  refine lv_aload_n hx hb dX3_copyFrom_33 rfl (lv_at hl 1 rfl) ?_
  refine gX3_15 hC hw (by omega) hq0 dX3_copyFrom_34 ?_
  refine pX3_15 hC hw hS (by omega) hn2 hq dX3_copyFrom_37 (fun H locs hw hS _ => ?_)
  obtain ⟨C6, eC6, hF⟩ := nm_t hF
  have hw := Wd.cast eC6 hw
  exact m_vret hC hr hlk hw hS dX3_copyFrom_40 hF
set_option maxHeartbeats 4000000 in
set_option maxRecDepth 100000 in
theorem c_X3_countTick (l : Launch) (G : GG) (n : Nat) (hn : 244 ≤ n) (hn2 : 0 ≤ n) (q : Nat) (hq : q < 18) (x0 : Int32) (x1 : Int32) (C : Mem) (rR : Int32) (CR : Mem) (hF : F_X3_countTick q x0 x1 C = some (rR, CR)) : Ct l yX3_countTick cX3_countTick 3 none (rmN 1 20) G n C [.ref (bb G + (po q + 7)), .int x0, .int x1] none CR := by
  refine Ct.of (by decide) (Nat.le_of_ble_eq_true rfl) ?_
  intro p e s m below meth c ls hC hr hlk hw hl
  have hx := hC.1
  have hb := hC.2.1
  have hS : LW G s s.heap [] := va_S.rf
  have hl : lv_has ls 3 [(0, .ref (bb G + (po q + 7))), (1, .int x0), (2, .int x1)] := hl
  unfold F_X3_countTick at hF
  refine lv_aload_n hx hb dX3_countTick_0 rfl (lv_at hl 0 rfl) ?_
  refine gX3_21 hC hw (by omega) hq dX3_countTick_1 ?_
  refine lv_if_ne (tgt := 8) hx hb dX3_countTick_4 (by decide) (fun h1 => ?_) (fun h1 => ?_)
  · have hF := it_f h1 hF
    refine lv_aload_n hx hb dX3_countTick_8 rfl (lv_at hl 0 rfl) ?_
    refine lv_dup hx hb dX3_countTick_9 rfl ?_
    refine gX3_28 hC hw (by omega) hq dX3_countTick_10 ?_
    refine lv_iconst (v := 1) hx hb dX3_countTick_13 (by decide) ?_
    refine lv_iadd hx hb dX3_countTick_14 ?_
    refine pX3_28 hC hw hS (by omega) hn2 hq dX3_countTick_15 (fun H locs hw hS _ => ?_)
    obtain ⟨C2, eC2, hF⟩ := nm_t hF
    have hw := Wd.cast eC2 hw
    refine lv_aload_n hx hb dX3_countTick_18 rfl (lv_at hl 0 rfl) ?_
    refine lv_iload_n hx hb dX3_countTick_19 rfl (lv_at hl 1 rfl) ?_
    have hJ33 : ∀ (v4 : Int32) (H : Heap) (locs : List Loc) (ls : Array Slot), J_X3_countTick_33 q x1 C2 v4 = some (rR, CR) → Wd G n C2 H → LW G s H locs → lv_has ls 3 [(0, .ref (bb G + (po q + 7))), (2, .int x1)] → W p l e (rmN 1 20) s m ([.ref (bb G + (po q + 7)), .int x0, .int x1] : List Value).toArray below meth c H locs 0 0 (MQ below (QR G n none CR) ([.ref (bb G + (po q + 7)), .int x0, .int x1] : List Value).toArray s 0 0 (frA G)) (F0 m 33 ls [.int v4, .ref (bb G + (po q + 7))]) := by
      intro v4 H locs ls hF hw hS hl
      unfold J_X3_countTick_33 at hF
      refine pX3_25 hC hw hS (by omega) hn2 hq dX3_countTick_33 (fun H locs hw hS _ => ?_)
      obtain ⟨C5, eC5, hF⟩ := nm_t hF
      have hw := Wd.cast eC5 hw
      refine lv_aload_n hx hb dX3_countTick_36 rfl (lv_at hl 0 rfl) ?_
      refine gX3_25 hC hw (by omega) hq dX3_countTick_37 ?_
      refine lv_iload_n hx hb dX3_countTick_40 rfl (lv_at hl 1 rfl) ?_
      refine lv_icmp_lt (tgt := 61) hx hb dX3_countTick_41 (by decide) (fun h6 => ?_) (fun h6 => ?_)
      · have hF := it_t h6 hF
        refine lv_aload_n hx hb dX3_countTick_61 rfl (lv_at hl 0 rfl) ?_
        refine gX3_28 hC hw (by omega) hq dX3_countTick_62 ?_
        refine lv_bipush (v := 12) hx hb dX3_countTick_65 (by decide) ?_
        refine lv_icmp_lt (tgt := 84) hx hb dX3_countTick_67 (by decide) (fun h7 => ?_) (fun h7 => ?_)
        · have hF := it_t h7 hF
          exact m_vret hC hr hlk hw hS dX3_countTick_84 hF
        · have hF := it_f h7 hF
          refine lv_aload_n hx hb dX3_countTick_70 rfl (lv_at hl 0 rfl) ?_
          refine lv_dup hx hb dX3_countTick_71 rfl ?_
          refine gX3_15 hC hw (by omega) hq dX3_countTick_72 ?_
          refine lv_iconst (v := 1) hx hb dX3_countTick_75 (by decide) ?_
          refine lv_iadd hx hb dX3_countTick_76 ?_
          refine pX3_15 hC hw hS (by omega) hn2 hq dX3_countTick_77 (fun H locs hw hS _ => ?_)
          obtain ⟨C8, eC8, hF⟩ := nm_t hF
          have hw := Wd.cast eC8 hw
          refine lv_aload_n hx hb dX3_countTick_80 rfl (lv_at hl 0 rfl) ?_
          obtain ⟨r9, C10, hc11, hF⟩ := b2_t hF
          refine call_Vv hC (c_X3_end l G n (by omega) hn2 q hq _ _ _ hc11) wvX3_18 ⟨rfl, rfl, by decide, by decide⟩ hw hS (by have := po_lt hq; omega) (ca_kill hq) rfl hl.1 rfl (rest := []) rfl (Nat.le_of_ble_eq_true rfl) dX3_countTick_81 ⟨by decide, by decide⟩ (fun H locs hw hS _ => ?_)
          exact m_vret hC hr hlk hw hS dX3_countTick_84 hF
      · have hF := it_f h6 hF
        refine lv_aload_n hx hb dX3_countTick_44 rfl (lv_at hl 0 rfl) ?_
        refine lv_dup hx hb dX3_countTick_45 rfl ?_
        refine gX3_9 hC hw (by omega) hq dX3_countTick_46 ?_
        refine lv_iconst (v := 1) hx hb dX3_countTick_49 (by decide) ?_
        refine lv_iadd hx hb dX3_countTick_50 ?_
        refine pX3_9 hC hw hS (by omega) hn2 hq dX3_countTick_51 (fun H locs hw hS _ => ?_)
        obtain ⟨C12, eC12, hF⟩ := nm_t hF
        have hw := Wd.cast eC12 hw
        refine lv_aload_n hx hb dX3_countTick_54 rfl (lv_at hl 0 rfl) ?_
        obtain ⟨r13, C14, hc15, hF⟩ := b2_t hF
        refine call_Vv hC (c_X3_end l G n (by omega) hn2 q hq _ _ _ hc15) wvX3_18 ⟨rfl, rfl, by decide, by decide⟩ hw hS (by have := po_lt hq; omega) (ca_kill hq) rfl hl.1 rfl (rest := []) rfl (Nat.le_of_ble_eq_true rfl) dX3_countTick_55 ⟨by decide, by decide⟩ (fun H locs hw hS _ => ?_)
        refine lv_goto (tgt := 84) hx hb dX3_countTick_58 (by decide) ?_
        exact m_vret hC hr hlk hw hS dX3_countTick_84 hF
    refine lv_if_eq (tgt := 32) hx hb dX3_countTick_20 (by decide) (fun h3 => ?_) (fun h3 => ?_)
    · have hF := it_t h3 hF
      refine lv_iconst (v := 0) hx hb dX3_countTick_32 (by decide) ?_
      exact hJ33 (0 : Int32) _ _ _ hF hw hS (lv_sub hl [0, 2] rfl)
    · have hF := it_f h3 hF
      refine lv_aload_n hx hb dX3_countTick_23 rfl (lv_at hl 0 rfl) ?_
      refine gX3_25 hC hw (by omega) hq dX3_countTick_24 ?_
      refine lv_iconst (v := 1) hx hb dX3_countTick_27 (by decide) ?_
      refine lv_iadd hx hb dX3_countTick_28 ?_
      refine lv_goto (tgt := 33) hx hb dX3_countTick_29 (by decide) ?_
      exact hJ33 ((C2 q 9) + (1 : Int32)) _ _ _ hF hw hS (lv_sub hl [0, 2] rfl)
  · have hF := it_t h1 hF
    exact m_vret hC hr hlk hw hS dX3_countTick_7 hF
set_option maxHeartbeats 4000000 in
set_option maxRecDepth 100000 in
theorem c_X7_beginAs (l : Launch) (G : GG) (n : Nat) (hn : 244 ≤ n) (hn2 : 0 ≤ n) (q : Nat) (hq : q < 18) (x0 : Int32) (C : Mem) (rR : Int32) (CR : Mem) (hF : F_X7_beginAs q x0 C = some (rR, CR)) : Ct l yX7_beginAs cX7_beginAs 4 none (rmN 1 21) G n C [.ref (bb G + (po q + 5)), .int x0, .ref (bb G + 5)] none CR := by
  refine Ct.of (by decide) (Nat.le_of_ble_eq_true rfl) ?_
  intro p e s m below meth c ls hC hr hlk hw hl
  have hx := hC.1
  have hb := hC.2.1
  have hS : LW G s s.heap [] := va_S.rf
  have hl : lv_has ls 4 [(0, .ref (bb G + (po q + 5))), (1, .int x0), (2, .ref (bb G + 5))] := hl
  unfold F_X7_beginAs at hF
  refine lv_aload_n hx hb dX7_beginAs_0 rfl (lv_at hl 0 rfl) ?_
  refine lv_iload_n hx hb dX7_beginAs_1 rfl (lv_at hl 1 rfl) ?_
  refine lv_aload_n hx hb dX7_beginAs_2 rfl (lv_at hl 0 rfl) ?_
  refine gX7_9 hC hw (by omega) hq dX7_beginAs_3 ?_
  refine m_alen hC hw (t0 := 0) (by have := po_lt hq; omega) (ca_temps hq) rfl (v := 8) rfl dX7_beginAs_6 ?_
  refine lv_aload_n hx hb dX7_beginAs_7 rfl (lv_at hl 2 rfl) ?_
  refine m_alen hC hw (t0 := 0) (by omega) ca_ptemps rfl (v := 8) rfl dX7_beginAs_8 ?_
  refine va_mmin hx hb (hC.2.2.1.trans hl.1.symm) hC.2.2.2.1 (hC.2.2.2.2.1 _ kM_min_X7_15) (hC.2.2.2.2.1 _ kM_min.1) (hC.2.2.2.2.1 _ kM_min.2.1) (hC.2.2.2.2.1 _ kM_min.2.2) (by decide) (Nat.le_of_ble_eq_true rfl) (by decide) (by decide) dX7_beginAs_9 ?_
  refine va_mmin hx hb (hC.2.2.1.trans hl.1.symm) hC.2.2.2.1 (hC.2.2.2.2.1 _ kM_min_X7_15) (hC.2.2.2.2.1 _ kM_min.1) (hC.2.2.2.2.1 _ kM_min.2.1) (hC.2.2.2.2.1 _ kM_min.2.2) (by decide) (Nat.le_of_ble_eq_true rfl) (by decide) (by decide) dX7_beginAs_12 ?_
  refine pX7_21 hC hw hS (by omega) hn2 hq dX7_beginAs_15 (fun H locs hw hS _ => ?_)
  obtain ⟨C1, eC1, hF⟩ := nm_t hF
  have hw := Wd.cast eC1 hw
  refine lv_iconst (v := 0) hx hb dX7_beginAs_18 (by decide) ?_
  refine lv_istore_n (lv' := [(3, .int (0 : Int32)), (0, .ref (bb G + (po q + 5))), (1, .int x0), (2, .ref (bb G + 5))]) hx hb dX7_beginAs_19 rfl hl (by decide) rfl (fun ls hl => ?_)
  obtain ⟨o4, hit4, hG4⟩ := b1_t hF
  have hR4 : ∀ (v5 : Int32) (C6 : Mem) (H : Heap) (locs : List Loc) (ls : Array Slot), o4 = (v5, C6) → Wd G n C6 H → LW G s H locs → lv_has ls 4 [(0, .ref (bb G + (po q + 5)))] → W p l e (rmN 1 21) s m ([.ref (bb G + (po q + 5)), .int x0, .ref (bb G + 5)] : List Value).toArray below meth c H locs 0 0 (MQ below (QR G n none CR) ([.ref (bb G + (po q + 5)), .int x0, .ref (bb G + 5)] : List Value).toArray s 0 0 (frA G)) (F0 m 43 ls []) := by
    intro v5 C6 H locs ls hE hw hS hl
    subst hE
    have hF := u2_t (hG4)
    refine lv_aload_n hx hb dX7_beginAs_43 rfl (lv_at hl 0 rfl) ?_
    refine lv_iconst (v := 0) hx hb dX7_beginAs_44 (by decide) ?_
    refine pX7_25 hC hw hS (by omega) hn2 hq dX7_beginAs_45 (fun H locs hw hS _ => ?_)
    obtain ⟨C12, eC12, hF⟩ := nm_t hF
    have hw := Wd.cast eC12 hw
    refine lv_aload_n hx hb dX7_beginAs_48 rfl (lv_at hl 0 rfl) ?_
    refine lv_iconst (v := 0) hx hb dX7_beginAs_49 (by decide) ?_
    refine pX7_28 hC hw hS (by omega) hn2 hq dX7_beginAs_50 (fun H locs hw hS _ => ?_)
    obtain ⟨C13, eC13, hF⟩ := nm_t hF
    have hw := Wd.cast eC13 hw
    refine lv_aload_n hx hb dX7_beginAs_53 rfl (lv_at hl 0 rfl) ?_
    refine lv_iconst (v := 0) hx hb dX7_beginAs_54 (by decide) ?_
    refine pX7_31 hC hw hS (by omega) hn2 hq dX7_beginAs_55 (fun H locs hw hS _ => ?_)
    obtain ⟨C14, eC14, hF⟩ := nm_t hF
    have hw := Wd.cast eC14 hw
    refine lv_aload_n hx hb dX7_beginAs_58 rfl (lv_at hl 0 rfl) ?_
    refine lv_iconst (v := 0) hx hb dX7_beginAs_59 (by decide) ?_
    refine pX7_34 hC hw hS (by omega) hn2 hq dX7_beginAs_60 (fun H locs hw hS _ => ?_)
    obtain ⟨C15, eC15, hF⟩ := nm_t hF
    have hw := Wd.cast eC15 hw
    refine lv_aload_n hx hb dX7_beginAs_63 rfl (lv_at hl 0 rfl) ?_
    refine lv_iconst (v := 0) hx hb dX7_beginAs_64 (by decide) ?_
    refine pX7_37 hC hw hS (by omega) hn2 hq dX7_beginAs_65 (fun H locs hw hS _ => ?_)
    obtain ⟨C16, eC16, hF⟩ := nm_t hF
    have hw := Wd.cast eC16 hw
    exact m_vret hC hr hlk hw hS dX7_beginAs_68 hF
  refine iter_sound (P := fun x : Int32 × Mem => ∀ (H : Heap) (locs : List Loc) (ls : Array Slot), Wd G n x.2 H → LW G s H locs → lv_has ls 4 [(0, .ref (bb G + (po q + 5))), (2, .ref (bb G + 5)), (3, .int x.1)] → W p l e (rmN 1 21) s m ([.ref (bb G + (po q + 5)), .int x0, .ref (bb G + 5)] : List Value).toArray below meth c H locs 0 0 (MQ below (QR G n none CR) ([.ref (bb G + (po q + 5)), .int x0, .ref (bb G + 5)] : List Value).toArray s 0 0 (frA G)) (F0 m 20 ls [])) (X := fun r => r = o4) ?_ fuel ((0 : Int32), C1) o4 hit4 rfl _ _ _ hw hS (lv_sub hl [1, 3, 0] rfl)
  intro x oo4 hF hk4 hX4 H locs ls hw hS hl
  obtain ⟨v2, C3⟩ := x
  have hF : S_X7_beginAs_20 q v2 C3 = some oo4 := hF
  have hw : Wd G n C3 H := hw
  have hl : lv_has ls 4 [(0, .ref (bb G + (po q + 5))), (2, .ref (bb G + 5)), (3, .int v2)] := hl
  unfold S_X7_beginAs_20 at hF
  refine lv_iload_n hx hb dX7_beginAs_20 rfl (lv_at hl 2 rfl) ?_
  refine lv_aload_n hx hb dX7_beginAs_21 rfl (lv_at hl 0 rfl) ?_
  refine gX7_21 hC hw (by omega) hq dX7_beginAs_22 ?_
  refine lv_icmp_ge (tgt := 43) hx hb dX7_beginAs_25 (by decide) (fun h7 => ?_) (fun h7 => ?_)
  · have hF := it_t h7 hF
    exact hR4 _ _ _ _ _ (it_exit hF hX4).symm hw hS (lv_sub hl [0] rfl)
  · have hF := it_f h7 hF
    refine lv_aload_n hx hb dX7_beginAs_28 rfl (lv_at hl 0 rfl) ?_
    refine gX7_9 hC hw (by omega) hq dX7_beginAs_29 ?_
    refine lv_iload_n hx hb dX7_beginAs_32 rfl (lv_at hl 2 rfl) ?_
    refine lv_aload_n hx hb dX7_beginAs_33 rfl (lv_at hl 1 rfl) ?_
    refine lv_iload_n hx hb dX7_beginAs_34 rfl (lv_at hl 2 rfl) ?_
    obtain ⟨g8, hF⟩ := gi_t hF
    refine ld_ptemps hC hw (by omega)  g8 dX7_beginAs_35 ?_
    obtain ⟨g9, hF⟩ := gi_t hF
    refine st_temps hC hw hS (by omega) hq g9 dX7_beginAs_36 (fun H locs hw hS _ => ?_)
    obtain ⟨C10, eC10, hF⟩ := nm_t hF
    have hw := Wd.cast eC10 hw
    obtain ⟨v11, ev11, hF⟩ := nm_t hF
    refine lv_iinc (v := v11) (lv' := [(3, .int v11), (0, .ref (bb G + (po q + 5))), (2, .ref (bb G + 5))]) hx hb dX7_beginAs_37 hl (k := 2) rfl (by rw [ev11]; rfl) (by decide) rfl (fun ls hl => ?_)
    refine lv_goto (tgt := 20) hx hb dX7_beginAs_40 (by decide) ?_
    exact it_back hF hk4 _ _ _ hw hS (lv_sub hl [1, 2, 0] rfl)
set_option maxHeartbeats 4000000 in
set_option maxRecDepth 100000 in
theorem c_X7_copyFrom (l : Launch) (G : GG) (n : Nat) (hn : 244 ≤ n) (hn2 : 0 ≤ n) (q : Nat) (hq : q < 18) (q0 : Nat) (hq0 : q0 < 18) (C : Mem) (rR : Int32) (CR : Mem) (hF : F_X7_copyFrom q q0 C = some (rR, CR)) : Ct l yX7_copyFrom cX7_copyFrom 3 none (rmN 0 0) G n C [.ref (bb G + (po q + 5)), .ref (bb G + (po q0 + 5))] none CR := by
  refine Ct.of (by decide) (Nat.le_of_ble_eq_true rfl) ?_
  intro p e s m below meth c ls hC hr hlk hw hl
  have hx := hC.1
  have hb := hC.2.1
  have hS : LW G s s.heap [] := va_S.rf
  have hl : lv_has ls 3 [(0, .ref (bb G + (po q + 5))), (1, .ref (bb G + (po q0 + 5)))] := hl
  unfold F_X7_copyFrom at hF
  refine lv_aload_n hx hb dX7_copyFrom_0 rfl (lv_at hl 0 rfl) ?_
  refine lv_aload_n hx hb dX7_copyFrom_1 rfl (lv_at hl 1 rfl) ?_
  refine gX7_21 hC hw (by omega) hq0 dX7_copyFrom_2 ?_
  refine pX7_21 hC hw hS (by omega) hn2 hq dX7_copyFrom_5 (fun H locs hw hS _ => ?_)
  obtain ⟨C1, eC1, hF⟩ := nm_t hF
  have hw := Wd.cast eC1 hw
  refine lv_iconst (v := 0) hx hb dX7_copyFrom_8 (by decide) ?_
  refine lv_istore_n (lv' := [(2, .int (0 : Int32)), (0, .ref (bb G + (po q + 5))), (1, .ref (bb G + (po q0 + 5)))]) hx hb dX7_copyFrom_9 rfl hl (by decide) rfl (fun ls hl => ?_)
  obtain ⟨o4, hit4, hG4⟩ := b1_t hF
  have hR4 : ∀ (v5 : Int32) (C6 : Mem) (H : Heap) (locs : List Loc) (ls : Array Slot), o4 = (v5, C6) → Wd G n C6 H → LW G s H locs → lv_has ls 3 [(0, .ref (bb G + (po q + 5))), (1, .ref (bb G + (po q0 + 5)))] → W p l e (rmN 0 0) s m ([.ref (bb G + (po q + 5)), .ref (bb G + (po q0 + 5))] : List Value).toArray below meth c H locs 0 0 (MQ below (QR G n none CR) ([.ref (bb G + (po q + 5)), .ref (bb G + (po q0 + 5))] : List Value).toArray s 0 0 (frA G)) (F0 m 36 ls []) := by
    intro v5 C6 H locs ls hE hw hS hl
    subst hE
    have hF := u2_t (hG4)
    refine lv_aload_n hx hb dX7_copyFrom_36 rfl (lv_at hl 0 rfl) ?_
    refine lv_aload_n hx hb dX7_copyFrom_37 rfl (lv_at hl 1 rfl) ?_
    refine gX7_25 hC hw (by omega) hq0 dX7_copyFrom_38 ?_
    refine pX7_25 hC hw hS (by omega) hn2 hq dX7_copyFrom_41 (fun H locs hw hS _ => ?_)
    obtain ⟨C12, eC12, hF⟩ := nm_t hF
    have hw := Wd.cast eC12 hw
    refine lv_aload_n hx hb dX7_copyFrom_44 rfl (lv_at hl 0 rfl) ?_
    refine lv_aload_n hx hb dX7_copyFrom_45 rfl (lv_at hl 1 rfl) ?_
    refine gX7_28 hC hw (by omega) hq0 dX7_copyFrom_46 ?_
    refine pX7_28 hC hw hS (by omega) hn2 hq dX7_copyFrom_49 (fun H locs hw hS _ => ?_)
    obtain ⟨C13, eC13, hF⟩ := nm_t hF
    have hw := Wd.cast eC13 hw
    refine lv_aload_n hx hb dX7_copyFrom_52 rfl (lv_at hl 0 rfl) ?_
    refine lv_aload_n hx hb dX7_copyFrom_53 rfl (lv_at hl 1 rfl) ?_
    refine gX7_31 hC hw (by omega) hq0 dX7_copyFrom_54 ?_
    refine pX7_31 hC hw hS (by omega) hn2 hq dX7_copyFrom_57 (fun H locs hw hS _ => ?_)
    obtain ⟨C14, eC14, hF⟩ := nm_t hF
    have hw := Wd.cast eC14 hw
    refine lv_aload_n hx hb dX7_copyFrom_60 rfl (lv_at hl 0 rfl) ?_
    refine lv_aload_n hx hb dX7_copyFrom_61 rfl (lv_at hl 1 rfl) ?_
    refine gX7_34 hC hw (by omega) hq0 dX7_copyFrom_62 ?_
    refine pX7_34 hC hw hS (by omega) hn2 hq dX7_copyFrom_65 (fun H locs hw hS _ => ?_)
    obtain ⟨C15, eC15, hF⟩ := nm_t hF
    have hw := Wd.cast eC15 hw
    refine lv_aload_n hx hb dX7_copyFrom_68 rfl (lv_at hl 0 rfl) ?_
    refine lv_aload_n hx hb dX7_copyFrom_69 rfl (lv_at hl 1 rfl) ?_
    refine gX7_37 hC hw (by omega) hq0 dX7_copyFrom_70 ?_
    refine pX7_37 hC hw hS (by omega) hn2 hq dX7_copyFrom_73 (fun H locs hw hS _ => ?_)
    obtain ⟨C16, eC16, hF⟩ := nm_t hF
    have hw := Wd.cast eC16 hw
    exact m_vret hC hr hlk hw hS dX7_copyFrom_76 hF
  refine iter_sound (P := fun x : Int32 × Mem => ∀ (H : Heap) (locs : List Loc) (ls : Array Slot), Wd G n x.2 H → LW G s H locs → lv_has ls 3 [(0, .ref (bb G + (po q + 5))), (1, .ref (bb G + (po q0 + 5))), (2, .int x.1)] → W p l e (rmN 0 0) s m ([.ref (bb G + (po q + 5)), .ref (bb G + (po q0 + 5))] : List Value).toArray below meth c H locs 0 0 (MQ below (QR G n none CR) ([.ref (bb G + (po q + 5)), .ref (bb G + (po q0 + 5))] : List Value).toArray s 0 0 (frA G)) (F0 m 10 ls [])) (X := fun r => r = o4) ?_ fuel ((0 : Int32), C1) o4 hit4 rfl _ _ _ hw hS (lv_sub hl [1, 2, 0] rfl)
  intro x oo4 hF hk4 hX4 H locs ls hw hS hl
  obtain ⟨v2, C3⟩ := x
  have hF : S_X7_copyFrom_10 q q0 v2 C3 = some oo4 := hF
  have hw : Wd G n C3 H := hw
  have hl : lv_has ls 3 [(0, .ref (bb G + (po q + 5))), (1, .ref (bb G + (po q0 + 5))), (2, .int v2)] := hl
  unfold S_X7_copyFrom_10 at hF
  refine lv_iload_n hx hb dX7_copyFrom_10 rfl (lv_at hl 2 rfl) ?_
  refine lv_aload_n hx hb dX7_copyFrom_11 rfl (lv_at hl 0 rfl) ?_
  refine gX7_21 hC hw (by omega) hq dX7_copyFrom_12 ?_
  refine lv_icmp_ge (tgt := 36) hx hb dX7_copyFrom_15 (by decide) (fun h7 => ?_) (fun h7 => ?_)
  · have hF := it_t h7 hF
    exact hR4 _ _ _ _ _ (it_exit hF hX4).symm hw hS (lv_sub hl [0, 1] rfl)
  · have hF := it_f h7 hF
    refine lv_aload_n hx hb dX7_copyFrom_18 rfl (lv_at hl 0 rfl) ?_
    refine gX7_9 hC hw (by omega) hq dX7_copyFrom_19 ?_
    refine lv_iload_n hx hb dX7_copyFrom_22 rfl (lv_at hl 2 rfl) ?_
    refine lv_aload_n hx hb dX7_copyFrom_23 rfl (lv_at hl 1 rfl) ?_
    refine gX7_9 hC hw (by omega) hq0 dX7_copyFrom_24 ?_
    refine lv_iload_n hx hb dX7_copyFrom_27 rfl (lv_at hl 2 rfl) ?_
    obtain ⟨g8, hF⟩ := gi_t hF
    refine ld_temps hC hw (by omega) hq0 g8 dX7_copyFrom_28 ?_
    obtain ⟨g9, hF⟩ := gi_t hF
    refine st_temps hC hw hS (by omega) hq g9 dX7_copyFrom_29 (fun H locs hw hS _ => ?_)
    obtain ⟨C10, eC10, hF⟩ := nm_t hF
    have hw := Wd.cast eC10 hw
    obtain ⟨v11, ev11, hF⟩ := nm_t hF
    refine lv_iinc (v := v11) (lv' := [(2, .int v11), (0, .ref (bb G + (po q + 5))), (1, .ref (bb G + (po q0 + 5)))]) hx hb dX7_copyFrom_30 hl (k := 2) rfl (by rw [ev11]; rfl) (by decide) rfl (fun ls hl => ?_)
    refine lv_goto (tgt := 10) hx hb dX7_copyFrom_33 (by decide) ?_
    exact it_back hF hk4 _ _ _ hw hS (lv_sub hl [1, 2, 0] rfl)
set_option maxHeartbeats 4000000 in
set_option maxRecDepth 100000 in
theorem c_X7_mean (l : Launch) (G : GG) (n : Nat) (hn : 244 ≤ n) (hn2 : 0 ≤ n) (q : Nat) (hq : q < 18) (C : Mem) (rR : Int32) (CR : Mem) (hF : F_X7_mean q C = some (rR, CR)) : Ct l yX7_mean cX7_mean 3 (some .int) (rmN 0 0) G n C [.ref (bb G + (po q + 5))] (some (.int rR)) CR := by
  refine Ct.of (by decide) (Nat.le_of_ble_eq_true rfl) ?_
  intro p e s m below meth c ls hC hr hlk hw hl
  have hx := hC.1
  have hb := hC.2.1
  have hS : LW G s s.heap [] := va_S.rf
  have hl : lv_has ls 3 [(0, .ref (bb G + (po q + 5)))] := hl
  unfold F_X7_mean at hF
  refine lv_iconst (v := 0) hx hb dX7_mean_0 (by decide) ?_
  refine lv_istore_n (lv' := [(1, .int (0 : Int32)), (0, .ref (bb G + (po q + 5)))]) hx hb dX7_mean_1 rfl hl (by decide) rfl (fun ls hl => ?_)
  refine lv_iconst (v := 0) hx hb dX7_mean_2 (by decide) ?_
  refine lv_istore_n (lv' := [(2, .int (0 : Int32)), (1, .int (0 : Int32)), (0, .ref (bb G + (po q + 5)))]) hx hb dX7_mean_3 rfl hl (by decide) rfl (fun ls hl => ?_)
  obtain ⟨o4, hit4, hG4⟩ := b1_t hF
  have hR4 : ∀ (v5 : Int32) (v6 : Int32) (C7 : Mem) (H : Heap) (locs : List Loc) (ls : Array Slot), o4 = (v5, v6, C7) → Wd G n C7 H → LW G s H locs → lv_has ls 3 [(0, .ref (bb G + (po q + 5))), (1, .int v5)] → W p l e (rmN 0 0) s m ([.ref (bb G + (po q + 5))] : List Value).toArray below meth c H locs 0 0 (MQ below (QR G n (some (.int rR)) CR) ([.ref (bb G + (po q + 5))] : List Value).toArray s 0 0 (frA G)) (F0 m 27 ls []) := by
    intro v5 v6 C7 H locs ls hE hw hS hl
    subst hE
    have hF := u3_t (hG4)
    refine lv_aload_n hx hb dX7_mean_27 rfl (lv_at hl 0 rfl) ?_
    refine gX7_21 hC hw (by omega) hq dX7_mean_28 ?_
    refine lv_if_le (tgt := 43) hx hb dX7_mean_31 (by decide) (fun h12 => ?_) (fun h12 => ?_)
    · have hF := it_t h12 hF
      refine lv_iconst (v := 0) hx hb dX7_mean_43 (by decide) ?_
      exact m_iret hC hr hlk hw hS dX7_mean_44 hF
    · have hF := it_f h12 hF
      refine lv_iload_n hx hb dX7_mean_34 rfl (lv_at hl 1 rfl) ?_
      refine lv_aload_n hx hb dX7_mean_35 rfl (lv_at hl 0 rfl) ?_
      refine gX7_21 hC hw (by omega) hq dX7_mean_36 ?_
      obtain ⟨g13, hF⟩ := gz_t hF
      refine lv_idiv hx hb dX7_mean_39 g13 ?_
      refine lv_goto (tgt := 44) hx hb dX7_mean_40 (by decide) ?_
      exact m_iret hC hr hlk hw hS dX7_mean_44 hF
  refine iter_sound (P := fun x : Int32 × Int32 × Mem => ∀ (H : Heap) (locs : List Loc) (ls : Array Slot), Wd G n x.2.2 H → LW G s H locs → lv_has ls 3 [(0, .ref (bb G + (po q + 5))), (1, .int x.1), (2, .int x.2.1)] → W p l e (rmN 0 0) s m ([.ref (bb G + (po q + 5))] : List Value).toArray below meth c H locs 0 0 (MQ below (QR G n (some (.int rR)) CR) ([.ref (bb G + (po q + 5))] : List Value).toArray s 0 0 (frA G)) (F0 m 4 ls [])) (X := fun r => r = o4) ?_ fuel ((0 : Int32), (0 : Int32), C) o4 hit4 rfl _ _ _ hw hS (lv_sub hl [2, 1, 0] rfl)
  intro x oo4 hF hk4 hX4 H locs ls hw hS hl
  obtain ⟨v1, v2, C3⟩ := x
  have hF : S_X7_mean_4 q v1 v2 C3 = some oo4 := hF
  have hw : Wd G n C3 H := hw
  have hl : lv_has ls 3 [(0, .ref (bb G + (po q + 5))), (1, .int v1), (2, .int v2)] := hl
  unfold S_X7_mean_4 at hF
  refine lv_iload_n hx hb dX7_mean_4 rfl (lv_at hl 2 rfl) ?_
  refine lv_aload_n hx hb dX7_mean_5 rfl (lv_at hl 0 rfl) ?_
  refine gX7_21 hC hw (by omega) hq dX7_mean_6 ?_
  refine lv_icmp_ge (tgt := 27) hx hb dX7_mean_9 (by decide) (fun h8 => ?_) (fun h8 => ?_)
  · have hF := it_t h8 hF
    exact hR4 _ _ _ _ _ _ (it_exit hF hX4).symm hw hS (lv_sub hl [0, 1] rfl)
  · have hF := it_f h8 hF
    refine lv_iload_n hx hb dX7_mean_12 rfl (lv_at hl 1 rfl) ?_
    refine lv_aload_n hx hb dX7_mean_13 rfl (lv_at hl 0 rfl) ?_
    refine gX7_9 hC hw (by omega) hq dX7_mean_14 ?_
    refine lv_iload_n hx hb dX7_mean_17 rfl (lv_at hl 2 rfl) ?_
    obtain ⟨g9, hF⟩ := gi_t hF
    refine ld_temps hC hw (by omega) hq g9 dX7_mean_18 ?_
    refine lv_iadd hx hb dX7_mean_19 ?_
    obtain ⟨v10, ev10, hF⟩ := nm_t hF
    refine lv_nmi ev10 ?_
    refine lv_istore_n (lv' := [(1, .int v10), (0, .ref (bb G + (po q + 5))), (2, .int v2)]) hx hb dX7_mean_20 rfl hl (by decide) rfl (fun ls hl => ?_)
    obtain ⟨v11, ev11, hF⟩ := nm_t hF
    refine lv_iinc (v := v11) (lv' := [(2, .int v11), (1, .int v10), (0, .ref (bb G + (po q + 5)))]) hx hb dX7_mean_21 hl (k := 2) rfl (by rw [ev11]; rfl) (by decide) rfl (fun ls hl => ?_)
    refine lv_goto (tgt := 4) hx hb dX7_mean_24 (by decide) ?_
    exact it_back hF hk4 _ _ _ hw hS (lv_sub hl [2, 1, 0] rfl)
set_option maxHeartbeats 4000000 in
set_option maxRecDepth 100000 in
theorem c_X7_highest (l : Launch) (G : GG) (n : Nat) (hn : 244 ≤ n) (hn2 : 0 ≤ n) (q : Nat) (hq : q < 18) (C : Mem) (rR : Int32) (CR : Mem) (hF : F_X7_highest q C = some (rR, CR)) : Ct l yX7_highest cX7_highest 1 (some .int) (rmN 0 0) G n C [.ref (bb G + (po q + 5))] (some (.int rR)) CR := by
  refine Ct.of (by decide) (Nat.le_of_ble_eq_true rfl) ?_
  intro p e s m below meth c ls hC hr hlk hw hl
  have hx := hC.1
  have hb := hC.2.1
  have hS : LW G s s.heap [] := va_S.rf
  have hl : lv_has ls 1 [(0, .ref (bb G + (po q + 5)))] := hl
  unfold F_X7_highest at hF
  refine lv_aload_n hx hb dX7_highest_0 rfl (lv_at hl 0 rfl) ?_
  refine gX7_21 hC hw (by omega) hq dX7_highest_1 ?_
  refine lv_if_le (tgt := 21) hx hb dX7_highest_4 (by decide) (fun h1 => ?_) (fun h1 => ?_)
  · have hF := it_t h1 hF
    refine lv_iconst (v := 0) hx hb dX7_highest_21 (by decide) ?_
    exact m_iret hC hr hlk hw hS dX7_highest_22 hF
  · have hF := it_f h1 hF
    refine lv_aload_n hx hb dX7_highest_7 rfl (lv_at hl 0 rfl) ?_
    refine gX7_9 hC hw (by omega) hq dX7_highest_8 ?_
    refine lv_aload_n hx hb dX7_highest_11 rfl (lv_at hl 0 rfl) ?_
    refine gX7_21 hC hw (by omega) hq dX7_highest_12 ?_
    refine lv_iconst (v := 1) hx hb dX7_highest_15 (by decide) ?_
    refine lv_isub hx hb dX7_highest_16 ?_
    obtain ⟨g2, hF⟩ := gi_t hF
    refine ld_temps hC hw (by omega) hq g2 dX7_highest_17 ?_
    refine lv_goto (tgt := 22) hx hb dX7_highest_18 (by decide) ?_
    exact m_iret hC hr hlk hw hS dX7_highest_22 hF
set_option maxHeartbeats 4000000 in
set_option maxRecDepth 100000 in
theorem c_X7_coldest (l : Launch) (G : GG) (n : Nat) (hn : 244 ≤ n) (hn2 : 0 ≤ n) (q : Nat) (hq : q < 18) (C : Mem) (rR : Int32) (CR : Mem) (hF : F_X7_coldest q C = some (rR, CR)) : Ct l yX7_coldest cX7_coldest 3 (some .int) (rmN 1 21) G n C [.ref (bb G + (po q + 5))] (some (.int rR)) CR := by
  refine Ct.of (by decide) (Nat.le_of_ble_eq_true rfl) ?_
  intro p e s m below meth c ls hC hr hlk hw hl
  have hx := hC.1
  have hb := hC.2.1
  have hS : LW G s s.heap [] := va_S.rf
  have hl : lv_has ls 3 [(0, .ref (bb G + (po q + 5)))] := hl
  unfold F_X7_coldest at hF
  refine lv_bipush (v := 99) hx hb dX7_coldest_0 (by decide) ?_
  refine lv_istore_n (lv' := [(1, .int (99 : Int32)), (0, .ref (bb G + (po q + 5)))]) hx hb dX7_coldest_2 rfl hl (by decide) rfl (fun ls hl => ?_)
  refine lv_iconst (v := 0) hx hb dX7_coldest_3 (by decide) ?_
  refine lv_istore_n (lv' := [(2, .int (0 : Int32)), (1, .int (99 : Int32)), (0, .ref (bb G + (po q + 5)))]) hx hb dX7_coldest_4 rfl hl (by decide) rfl (fun ls hl => ?_)
  obtain ⟨o4, hit4, hG4⟩ := b1_t hF
  have hR4 : ∀ (v5 : Int32) (v6 : Int32) (C7 : Mem) (H : Heap) (locs : List Loc) (ls : Array Slot), o4 = (v5, v6, C7) → Wd G n C7 H → LW G s H locs → lv_has ls 3 [(1, .int v5)] → W p l e (rmN 1 21) s m ([.ref (bb G + (po q + 5))] : List Value).toArray below meth c H locs 0 0 (MQ below (QR G n (some (.int rR)) CR) ([.ref (bb G + (po q + 5))] : List Value).toArray s 0 0 (frA G)) (F0 m 30 ls []) := by
    intro v5 v6 C7 H locs ls hE hw hS hl
    subst hE
    have hF := u3_t (hG4)
    refine lv_iload_n hx hb dX7_coldest_30 rfl (lv_at hl 0 rfl) ?_
    exact m_iret hC hr hlk hw hS dX7_coldest_31 hF
  refine iter_sound (P := fun x : Int32 × Int32 × Mem => ∀ (H : Heap) (locs : List Loc) (ls : Array Slot), Wd G n x.2.2 H → LW G s H locs → lv_has ls 3 [(0, .ref (bb G + (po q + 5))), (1, .int x.1), (2, .int x.2.1)] → W p l e (rmN 1 21) s m ([.ref (bb G + (po q + 5))] : List Value).toArray below meth c H locs 0 0 (MQ below (QR G n (some (.int rR)) CR) ([.ref (bb G + (po q + 5))] : List Value).toArray s 0 0 (frA G)) (F0 m 5 ls [])) (X := fun r => r = o4) ?_ fuel ((99 : Int32), (0 : Int32), C) o4 hit4 rfl _ _ _ hw hS (lv_sub hl [2, 1, 0] rfl)
  intro x oo4 hF hk4 hX4 H locs ls hw hS hl
  obtain ⟨v1, v2, C3⟩ := x
  have hF : S_X7_coldest_5 q v1 v2 C3 = some oo4 := hF
  have hw : Wd G n C3 H := hw
  have hl : lv_has ls 3 [(0, .ref (bb G + (po q + 5))), (1, .int v1), (2, .int v2)] := hl
  unfold S_X7_coldest_5 at hF
  refine lv_iload_n hx hb dX7_coldest_5 rfl (lv_at hl 2 rfl) ?_
  refine lv_aload_n hx hb dX7_coldest_6 rfl (lv_at hl 0 rfl) ?_
  refine gX7_21 hC hw (by omega) hq dX7_coldest_7 ?_
  refine lv_icmp_ge (tgt := 30) hx hb dX7_coldest_10 (by decide) (fun h8 => ?_) (fun h8 => ?_)
  · have hF := it_t h8 hF
    exact hR4 _ _ _ _ _ _ (it_exit hF hX4).symm hw hS (lv_sub hl [1] rfl)
  · have hF := it_f h8 hF
    refine lv_iload_n hx hb dX7_coldest_13 rfl (lv_at hl 1 rfl) ?_
    refine lv_aload_n hx hb dX7_coldest_14 rfl (lv_at hl 0 rfl) ?_
    refine gX7_9 hC hw (by omega) hq dX7_coldest_15 ?_
    refine lv_iload_n hx hb dX7_coldest_18 rfl (lv_at hl 2 rfl) ?_
    obtain ⟨g9, hF⟩ := gi_t hF
    refine ld_temps hC hw (by omega) hq g9 dX7_coldest_19 ?_
    refine va_mmin hx hb (hC.2.2.1.trans hl.1.symm) hC.2.2.2.1 (hC.2.2.2.2.1 _ kM_min_X7_15) (hC.2.2.2.2.1 _ kM_min.1) (hC.2.2.2.2.1 _ kM_min.2.1) (hC.2.2.2.2.1 _ kM_min.2.2) (by decide) (Nat.le_of_ble_eq_true rfl) (by decide) (by decide) dX7_coldest_20 ?_
    obtain ⟨v10, ev10, hF⟩ := nm_t hF
    refine lv_nmi ev10 ?_
    refine lv_istore_n (lv' := [(1, .int v10), (0, .ref (bb G + (po q + 5))), (2, .int v2)]) hx hb dX7_coldest_23 rfl hl (by decide) rfl (fun ls hl => ?_)
    obtain ⟨v11, ev11, hF⟩ := nm_t hF
    refine lv_iinc (v := v11) (lv' := [(2, .int v11), (1, .int v10), (0, .ref (bb G + (po q + 5)))]) hx hb dX7_coldest_24 hl (k := 2) rfl (by rw [ev11]; rfl) (by decide) rfl (fun ls hl => ?_)
    refine lv_goto (tgt := 5) hx hb dX7_coldest_27 (by decide) ?_
    exact it_back hF hk4 _ _ _ hw hS (lv_sub hl [2, 1, 0] rfl)
set_option maxHeartbeats 4000000 in
set_option maxRecDepth 100000 in
theorem c_X7_deliver (l : Launch) (G : GG) (n : Nat) (hn : 244 ≤ n) (hn2 : 0 ≤ n) (q : Nat) (hq : q < 18) (x0 : Int32) (C : Mem) (rR : Int32) (CR : Mem) (hF : F_X7_deliver q x0 C = some (rR, CR)) : Ct l yX7_deliver cX7_deliver 5 (some .int) (rmN 1 20) G n C [.ref (bb G + (po q + 5)), .int x0] (some (.int rR)) CR := by
  refine Ct.of (by decide) (Nat.le_of_ble_eq_true rfl) ?_
  intro p e s m below meth c ls hC hr hlk hw hl
  have hx := hC.1
  have hb := hC.2.1
  have hS : LW G s s.heap [] := va_S.rf
  have hl : lv_has ls 5 [(0, .ref (bb G + (po q + 5))), (1, .int x0)] := hl
  unfold F_X7_deliver at hF
  refine lv_iconst (v := 0) hx hb dX7_deliver_0 (by decide) ?_
  refine lv_istore_n (lv' := [(2, .int (0 : Int32)), (0, .ref (bb G + (po q + 5))), (1, .int x0)]) hx hb dX7_deliver_1 rfl hl (by decide) rfl (fun ls hl => ?_)
  refine lv_iconst (v := 0) hx hb dX7_deliver_2 (by decide) ?_
  refine lv_istore_n (lv' := [(3, .int (0 : Int32)), (2, .int (0 : Int32)), (0, .ref (bb G + (po q + 5))), (1, .int x0)]) hx hb dX7_deliver_3 rfl hl (by decide) rfl (fun ls hl => ?_)
  obtain ⟨o4, hit4, hG4⟩ := b1_t hF
  have hR4 : ∀ (v5 : Int32) (v6 : Int32) (C7 : Mem) (H : Heap) (locs : List Loc) (ls : Array Slot), o4 = (v5, v6, C7) → Wd G n C7 H → LW G s H locs → lv_has ls 5 [(0, .ref (bb G + (po q + 5))), (2, .int v5)] → W p l e (rmN 1 20) s m ([.ref (bb G + (po q + 5)), .int x0] : List Value).toArray below meth c H locs 0 0 (MQ below (QR G n (some (.int rR)) CR) ([.ref (bb G + (po q + 5)), .int x0] : List Value).toArray s 0 0 (frA G)) (F0 m 86 ls []) := by
    intro v5 v6 C7 H locs ls hE hw hS hl
    subst hE
    have hF := u3_t (hG4)
    refine lv_aload_n hx hb dX7_deliver_86 rfl (lv_at hl 0 rfl) ?_
    refine lv_dup hx hb dX7_deliver_87 rfl ?_
    refine gX7_31 hC hw (by omega) hq dX7_deliver_88 ?_
    refine lv_iload_n hx hb dX7_deliver_91 rfl (lv_at hl 1 rfl) ?_
    refine lv_iadd hx hb dX7_deliver_92 ?_
    refine pX7_31 hC hw hS (by omega) hn2 hq dX7_deliver_93 (fun H locs hw hS _ => ?_)
    obtain ⟨C28, eC28, hF⟩ := nm_t hF
    have hw := Wd.cast eC28 hw
    refine lv_iload_n hx hb dX7_deliver_96 rfl (lv_at hl 1 rfl) ?_
    exact m_iret hC hr hlk hw hS dX7_deliver_97 hF
  refine iter_sound (P := fun x : Int32 × Int32 × Mem => ∀ (H : Heap) (locs : List Loc) (ls : Array Slot), Wd G n x.2.2 H → LW G s H locs → lv_has ls 5 [(0, .ref (bb G + (po q + 5))), (1, .int x0), (2, .int x.1), (3, .int x.2.1)] → W p l e (rmN 1 20) s m ([.ref (bb G + (po q + 5)), .int x0] : List Value).toArray below meth c H locs 0 0 (MQ below (QR G n (some (.int rR)) CR) ([.ref (bb G + (po q + 5)), .int x0] : List Value).toArray s 0 0 (frA G)) (F0 m 4 ls [])) (X := fun r => r = o4) ?_ fuel ((0 : Int32), (0 : Int32), C) o4 hit4 rfl _ _ _ hw hS (lv_sub hl [2, 3, 1, 0] rfl)
  intro x oo4 hF hk4 hX4 H locs ls hw hS hl
  obtain ⟨v1, v2, C3⟩ := x
  have hF : S_X7_deliver_4 q x0 v1 v2 C3 = some oo4 := hF
  have hw : Wd G n C3 H := hw
  have hl : lv_has ls 5 [(0, .ref (bb G + (po q + 5))), (1, .int x0), (2, .int v1), (3, .int v2)] := hl
  unfold S_X7_deliver_4 at hF
  refine lv_iload_n hx hb dX7_deliver_4 rfl (lv_at hl 3 rfl) ?_
  refine lv_iload_n hx hb dX7_deliver_5 rfl (lv_at hl 1 rfl) ?_
  refine lv_icmp_ge (tgt := 86) hx hb dX7_deliver_6 (by decide) (fun h8 => ?_) (fun h8 => ?_)
  · have hF := it_t h8 hF
    exact hR4 _ _ _ _ _ _ (it_exit hF hX4).symm hw hS (lv_sub hl [0, 2] rfl)
  · have hF := it_f h8 hF
    refine lv_iload_n hx hb dX7_deliver_9 rfl (lv_at hl 2 rfl) ?_
    refine lv_aload_n hx hb dX7_deliver_10 rfl (lv_at hl 0 rfl) ?_
    obtain ⟨r9, C10, hc11, hF⟩ := b2_t hF
    refine call_Vi hC (c_X7_highest l G n (by omega) hn2 q hq _ _ _ hc11) wvX7_40 ⟨rfl, rfl, by decide, by decide⟩ hw hS (by have := po_lt hq; omega) (ca_tank hq) rfl hl.1 rfl (rest := [.int v1]) rfl (Nat.le_of_ble_eq_true rfl) dX7_deliver_11 ⟨by decide, by decide⟩ (fun H locs hw hS _ => ?_)
    refine lv_iadd hx hb dX7_deliver_14 ?_
    obtain ⟨v12, ev12, hF⟩ := nm_t hF
    refine lv_nmi ev12 ?_
    refine lv_istore_n (lv' := [(2, .int v12), (0, .ref (bb G + (po q + 5))), (1, .int x0), (3, .int v2)]) hx hb dX7_deliver_15 rfl hl (by decide) rfl (fun ls hl => ?_)
    refine lv_aload_n hx hb dX7_deliver_16 rfl (lv_at hl 1 rfl) ?_
    refine gX7_21 hC hw (by omega) hq dX7_deliver_17 ?_
    refine lv_iconst (v := 1) hx hb dX7_deliver_20 (by decide) ?_
    refine lv_isub hx hb dX7_deliver_21 ?_
    obtain ⟨v13, ev13, hF⟩ := nm_t hF
    refine lv_nmi ev13 ?_
    refine lv_istore (lv' := [(4, .int v13), (2, .int v12), (0, .ref (bb G + (po q + 5))), (1, .int x0), (3, .int v2)]) hx hb dX7_deliver_22 hl (by decide) rfl (fun ls hl => ?_)
    obtain ⟨o16, hit16, hG16⟩ := b1_t hF
    have hR16 : ∀ (v17 : Int32) (C18 : Mem) (H : Heap) (locs : List Loc) (ls : Array Slot), o16 = (v17, C18) → Wd G n C18 H → LW G s H locs → lv_has ls 5 [(2, .int v12), (0, .ref (bb G + (po q + 5))), (1, .int x0), (3, .int v2)] → W p l e (rmN 1 20) s m ([.ref (bb G + (po q + 5)), .int x0] : List Value).toArray below meth c H locs 0 0 (MQ below (QR G n (some (.int rR)) CR) ([.ref (bb G + (po q + 5)), .int x0] : List Value).toArray s 0 0 (frA G)) (F0 m 51 ls []) := by
      intro v17 C18 H locs ls hE hw hS hl
      subst hE
      have hF := u2_t (hG16)
      refine lv_aload_n hx hb dX7_deliver_51 rfl (lv_at hl 1 rfl) ?_
      refine gX7_9 hC hw (by omega) hq dX7_deliver_52 ?_
      refine lv_iconst (v := 0) hx hb dX7_deliver_55 (by decide) ?_
      refine lv_bipush (v := 10) hx hb dX7_deliver_56 (by decide) ?_
      refine st_temps hC hw hS (by omega) hq (show vp_in (0 : Int32) 8 by unfold vp_in; decide) dX7_deliver_58 (fun H locs hw hS _ => ?_)
      obtain ⟨C24, eC24, hF⟩ := nm_t hF
      have hw := Wd.cast eC24 hw
      refine lv_aload_n hx hb dX7_deliver_59 rfl (lv_at hl 1 rfl) ?_
      refine lv_dup hx hb dX7_deliver_60 rfl ?_
      refine gX7_28 hC hw (by omega) hq dX7_deliver_61 ?_
      refine lv_bipush (v := 10) hx hb dX7_deliver_64 (by decide) ?_
      refine lv_iadd hx hb dX7_deliver_66 ?_
      refine pX7_28 hC hw hS (by omega) hn2 hq dX7_deliver_67 (fun H locs hw hS _ => ?_)
      obtain ⟨C25, eC25, hF⟩ := nm_t hF
      have hw := Wd.cast eC25 hw
      refine lv_aload_n hx hb dX7_deliver_70 rfl (lv_at hl 1 rfl) ?_
      refine lv_dup hx hb dX7_deliver_71 rfl ?_
      refine gX7_37 hC hw (by omega) hq dX7_deliver_72 ?_
      refine lv_iconst (v := 1) hx hb dX7_deliver_75 (by decide) ?_
      refine lv_iadd hx hb dX7_deliver_76 ?_
      refine pX7_37 hC hw hS (by omega) hn2 hq dX7_deliver_77 (fun H locs hw hS _ => ?_)
      obtain ⟨C26, eC26, hF⟩ := nm_t hF
      have hw := Wd.cast eC26 hw
      obtain ⟨v27, ev27, hF⟩ := nm_t hF
      refine lv_iinc (v := v27) (lv' := [(3, .int v27), (2, .int v12), (0, .ref (bb G + (po q + 5))), (1, .int x0)]) hx hb dX7_deliver_80 hl (k := 3) rfl (by rw [ev27]; rfl) (by decide) rfl (fun ls hl => ?_)
      refine lv_goto (tgt := 4) hx hb dX7_deliver_83 (by decide) ?_
      exact it_back hF hk4 _ _ _ hw hS (lv_sub hl [2, 3, 1, 0] rfl)
    refine iter_sound (P := fun x : Int32 × Mem => ∀ (H : Heap) (locs : List Loc) (ls : Array Slot), Wd G n x.2 H → LW G s H locs → lv_has ls 5 [(2, .int v12), (0, .ref (bb G + (po q + 5))), (1, .int x0), (3, .int v2), (4, .int x.1)] → W p l e (rmN 1 20) s m ([.ref (bb G + (po q + 5)), .int x0] : List Value).toArray below meth c H locs 0 0 (MQ below (QR G n (some (.int rR)) CR) ([.ref (bb G + (po q + 5)), .int x0] : List Value).toArray s 0 0 (frA G)) (F0 m 24 ls [])) (X := fun r => r = o16) ?_ fuel (v13, C10) o16 hit16 rfl _ _ _ hw hS (lv_sub hl [1, 2, 3, 4, 0] rfl)
    intro x oo16 hF hk16 hX16 H locs ls hw hS hl
    obtain ⟨v14, C15⟩ := x
    have hF : S_X7_deliver_24 q v14 C15 = some oo16 := hF
    have hw : Wd G n C15 H := hw
    have hl : lv_has ls 5 [(2, .int v12), (0, .ref (bb G + (po q + 5))), (1, .int x0), (3, .int v2), (4, .int v14)] := hl
    unfold S_X7_deliver_24 at hF
    refine lv_iload hx hb dX7_deliver_24 (lv_at hl 4 rfl) ?_
    refine lv_if_le (tgt := 51) hx hb dX7_deliver_26 (by decide) (fun h19 => ?_) (fun h19 => ?_)
    · have hF := it_t h19 hF
      exact hR16 _ _ _ _ _ (it_exit hF hX16).symm hw hS (lv_sub hl [0, 1, 2, 3] rfl)
    · have hF := it_f h19 hF
      refine lv_aload_n hx hb dX7_deliver_29 rfl (lv_at hl 1 rfl) ?_
      refine gX7_9 hC hw (by omega) hq dX7_deliver_30 ?_
      refine lv_iload hx hb dX7_deliver_33 (lv_at hl 4 rfl) ?_
      refine lv_aload_n hx hb dX7_deliver_35 rfl (lv_at hl 1 rfl) ?_
      refine gX7_9 hC hw (by omega) hq dX7_deliver_36 ?_
      refine lv_iload hx hb dX7_deliver_39 (lv_at hl 4 rfl) ?_
      refine lv_iconst (v := 1) hx hb dX7_deliver_41 (by decide) ?_
      refine lv_isub hx hb dX7_deliver_42 ?_
      obtain ⟨g20, hF⟩ := gi_t hF
      refine ld_temps hC hw (by omega) hq g20 dX7_deliver_43 ?_
      obtain ⟨g21, hF⟩ := gi_t hF
      refine st_temps hC hw hS (by omega) hq g21 dX7_deliver_44 (fun H locs hw hS _ => ?_)
      obtain ⟨C22, eC22, hF⟩ := nm_t hF
      have hw := Wd.cast eC22 hw
      obtain ⟨v23, ev23, hF⟩ := nm_t hF
      refine lv_iinc (v := v23) (lv' := [(4, .int v23), (2, .int v12), (0, .ref (bb G + (po q + 5))), (1, .int x0), (3, .int v2)]) hx hb dX7_deliver_45 hl (k := 4) rfl (by rw [ev23]; rfl) (by decide) rfl (fun ls hl => ?_)
      refine lv_goto (tgt := 24) hx hb dX7_deliver_48 (by decide) ?_
      exact it_back hF hk16 _ _ _ hw hS (lv_sub hl [1, 2, 3, 4, 0] rfl)
set_option maxHeartbeats 4000000 in
set_option maxRecDepth 100000 in
theorem c_X7_warm (l : Launch) (G : GG) (n : Nat) (hn : 244 ≤ n) (hn2 : 0 ≤ n) (q : Nat) (hq : q < 18) (x0 : Int32) (C : Mem) (rR : Int32) (CR : Mem) (hF : F_X7_warm q x0 C = some (rR, CR)) : Ct l yX7_warm cX7_warm 5 none (rmN 2 43) G n C [.ref (bb G + (po q + 5)), .int x0] none CR := by
  refine Ct.of (by decide) (Nat.le_of_ble_eq_true rfl) ?_
  intro p e s m below meth c ls hC hr hlk hw hl
  have hx := hC.1
  have hb := hC.2.1
  have hS : LW G s s.heap [] := va_S.rf
  have hl : lv_has ls 5 [(0, .ref (bb G + (po q + 5))), (1, .int x0)] := hl
  unfold F_X7_warm at hF
  refine lv_iload_n hx hb dX7_warm_0 rfl (lv_at hl 1 rfl) ?_
  refine lv_istore_n (lv' := [(2, .int x0), (0, .ref (bb G + (po q + 5))), (1, .int x0)]) hx hb dX7_warm_1 rfl hl (by decide) rfl (fun ls hl => ?_)
  refine lv_aload_n hx hb dX7_warm_2 rfl (lv_at hl 1 rfl) ?_
  obtain ⟨r1, C2, hc3, hF⟩ := b2_t hF
  refine call_Vi hC (c_X7_coldest l G n (by omega) hn2 q hq _ _ _ hc3) wvX7_44 ⟨rfl, rfl, by decide, by decide⟩ hw hS (by have := po_lt hq; omega) (ca_tank hq) rfl hl.1 rfl (rest := []) rfl (Nat.le_of_ble_eq_true rfl) dX7_warm_3 ⟨by decide, by decide⟩ (fun H locs hw hS _ => ?_)
  refine lv_istore_n (lv' := [(3, .int r1), (2, .int x0), (0, .ref (bb G + (po q + 5))), (1, .int x0)]) hx hb dX7_warm_6 rfl hl (by decide) rfl (fun ls hl => ?_)
  obtain ⟨o7, hit7, hG7⟩ := b1_t hF
  have hR7 : ∀ (v8 : Int32) (v9 : Int32) (C10 : Mem) (H : Heap) (locs : List Loc) (ls : Array Slot), o7 = (v8, v9, C10) → Wd G n C10 H → LW G s H locs → lv_has ls 5 [(0, .ref (bb G + (po q + 5))), (1, .int x0), (2, .int v8)] → W p l e (rmN 2 43) s m ([.ref (bb G + (po q + 5)), .int x0] : List Value).toArray below meth c H locs 0 0 (MQ below (QR G n none CR) ([.ref (bb G + (po q + 5)), .int x0] : List Value).toArray s 0 0 (frA G)) (F0 m 70 ls []) := by
    intro v8 v9 C10 H locs ls hE hw hS hl
    subst hE
    have hF := u3_t (hG7)
    refine lv_aload_n hx hb dX7_warm_70 rfl (lv_at hl 0 rfl) ?_
    refine lv_dup hx hb dX7_warm_71 rfl ?_
    refine gX7_25 hC hw (by omega) hq dX7_warm_72 ?_
    refine lv_iload_n hx hb dX7_warm_75 rfl (lv_at hl 1 rfl) ?_
    refine lv_iadd hx hb dX7_warm_76 ?_
    refine pX7_25 hC hw hS (by omega) hn2 hq dX7_warm_77 (fun H locs hw hS _ => ?_)
    obtain ⟨C31, eC31, hF⟩ := nm_t hF
    have hw := Wd.cast eC31 hw
    refine lv_aload_n hx hb dX7_warm_80 rfl (lv_at hl 0 rfl) ?_
    refine lv_dup hx hb dX7_warm_81 rfl ?_
    refine gX7_34 hC hw (by omega) hq dX7_warm_82 ?_
    refine lv_iload_n hx hb dX7_warm_85 rfl (lv_at hl 2 rfl) ?_
    refine lv_iadd hx hb dX7_warm_86 ?_
    refine pX7_34 hC hw hS (by omega) hn2 hq dX7_warm_87 (fun H locs hw hS _ => ?_)
    obtain ⟨C32, eC32, hF⟩ := nm_t hF
    have hw := Wd.cast eC32 hw
    exact m_vret hC hr hlk hw hS dX7_warm_90 hF
  refine iter_sound (P := fun x : Int32 × Int32 × Mem => ∀ (H : Heap) (locs : List Loc) (ls : Array Slot), Wd G n x.2.2 H → LW G s H locs → lv_has ls 5 [(0, .ref (bb G + (po q + 5))), (1, .int x0), (2, .int x.1), (3, .int x.2.1)] → W p l e (rmN 2 43) s m ([.ref (bb G + (po q + 5)), .int x0] : List Value).toArray below meth c H locs 0 0 (MQ below (QR G n none CR) ([.ref (bb G + (po q + 5)), .int x0] : List Value).toArray s 0 0 (frA G)) (F0 m 7 ls [])) (X := fun r => r = o7) ?_ fuel (x0, r1, C2) o7 hit7 rfl _ _ _ hw hS (lv_sub hl [2, 3, 1, 0] rfl)
  intro x oo7 hF hk7 hX7 H locs ls hw hS hl
  obtain ⟨v4, v5, C6⟩ := x
  have hF : S_X7_warm_7 q v4 v5 C6 = some oo7 := hF
  have hw : Wd G n C6 H := hw
  have hl : lv_has ls 5 [(0, .ref (bb G + (po q + 5))), (1, .int x0), (2, .int v4), (3, .int v5)] := hl
  unfold S_X7_warm_7 at hF
  refine lv_iload_n hx hb dX7_warm_7 rfl (lv_at hl 3 rfl) ?_
  refine lv_bipush (v := 99) hx hb dX7_warm_8 (by decide) ?_
  refine lv_icmp_ge (tgt := 70) hx hb dX7_warm_10 (by decide) (fun h11 => ?_) (fun h11 => ?_)
  · have hF := it_t h11 hF
    exact hR7 _ _ _ _ _ _ (it_exit hF hX7).symm hw hS (lv_sub hl [0, 1, 2] rfl)
  · have hF := it_f h11 hF
    refine lv_iload_n hx hb dX7_warm_13 rfl (lv_at hl 2 rfl) ?_
    refine lv_if_le (tgt := 70) hx hb dX7_warm_14 (by decide) (fun h12 => ?_) (fun h12 => ?_)
    · have hF := it_t h12 hF
      exact hR7 _ _ _ _ _ _ (it_exit hF hX7).symm hw hS (lv_sub hl [0, 1, 2] rfl)
    · have hF := it_f h12 hF
      refine lv_iconst (v := 0) hx hb dX7_warm_17 (by decide) ?_
      refine lv_istore (lv' := [(4, .int (0 : Int32)), (0, .ref (bb G + (po q + 5))), (1, .int x0), (2, .int v4), (3, .int v5)]) hx hb dX7_warm_18 hl (by decide) rfl (fun ls hl => ?_)
      obtain ⟨o16, hit16, hG16⟩ := b1_t hF
      have hR16 : ∀ (v17 : Int32) (v18 : Int32) (C19 : Mem) (H : Heap) (locs : List Loc) (ls : Array Slot), o16 = (v17, v18, C19) → Wd G n C19 H → LW G s H locs → lv_has ls 5 [(0, .ref (bb G + (po q + 5))), (1, .int x0), (3, .int v5), (2, .int v17)] → W p l e (rmN 2 43) s m ([.ref (bb G + (po q + 5)), .int x0] : List Value).toArray below meth c H locs 0 0 (MQ below (QR G n none CR) ([.ref (bb G + (po q + 5)), .int x0] : List Value).toArray s 0 0 (frA G)) (F0 m 64 ls []) := by
        intro v17 v18 C19 H locs ls hE hw hS hl
        subst hE
        have hF := u3_t (hG16)
        obtain ⟨v30, ev30, hF⟩ := nm_t hF
        refine lv_iinc (v := v30) (lv' := [(3, .int v30), (0, .ref (bb G + (po q + 5))), (1, .int x0), (2, .int v17)]) hx hb dX7_warm_64 hl (k := 2) rfl (by rw [ev30]; rfl) (by decide) rfl (fun ls hl => ?_)
        refine lv_goto (tgt := 7) hx hb dX7_warm_67 (by decide) ?_
        exact it_back hF hk7 _ _ _ hw hS (lv_sub hl [1, 2, 3, 0] rfl)
      refine iter_sound (P := fun x : Int32 × Int32 × Mem => ∀ (H : Heap) (locs : List Loc) (ls : Array Slot), Wd G n x.2.2 H → LW G s H locs → lv_has ls 5 [(0, .ref (bb G + (po q + 5))), (1, .int x0), (3, .int v5), (2, .int x.1), (4, .int x.2.1)] → W p l e (rmN 2 43) s m ([.ref (bb G + (po q + 5)), .int x0] : List Value).toArray below meth c H locs 0 0 (MQ below (QR G n none CR) ([.ref (bb G + (po q + 5)), .int x0] : List Value).toArray s 0 0 (frA G)) (F0 m 20 ls [])) (X := fun r => r = o16) ?_ fuel (v4, (0 : Int32), C6) o16 hit16 rfl _ _ _ hw hS (lv_sub hl [1, 2, 4, 3, 0] rfl)
      intro x oo16 hF hk16 hX16 H locs ls hw hS hl
      obtain ⟨v13, v14, C15⟩ := x
      have hF : S_X7_warm_20 q v5 v13 v14 C15 = some oo16 := hF
      have hw : Wd G n C15 H := hw
      have hl : lv_has ls 5 [(0, .ref (bb G + (po q + 5))), (1, .int x0), (3, .int v5), (2, .int v13), (4, .int v14)] := hl
      unfold S_X7_warm_20 at hF
      refine lv_iload hx hb dX7_warm_20 (lv_at hl 4 rfl) ?_
      refine lv_aload_n hx hb dX7_warm_22 rfl (lv_at hl 0 rfl) ?_
      refine gX7_21 hC hw (by omega) hq dX7_warm_23 ?_
      refine lv_icmp_ge (tgt := 64) hx hb dX7_warm_26 (by decide) (fun h20 => ?_) (fun h20 => ?_)
      · have hF := it_t h20 hF
        exact hR16 _ _ _ _ _ _ (it_exit hF hX16).symm hw hS (lv_sub hl [0, 1, 2, 3] rfl)
      · have hF := it_f h20 hF
        refine lv_iload_n hx hb dX7_warm_29 rfl (lv_at hl 3 rfl) ?_
        refine lv_if_le (tgt := 64) hx hb dX7_warm_30 (by decide) (fun h21 => ?_) (fun h21 => ?_)
        · have hF := it_t h21 hF
          exact hR16 _ _ _ _ _ _ (it_exit hF hX16).symm hw hS (lv_sub hl [0, 1, 2, 3] rfl)
        · have hF := it_f h21 hF
          refine lv_aload_n hx hb dX7_warm_33 rfl (lv_at hl 0 rfl) ?_
          refine gX7_9 hC hw (by omega) hq dX7_warm_34 ?_
          refine lv_iload hx hb dX7_warm_37 (lv_at hl 4 rfl) ?_
          obtain ⟨g22, hF⟩ := gi_t hF
          refine ld_temps hC hw (by omega) hq g22 dX7_warm_39 ?_
          refine lv_iload_n hx hb dX7_warm_40 rfl (lv_at hl 2 rfl) ?_
          refine lv_icmp_ne (tgt := 58) hx hb dX7_warm_41 (by decide) (fun h23 => ?_) (fun h23 => ?_)
          · have hF := it_f h23 hF
            obtain ⟨v24, ev24, hF⟩ := nm_t hF
            refine lv_iinc (v := v24) (lv' := [(4, .int v24), (0, .ref (bb G + (po q + 5))), (1, .int x0), (3, .int v5), (2, .int v13)]) hx hb dX7_warm_58 hl (k := 4) rfl (by rw [ev24]; rfl) (by decide) rfl (fun ls hl => ?_)
            refine lv_goto (tgt := 20) hx hb dX7_warm_61 (by decide) ?_
            exact it_back hF hk16 _ _ _ hw hS (lv_sub hl [1, 2, 3, 4, 0] rfl)
          · have hF := it_t h23 hF
            refine lv_aload_n hx hb dX7_warm_44 rfl (lv_at hl 0 rfl) ?_
            refine gX7_9 hC hw (by omega) hq dX7_warm_45 ?_
            refine lv_iload hx hb dX7_warm_48 (lv_at hl 4 rfl) ?_
            refine lv_dup2_11 hx hb dX7_warm_50 rfl rfl ?_
            obtain ⟨g25, hF⟩ := gi_t hF
            refine ld_temps hC hw (by omega) hq g25 dX7_warm_51 ?_
            refine lv_iconst (v := 1) hx hb dX7_warm_52 (by decide) ?_
            refine lv_iadd hx hb dX7_warm_53 ?_
            obtain ⟨g26, hF⟩ := gi_t hF
            refine st_temps hC hw hS (by omega) hq g26 dX7_warm_54 (fun H locs hw hS _ => ?_)
            obtain ⟨C27, eC27, hF⟩ := nm_t hF
            have hw := Wd.cast eC27 hw
            obtain ⟨v28, ev28, hF⟩ := nm_t hF
            refine lv_iinc (v := v28) (lv' := [(2, .int v28), (0, .ref (bb G + (po q + 5))), (1, .int x0), (3, .int v5), (4, .int v14)]) hx hb dX7_warm_55 hl (k := 3) rfl (by rw [ev28]; rfl) (by decide) rfl (fun ls hl => ?_)
            obtain ⟨v29, ev29, hF⟩ := nm_t hF
            refine lv_iinc (v := v29) (lv' := [(4, .int v29), (2, .int v28), (0, .ref (bb G + (po q + 5))), (1, .int x0), (3, .int v5)]) hx hb dX7_warm_58 hl (k := 4) rfl (by rw [ev29]; rfl) (by decide) rfl (fun ls hl => ?_)
            refine lv_goto (tgt := 20) hx hb dX7_warm_61 (by decide) ?_
            exact it_back hF hk16 _ _ _ hw hS (lv_sub hl [2, 3, 4, 1, 0] rfl)
set_option maxHeartbeats 4000000 in
set_option maxRecDepth 100000 in
theorem c_X7_cool (l : Launch) (G : GG) (n : Nat) (hn : 244 ≤ n) (hn2 : 0 ≤ n) (q : Nat) (hq : q < 18) (C : Mem) (rR : Int32) (CR : Mem) (hF : F_X7_cool q C = some (rR, CR)) : Ct l yX7_cool cX7_cool 3 none (rmN 0 0) G n C [.ref (bb G + (po q + 5))] none CR := by
  refine Ct.of (by decide) (Nat.le_of_ble_eq_true rfl) ?_
  intro p e s m below meth c ls hC hr hlk hw hl
  have hx := hC.1
  have hb := hC.2.1
  have hS : LW G s s.heap [] := va_S.rf
  have hl : lv_has ls 3 [(0, .ref (bb G + (po q + 5)))] := hl
  unfold F_X7_cool at hF
  refine lv_iconst (v := 0) hx hb dX7_cool_0 (by decide) ?_
  refine lv_istore_n (lv' := [(1, .int (0 : Int32)), (0, .ref (bb G + (po q + 5)))]) hx hb dX7_cool_1 rfl hl (by decide) rfl (fun ls hl => ?_)
  obtain ⟨o3, hit3, hG3⟩ := b1_t hF
  have hR3 : ∀ (v4 : Int32) (C5 : Mem) (H : Heap) (locs : List Loc) (ls : Array Slot), o3 = (v4, C5) → Wd G n C5 H → LW G s H locs → lv_has ls 3 [] → W p l e (rmN 0 0) s m ([.ref (bb G + (po q + 5))] : List Value).toArray below meth c H locs 0 0 (MQ below (QR G n none CR) ([.ref (bb G + (po q + 5))] : List Value).toArray s 0 0 (frA G)) (F0 m 60 ls []) := by
    intro v4 C5 H locs ls hE hw hS hl
    subst hE
    have hF := u2_t (hG3)
    exact m_vret hC hr hlk hw hS dX7_cool_60 hF
  refine iter_sound (P := fun x : Int32 × Mem => ∀ (H : Heap) (locs : List Loc) (ls : Array Slot), Wd G n x.2 H → LW G s H locs → lv_has ls 3 [(0, .ref (bb G + (po q + 5))), (1, .int x.1)] → W p l e (rmN 0 0) s m ([.ref (bb G + (po q + 5))] : List Value).toArray below meth c H locs 0 0 (MQ below (QR G n none CR) ([.ref (bb G + (po q + 5))] : List Value).toArray s 0 0 (frA G)) (F0 m 2 ls [])) (X := fun r => r = o3) ?_ fuel ((0 : Int32), C) o3 hit3 rfl _ _ _ hw hS (lv_sub hl [1, 0] rfl)
  intro x oo3 hF hk3 hX3 H locs ls hw hS hl
  obtain ⟨v1, C2⟩ := x
  have hF : S_X7_cool_2 q v1 C2 = some oo3 := hF
  have hw : Wd G n C2 H := hw
  have hl : lv_has ls 3 [(0, .ref (bb G + (po q + 5))), (1, .int v1)] := hl
  unfold S_X7_cool_2 at hF
  refine lv_iload_n hx hb dX7_cool_2 rfl (lv_at hl 1 rfl) ?_
  refine lv_aload_n hx hb dX7_cool_3 rfl (lv_at hl 0 rfl) ?_
  refine gX7_21 hC hw (by omega) hq dX7_cool_4 ?_
  refine lv_icmp_ge (tgt := 60) hx hb dX7_cool_7 (by decide) (fun h6 => ?_) (fun h6 => ?_)
  · have hF := it_t h6 hF
    exact hR3 _ _ _ _ _ (it_exit hF hX3).symm hw hS (lv_sub hl [] rfl)
  · have hF := it_f h6 hF
    refine lv_aload_n hx hb dX7_cool_10 rfl (lv_at hl 0 rfl) ?_
    refine gX7_9 hC hw (by omega) hq dX7_cool_11 ?_
    refine lv_iload_n hx hb dX7_cool_14 rfl (lv_at hl 1 rfl) ?_
    obtain ⟨g7, hF⟩ := gi_t hF
    refine ld_temps hC hw (by omega) hq g7 dX7_cool_15 ?_
    refine lv_bipush (v := 20) hx hb dX7_cool_16 (by decide) ?_
    refine lv_icmp_le (tgt := 54) hx hb dX7_cool_18 (by decide) (fun h8 => ?_) (fun h8 => ?_)
    · have hF := it_t h8 hF
      obtain ⟨v9, ev9, hF⟩ := nm_t hF
      refine lv_iinc (v := v9) (lv' := [(1, .int v9), (0, .ref (bb G + (po q + 5)))]) hx hb dX7_cool_54 hl (k := 1) rfl (by rw [ev9]; rfl) (by decide) rfl (fun ls hl => ?_)
      refine lv_goto (tgt := 2) hx hb dX7_cool_57 (by decide) ?_
      exact it_back hF hk3 _ _ _ hw hS (lv_sub hl [1, 0] rfl)
    · have hF := it_f h8 hF
      refine lv_aload_n hx hb dX7_cool_21 rfl (lv_at hl 0 rfl) ?_
      refine gX7_9 hC hw (by omega) hq dX7_cool_22 ?_
      refine lv_iload_n hx hb dX7_cool_25 rfl (lv_at hl 1 rfl) ?_
      obtain ⟨g10, hF⟩ := gi_t hF
      refine ld_temps hC hw (by omega) hq g10 dX7_cool_26 ?_
      refine lv_bipush (v := 20) hx hb dX7_cool_27 (by decide) ?_
      refine lv_isub hx hb dX7_cool_29 ?_
      refine lv_bipush (v := 20) hx hb dX7_cool_30 (by decide) ?_
      refine lv_idiv hx hb dX7_cool_32 (by decide) ?_
      obtain ⟨v11, ev11, hF⟩ := nm_t hF
      refine lv_nmi ev11 ?_
      refine lv_istore_n (lv' := [(2, .int v11), (0, .ref (bb G + (po q + 5))), (1, .int v1)]) hx hb dX7_cool_33 rfl hl (by decide) rfl (fun ls hl => ?_)
      refine lv_aload_n hx hb dX7_cool_34 rfl (lv_at hl 1 rfl) ?_
      refine gX7_9 hC hw (by omega) hq dX7_cool_35 ?_
      refine lv_iload_n hx hb dX7_cool_38 rfl (lv_at hl 2 rfl) ?_
      refine lv_dup2_11 hx hb dX7_cool_39 rfl rfl ?_
      obtain ⟨g12, hF⟩ := gi_t hF
      refine ld_temps hC hw (by omega) hq g12 dX7_cool_40 ?_
      refine lv_iload_n hx hb dX7_cool_41 rfl (lv_at hl 0 rfl) ?_
      refine lv_isub hx hb dX7_cool_42 ?_
      obtain ⟨g13, hF⟩ := gi_t hF
      refine st_temps hC hw hS (by omega) hq g13 dX7_cool_43 (fun H locs hw hS _ => ?_)
      obtain ⟨C14, eC14, hF⟩ := nm_t hF
      have hw := Wd.cast eC14 hw
      refine lv_aload_n hx hb dX7_cool_44 rfl (lv_at hl 1 rfl) ?_
      refine lv_dup hx hb dX7_cool_45 rfl ?_
      refine gX7_34 hC hw (by omega) hq dX7_cool_46 ?_
      refine lv_iload_n hx hb dX7_cool_49 rfl (lv_at hl 0 rfl) ?_
      refine lv_iadd hx hb dX7_cool_50 ?_
      refine pX7_34 hC hw hS (by omega) hn2 hq dX7_cool_51 (fun H locs hw hS _ => ?_)
      obtain ⟨C15, eC15, hF⟩ := nm_t hF
      have hw := Wd.cast eC15 hw
      obtain ⟨v16, ev16, hF⟩ := nm_t hF
      refine lv_iinc (v := v16) (lv' := [(1, .int v16), (2, .int v11), (0, .ref (bb G + (po q + 5)))]) hx hb dX7_cool_54 hl (k := 2) rfl (by rw [ev16]; rfl) (by decide) rfl (fun ls hl => ?_)
      refine lv_goto (tgt := 2) hx hb dX7_cool_57 (by decide) ?_
      exact it_back hF hk3 _ _ _ hw hS (lv_sub hl [2, 0] rfl)
set_option maxHeartbeats 4000000 in
set_option maxRecDepth 100000 in
theorem c_X7_putInOrder (l : Launch) (G : GG) (n : Nat) (hn : 244 ≤ n) (hn2 : 0 ≤ n) (q : Nat) (hq : q < 18) (C : Mem) (rR : Int32) (CR : Mem) (hF : F_X7_putInOrder q C = some (rR, CR)) : Ct l yX7_putInOrder cX7_putInOrder 4 none (rmN 0 0) G n C [.ref (bb G + (po q + 5))] none CR := by
  refine Ct.of (by decide) (Nat.le_of_ble_eq_true rfl) ?_
  intro p e s m below meth c ls hC hr hlk hw hl
  have hx := hC.1
  have hb := hC.2.1
  have hS : LW G s s.heap [] := va_S.rf
  have hl : lv_has ls 4 [(0, .ref (bb G + (po q + 5)))] := hl
  unfold F_X7_putInOrder at hF
  refine lv_iconst (v := 1) hx hb dX7_putInOrder_0 (by decide) ?_
  refine lv_istore_n (lv' := [(1, .int (1 : Int32)), (0, .ref (bb G + (po q + 5)))]) hx hb dX7_putInOrder_1 rfl hl (by decide) rfl (fun ls hl => ?_)
  obtain ⟨o3, hit3, hG3⟩ := b1_t hF
  have hR3 : ∀ (v4 : Int32) (C5 : Mem) (H : Heap) (locs : List Loc) (ls : Array Slot), o3 = (v4, C5) → Wd G n C5 H → LW G s H locs → lv_has ls 4 [] → W p l e (rmN 0 0) s m ([.ref (bb G + (po q + 5))] : List Value).toArray below meth c H locs 0 0 (MQ below (QR G n none CR) ([.ref (bb G + (po q + 5))] : List Value).toArray s 0 0 (frA G)) (F0 m 68 ls []) := by
    intro v4 C5 H locs ls hE hw hS hl
    subst hE
    have hF := u2_t (hG3)
    exact m_vret hC hr hlk hw hS dX7_putInOrder_68 hF
  refine iter_sound (P := fun x : Int32 × Mem => ∀ (H : Heap) (locs : List Loc) (ls : Array Slot), Wd G n x.2 H → LW G s H locs → lv_has ls 4 [(0, .ref (bb G + (po q + 5))), (1, .int x.1)] → W p l e (rmN 0 0) s m ([.ref (bb G + (po q + 5))] : List Value).toArray below meth c H locs 0 0 (MQ below (QR G n none CR) ([.ref (bb G + (po q + 5))] : List Value).toArray s 0 0 (frA G)) (F0 m 2 ls [])) (X := fun r => r = o3) ?_ fuel ((1 : Int32), C) o3 hit3 rfl _ _ _ hw hS (lv_sub hl [1, 0] rfl)
  intro x oo3 hF hk3 hX3 H locs ls hw hS hl
  obtain ⟨v1, C2⟩ := x
  have hF : S_X7_putInOrder_2 q v1 C2 = some oo3 := hF
  have hw : Wd G n C2 H := hw
  have hl : lv_has ls 4 [(0, .ref (bb G + (po q + 5))), (1, .int v1)] := hl
  unfold S_X7_putInOrder_2 at hF
  refine lv_iload_n hx hb dX7_putInOrder_2 rfl (lv_at hl 1 rfl) ?_
  refine lv_aload_n hx hb dX7_putInOrder_3 rfl (lv_at hl 0 rfl) ?_
  refine gX7_21 hC hw (by omega) hq dX7_putInOrder_4 ?_
  refine lv_icmp_ge (tgt := 68) hx hb dX7_putInOrder_7 (by decide) (fun h6 => ?_) (fun h6 => ?_)
  · have hF := it_t h6 hF
    exact hR3 _ _ _ _ _ (it_exit hF hX3).symm hw hS (lv_sub hl [] rfl)
  · have hF := it_f h6 hF
    refine lv_aload_n hx hb dX7_putInOrder_10 rfl (lv_at hl 0 rfl) ?_
    refine gX7_9 hC hw (by omega) hq dX7_putInOrder_11 ?_
    refine lv_iload_n hx hb dX7_putInOrder_14 rfl (lv_at hl 1 rfl) ?_
    obtain ⟨g7, hF⟩ := gi_t hF
    refine ld_temps hC hw (by omega) hq g7 dX7_putInOrder_15 ?_
    obtain ⟨v8, ev8, hF⟩ := nm_t hF
    refine lv_nmi ev8 ?_
    refine lv_istore_n (lv' := [(2, .int v8), (0, .ref (bb G + (po q + 5))), (1, .int v1)]) hx hb dX7_putInOrder_16 rfl hl (by decide) rfl (fun ls hl => ?_)
    refine lv_iload_n hx hb dX7_putInOrder_17 rfl (lv_at hl 2 rfl) ?_
    refine lv_istore_n (lv' := [(3, .int v1), (2, .int v8), (0, .ref (bb G + (po q + 5))), (1, .int v1)]) hx hb dX7_putInOrder_18 rfl hl (by decide) rfl (fun ls hl => ?_)
    obtain ⟨o11, hit11, hG11⟩ := b1_t hF
    have hR11 : ∀ (v12 : Int32) (C13 : Mem) (H : Heap) (locs : List Loc) (ls : Array Slot), o11 = (v12, C13) → Wd G n C13 H → LW G s H locs → lv_has ls 4 [(2, .int v8), (0, .ref (bb G + (po q + 5))), (1, .int v1), (3, .int v12)] → W p l e (rmN 0 0) s m ([.ref (bb G + (po q + 5))] : List Value).toArray below meth c H locs 0 0 (MQ below (QR G n none CR) ([.ref (bb G + (po q + 5))] : List Value).toArray s 0 0 (frA G)) (F0 m 55 ls []) := by
      intro v12 C13 H locs ls hE hw hS hl
      subst hE
      have hF := u2_t (hG11)
      refine lv_aload_n hx hb dX7_putInOrder_55 rfl (lv_at hl 1 rfl) ?_
      refine gX7_9 hC hw (by omega) hq dX7_putInOrder_56 ?_
      refine lv_iload_n hx hb dX7_putInOrder_59 rfl (lv_at hl 3 rfl) ?_
      refine lv_iload_n hx hb dX7_putInOrder_60 rfl (lv_at hl 0 rfl) ?_
      obtain ⟨g21, hF⟩ := gi_t hF
      refine st_temps hC hw hS (by omega) hq g21 dX7_putInOrder_61 (fun H locs hw hS _ => ?_)
      obtain ⟨C22, eC22, hF⟩ := nm_t hF
      have hw := Wd.cast eC22 hw
      obtain ⟨v23, ev23, hF⟩ := nm_t hF
      refine lv_iinc (v := v23) (lv' := [(1, .int v23), (2, .int v8), (0, .ref (bb G + (po q + 5))), (3, .int v12)]) hx hb dX7_putInOrder_62 hl (k := 2) rfl (by rw [ev23]; rfl) (by decide) rfl (fun ls hl => ?_)
      refine lv_goto (tgt := 2) hx hb dX7_putInOrder_65 (by decide) ?_
      exact it_back hF hk3 _ _ _ hw hS (lv_sub hl [2, 0] rfl)
    refine iter_sound (P := fun x : Int32 × Mem => ∀ (H : Heap) (locs : List Loc) (ls : Array Slot), Wd G n x.2 H → LW G s H locs → lv_has ls 4 [(2, .int v8), (0, .ref (bb G + (po q + 5))), (1, .int v1), (3, .int x.1)] → W p l e (rmN 0 0) s m ([.ref (bb G + (po q + 5))] : List Value).toArray below meth c H locs 0 0 (MQ below (QR G n none CR) ([.ref (bb G + (po q + 5))] : List Value).toArray s 0 0 (frA G)) (F0 m 19 ls [])) (X := fun r => r = o11) ?_ fuel (v1, C2) o11 hit11 rfl _ _ _ hw hS (lv_sub hl [1, 2, 3, 0] rfl)
    intro x oo11 hF hk11 hX11 H locs ls hw hS hl
    obtain ⟨v9, C10⟩ := x
    have hF : S_X7_putInOrder_19 q v8 v9 C10 = some oo11 := hF
    have hw : Wd G n C10 H := hw
    have hl : lv_has ls 4 [(2, .int v8), (0, .ref (bb G + (po q + 5))), (1, .int v1), (3, .int v9)] := hl
    unfold S_X7_putInOrder_19 at hF
    refine lv_iload_n hx hb dX7_putInOrder_19 rfl (lv_at hl 3 rfl) ?_
    refine lv_if_le (tgt := 55) hx hb dX7_putInOrder_20 (by decide) (fun h14 => ?_) (fun h14 => ?_)
    · have hF := it_t h14 hF
      exact hR11 _ _ _ _ _ (it_exit hF hX11).symm hw hS (lv_sub hl [0, 1, 2, 3] rfl)
    · have hF := it_f h14 hF
      refine lv_aload_n hx hb dX7_putInOrder_23 rfl (lv_at hl 1 rfl) ?_
      refine gX7_9 hC hw (by omega) hq dX7_putInOrder_24 ?_
      refine lv_iload_n hx hb dX7_putInOrder_27 rfl (lv_at hl 3 rfl) ?_
      refine lv_iconst (v := 1) hx hb dX7_putInOrder_28 (by decide) ?_
      refine lv_isub hx hb dX7_putInOrder_29 ?_
      obtain ⟨g15, hF⟩ := gi_t hF
      refine ld_temps hC hw (by omega) hq g15 dX7_putInOrder_30 ?_
      refine lv_iload_n hx hb dX7_putInOrder_31 rfl (lv_at hl 0 rfl) ?_
      refine lv_icmp_le (tgt := 55) hx hb dX7_putInOrder_32 (by decide) (fun h16 => ?_) (fun h16 => ?_)
      · have hF := it_t h16 hF
        exact hR11 _ _ _ _ _ (it_exit hF hX11).symm hw hS (lv_sub hl [0, 1, 2, 3] rfl)
      · have hF := it_f h16 hF
        refine lv_aload_n hx hb dX7_putInOrder_35 rfl (lv_at hl 1 rfl) ?_
        refine gX7_9 hC hw (by omega) hq dX7_putInOrder_36 ?_
        refine lv_iload_n hx hb dX7_putInOrder_39 rfl (lv_at hl 3 rfl) ?_
        refine lv_aload_n hx hb dX7_putInOrder_40 rfl (lv_at hl 1 rfl) ?_
        refine gX7_9 hC hw (by omega) hq dX7_putInOrder_41 ?_
        refine lv_iload_n hx hb dX7_putInOrder_44 rfl (lv_at hl 3 rfl) ?_
        refine lv_iconst (v := 1) hx hb dX7_putInOrder_45 (by decide) ?_
        refine lv_isub hx hb dX7_putInOrder_46 ?_
        obtain ⟨g17, hF⟩ := gi_t hF
        refine ld_temps hC hw (by omega) hq g17 dX7_putInOrder_47 ?_
        obtain ⟨g18, hF⟩ := gi_t hF
        refine st_temps hC hw hS (by omega) hq g18 dX7_putInOrder_48 (fun H locs hw hS _ => ?_)
        obtain ⟨C19, eC19, hF⟩ := nm_t hF
        have hw := Wd.cast eC19 hw
        obtain ⟨v20, ev20, hF⟩ := nm_t hF
        refine lv_iinc (v := v20) (lv' := [(3, .int v20), (2, .int v8), (0, .ref (bb G + (po q + 5))), (1, .int v1)]) hx hb dX7_putInOrder_49 hl (k := 3) rfl (by rw [ev20]; rfl) (by decide) rfl (fun ls hl => ?_)
        refine lv_goto (tgt := 19) hx hb dX7_putInOrder_52 (by decide) ?_
        exact it_back hF hk11 _ _ _ hw hS (lv_sub hl [1, 2, 3, 0] rfl)
set_option maxHeartbeats 4000000 in
set_option maxRecDepth 100000 in
theorem c_X4_add (l : Launch) (G : GG) (n : Nat) (hn : 244 ≤ n) (hn2 : 0 ≤ n) (x0 : Int32) (C : Mem) (rR : Int32) (CR : Mem) (hF : F_X4_add x0 C = some (rR, CR)) : Ct l yX4_add cX4_add 2 (some .boolean) (rmN 0 0) G n C [.ref (bb G + 1), .int x0] (some (.int rR)) CR := by
  refine Ct.of (by decide) (Nat.le_of_ble_eq_true rfl) ?_
  intro p e s m below meth c ls hC hr hlk hw hl
  have hx := hC.1
  have hb := hC.2.1
  have hS : LW G s s.heap [] := va_S.rf
  have hl : lv_has ls 2 [(0, .ref (bb G + 1)), (1, .int x0)] := hl
  unfold F_X4_add at hF
  refine lv_aload_n hx hb dX4_add_0 rfl (lv_at hl 0 rfl) ?_
  refine gX4_40 hC hw (by omega)  dX4_add_1 ?_
  refine lv_if_lt (tgt := 19) hx hb dX4_add_4 (by decide) (fun h1 => ?_) (fun h1 => ?_)
  · have hF := it_t h1 hF
    refine lv_iconst (v := 0) hx hb dX4_add_19 (by decide) ?_
    exact m_zret hC hr hlk hw hS dX4_add_20 (by decide) hF
  · have hF := it_f h1 hF
    refine lv_aload_n hx hb dX4_add_7 rfl (lv_at hl 0 rfl) ?_
    refine gX4_40 hC hw (by omega)  dX4_add_8 ?_
    refine lv_aload_n hx hb dX4_add_11 rfl (lv_at hl 0 rfl) ?_
    refine gX4_9 hC hw (by omega)  dX4_add_12 ?_
    refine m_alen hC hw (t0 := 0) (by omega) ca_signs rfl (v := 60) rfl dX4_add_15 ?_
    refine lv_icmp_lt (tgt := 21) hx hb dX4_add_16 (by decide) (fun h2 => ?_) (fun h2 => ?_)
    · have hF := it_t h2 hF
      refine lv_aload_n hx hb dX4_add_21 rfl (lv_at hl 0 rfl) ?_
      refine gX4_9 hC hw (by omega)  dX4_add_22 ?_
      refine lv_aload_n hx hb dX4_add_25 rfl (lv_at hl 0 rfl) ?_
      refine gX4_40 hC hw (by omega)  dX4_add_26 ?_
      refine lv_iload_n hx hb dX4_add_29 rfl (lv_at hl 1 rfl) ?_
      obtain ⟨g3, hF⟩ := gi_t hF
      refine st_signs hC hw hS (by omega) hn2  g3 dX4_add_30 (fun H locs hw hS _ => ?_)
      obtain ⟨C4, eC4, hF⟩ := nm_t hF
      have hw := Wd.cast eC4 hw
      refine lv_aload_n hx hb dX4_add_31 rfl (lv_at hl 0 rfl) ?_
      refine lv_dup hx hb dX4_add_32 rfl ?_
      refine gX4_40 hC hw (by omega)  dX4_add_33 ?_
      refine lv_iconst (v := 1) hx hb dX4_add_36 (by decide) ?_
      refine lv_iadd hx hb dX4_add_37 ?_
      refine pX4_40 hC hw hS (by omega) hn2  dX4_add_38 (fun H locs hw hS _ => ?_)
      obtain ⟨C5, eC5, hF⟩ := nm_t hF
      have hw := Wd.cast eC5 hw
      refine lv_iconst (v := 1) hx hb dX4_add_41 (by decide) ?_
      exact m_zret hC hr hlk hw hS dX4_add_42 (by decide) hF
    · have hF := it_f h2 hF
      refine lv_iconst (v := 0) hx hb dX4_add_19 (by decide) ?_
      exact m_zret hC hr hlk hw hS dX4_add_20 (by decide) hF
set_option maxHeartbeats 4000000 in
set_option maxRecDepth 100000 in
theorem c_X4_hasMore (l : Launch) (G : GG) (n : Nat) (hn : 244 ≤ n) (hn2 : 0 ≤ n)  (C : Mem) (rR : Int32) (CR : Mem) (hF : F_X4_hasMore  C = some (rR, CR)) : Ct l yX4_hasMore cX4_hasMore 1 (some .boolean) (rmN 0 0) G n C [.ref (bb G + 1)] (some (.int rR)) CR := by
  refine Ct.of (by decide) (Nat.le_of_ble_eq_true rfl) ?_
  intro p e s m below meth c ls hC hr hlk hw hl
  have hx := hC.1
  have hb := hC.2.1
  have hS : LW G s s.heap [] := va_S.rf
  have hl : lv_has ls 1 [(0, .ref (bb G + 1))] := hl
  unfold F_X4_hasMore at hF
  refine lv_aload_n hx hb dX4_hasMore_0 rfl (lv_at hl 0 rfl) ?_
  refine gX4_46 hC hw (by omega)  dX4_hasMore_1 ?_
  refine lv_if_ne (tgt := 34) hx hb dX4_hasMore_4 (by decide) (fun h1 => ?_) (fun h1 => ?_)
  · have hF := it_f h1 hF
    refine lv_iconst (v := 0) hx hb dX4_hasMore_34 (by decide) ?_
    exact m_zret hC hr hlk hw hS dX4_hasMore_35 (by decide) hF
  · have hF := it_t h1 hF
    refine lv_aload_n hx hb dX4_hasMore_7 rfl (lv_at hl 0 rfl) ?_
    refine gX4_43 hC hw (by omega)  dX4_hasMore_8 ?_
    refine lv_aload_n hx hb dX4_hasMore_11 rfl (lv_at hl 0 rfl) ?_
    refine gX4_40 hC hw (by omega)  dX4_hasMore_12 ?_
    refine lv_icmp_ge (tgt := 34) hx hb dX4_hasMore_15 (by decide) (fun h2 => ?_) (fun h2 => ?_)
    · have hF := it_t h2 hF
      refine lv_iconst (v := 0) hx hb dX4_hasMore_34 (by decide) ?_
      exact m_zret hC hr hlk hw hS dX4_hasMore_35 (by decide) hF
    · have hF := it_f h2 hF
      refine lv_aload_n hx hb dX4_hasMore_18 rfl (lv_at hl 0 rfl) ?_
      refine gX4_43 hC hw (by omega)  dX4_hasMore_19 ?_
      refine lv_aload_n hx hb dX4_hasMore_22 rfl (lv_at hl 0 rfl) ?_
      refine gX4_9 hC hw (by omega)  dX4_hasMore_23 ?_
      refine m_alen hC hw (t0 := 0) (by omega) ca_signs rfl (v := 60) rfl dX4_hasMore_26 ?_
      refine lv_icmp_ge (tgt := 34) hx hb dX4_hasMore_27 (by decide) (fun h3 => ?_) (fun h3 => ?_)
      · have hF := it_t h3 hF
        refine lv_iconst (v := 0) hx hb dX4_hasMore_34 (by decide) ?_
        exact m_zret hC hr hlk hw hS dX4_hasMore_35 (by decide) hF
      · have hF := it_f h3 hF
        refine lv_iconst (v := 1) hx hb dX4_hasMore_30 (by decide) ?_
        refine lv_goto (tgt := 35) hx hb dX4_hasMore_31 (by decide) ?_
        exact m_zret hC hr hlk hw hS dX4_hasMore_35 (by decide) hF
set_option maxHeartbeats 4000000 in
set_option maxRecDepth 100000 in
theorem c_X4_sees (l : Launch) (G : GG) (n : Nat) (hn : 244 ≤ n) (hn2 : 0 ≤ n) (x0 : Int32) (C : Mem) (rR : Int32) (CR : Mem) (hF : F_X4_sees x0 C = some (rR, CR)) : Ct l yX4_sees cX4_sees 2 (some .boolean) (rmN 1 20) G n C [.ref (bb G + 1), .int x0] (some (.int rR)) CR := by
  refine Ct.of (by decide) (Nat.le_of_ble_eq_true rfl) ?_
  intro p e s m below meth c ls hC hr hlk hw hl
  have hx := hC.1
  have hb := hC.2.1
  have hS : LW G s s.heap [] := va_S.rf
  have hl : lv_has ls 2 [(0, .ref (bb G + 1)), (1, .int x0)] := hl
  unfold F_X4_sees at hF
  refine lv_aload_n hx hb dX4_sees_0 rfl (lv_at hl 0 rfl) ?_
  obtain ⟨r1, C2, hc3, hF⟩ := b2_t hF
  refine call_Vi hC (c_X4_hasMore l G n (by omega) hn2  _ _ _ hc3) wvX4_71 ⟨rfl, rfl, by decide, by decide⟩ hw hS (by omega) ca_plan rfl hl.1 rfl (rest := []) rfl (Nat.le_of_ble_eq_true rfl) dX4_sees_1 ⟨by decide, by decide⟩ (fun H locs hw hS _ => ?_)
  refine lv_if_eq (tgt := 24) hx hb dX4_sees_4 (by decide) (fun h4 => ?_) (fun h4 => ?_)
  · have hF := it_t h4 hF
    refine lv_iconst (v := 0) hx hb dX4_sees_24 (by decide) ?_
    exact m_zret hC hr hlk hw hS dX4_sees_25 (by decide) hF
  · have hF := it_f h4 hF
    refine lv_aload_n hx hb dX4_sees_7 rfl (lv_at hl 0 rfl) ?_
    refine gX4_9 hC hw (by omega)  dX4_sees_8 ?_
    refine lv_aload_n hx hb dX4_sees_11 rfl (lv_at hl 0 rfl) ?_
    refine gX4_43 hC hw (by omega)  dX4_sees_12 ?_
    obtain ⟨g5, hF⟩ := gi_t hF
    refine ld_signs hC hw (by omega)  g5 dX4_sees_15 ?_
    refine lv_iload_n hx hb dX4_sees_16 rfl (lv_at hl 1 rfl) ?_
    refine lv_icmp_ne (tgt := 24) hx hb dX4_sees_17 (by decide) (fun h6 => ?_) (fun h6 => ?_)
    · have hF := it_f h6 hF
      refine lv_iconst (v := 0) hx hb dX4_sees_24 (by decide) ?_
      exact m_zret hC hr hlk hw hS dX4_sees_25 (by decide) hF
    · have hF := it_t h6 hF
      refine lv_iconst (v := 1) hx hb dX4_sees_20 (by decide) ?_
      refine lv_goto (tgt := 25) hx hb dX4_sees_21 (by decide) ?_
      exact m_zret hC hr hlk hw hS dX4_sees_25 (by decide) hF
set_option maxHeartbeats 4000000 in
set_option maxRecDepth 100000 in
theorem c_X4_readSign (l : Launch) (G : GG) (n : Nat) (hn : 244 ≤ n) (hn2 : 0 ≤ n) (x0 : Int32) (C : Mem) (rR : Int32) (CR : Mem) (hF : F_X4_readSign x0 C = some (rR, CR)) : Ct l yX4_readSign cX4_readSign 2 none (rmN 2 41) G n C [.ref (bb G + 1), .int x0] none CR := by
  refine Ct.of (by decide) (Nat.le_of_ble_eq_true rfl) ?_
  intro p e s m below meth c ls hC hr hlk hw hl
  have hx := hC.1
  have hb := hC.2.1
  have hS : LW G s s.heap [] := va_S.rf
  have hl : lv_has ls 2 [(0, .ref (bb G + 1)), (1, .int x0)] := hl
  unfold F_X4_readSign at hF
  refine lv_aload_n hx hb dX4_readSign_0 rfl (lv_at hl 0 rfl) ?_
  refine lv_iload_n hx hb dX4_readSign_1 rfl (lv_at hl 1 rfl) ?_
  obtain ⟨r1, C2, hc3, hF⟩ := b2_t hF
  refine call_Vi hC (c_X4_sees l G n (by omega) hn2 x0 _ _ _ hc3) wvX4_64 ⟨rfl, rfl, by decide, by decide⟩ hw hS (by omega) ca_plan rfl hl.1 rfl (rest := []) rfl (Nat.le_of_ble_eq_true rfl) dX4_readSign_2 ⟨by decide, by decide⟩ (fun H locs hw hS _ => ?_)
  refine lv_if_eq (tgt := 21) hx hb dX4_readSign_5 (by decide) (fun h4 => ?_) (fun h4 => ?_)
  · have hF := it_t h4 hF
    refine lv_aload_n hx hb dX4_readSign_21 rfl (lv_at hl 0 rfl) ?_
    refine lv_iconst (v := 1) hx hb dX4_readSign_22 (by decide) ?_
    refine pX4_46 hC hw hS (by omega) hn2  (by decide) dX4_readSign_23 (fun H locs hw hS _ => ?_)
    obtain ⟨C5, eC5, hF⟩ := nm_t hF
    have hw := Wd.cast eC5 hw
    exact m_vret hC hr hlk hw hS dX4_readSign_26 hF
  · have hF := it_f h4 hF
    refine lv_aload_n hx hb dX4_readSign_8 rfl (lv_at hl 0 rfl) ?_
    refine lv_dup hx hb dX4_readSign_9 rfl ?_
    refine gX4_43 hC hw (by omega)  dX4_readSign_10 ?_
    refine lv_iconst (v := 1) hx hb dX4_readSign_13 (by decide) ?_
    refine lv_iadd hx hb dX4_readSign_14 ?_
    refine pX4_43 hC hw hS (by omega) hn2  dX4_readSign_15 (fun H locs hw hS _ => ?_)
    obtain ⟨C6, eC6, hF⟩ := nm_t hF
    have hw := Wd.cast eC6 hw
    refine lv_goto (tgt := 26) hx hb dX4_readSign_18 (by decide) ?_
    exact m_vret hC hr hlk hw hS dX4_readSign_26 hF
set_option maxHeartbeats 4000000 in
set_option maxRecDepth 100000 in
theorem c_X4_readDigit (l : Launch) (G : GG) (n : Nat) (hn : 244 ≤ n) (hn2 : 0 ≤ n) (x0 : Int32) (x1 : Int32) (C : Mem) (rR : Int32) (CR : Mem) (hF : F_X4_readDigit x0 x1 C = some (rR, CR)) : Ct l yX4_readDigit cX4_readDigit 4 (some .int) (rmN 1 20) G n C [.ref (bb G + 1), .int x0, .int x1] (some (.int rR)) CR := by
  refine Ct.of (by decide) (Nat.le_of_ble_eq_true rfl) ?_
  intro p e s m below meth c ls hC hr hlk hw hl
  have hx := hC.1
  have hb := hC.2.1
  have hS : LW G s s.heap [] := va_S.rf
  have hl : lv_has ls 4 [(0, .ref (bb G + 1)), (1, .int x0), (2, .int x1)] := hl
  unfold F_X4_readDigit at hF
  refine lv_aload_n hx hb dX4_readDigit_0 rfl (lv_at hl 0 rfl) ?_
  obtain ⟨r1, C2, hc3, hF⟩ := b2_t hF
  refine call_Vi hC (c_X4_hasMore l G n (by omega) hn2  _ _ _ hc3) wvX4_71 ⟨rfl, rfl, by decide, by decide⟩ hw hS (by omega) ca_plan rfl hl.1 rfl (rest := []) rfl (Nat.le_of_ble_eq_true rfl) dX4_readDigit_1 ⟨by decide, by decide⟩ (fun H locs hw hS _ => ?_)
  refine lv_if_eq (tgt := 42) hx hb dX4_readDigit_4 (by decide) (fun h4 => ?_) (fun h4 => ?_)
  · have hF := it_t h4 hF
    refine lv_aload_n hx hb dX4_readDigit_42 rfl (lv_at hl 0 rfl) ?_
    refine lv_iconst (v := 1) hx hb dX4_readDigit_43 (by decide) ?_
    refine pX4_46 hC hw hS (by omega) hn2  (by decide) dX4_readDigit_44 (fun H locs hw hS _ => ?_)
    obtain ⟨C5, eC5, hF⟩ := nm_t hF
    have hw := Wd.cast eC5 hw
    refine lv_iload_n hx hb dX4_readDigit_47 rfl (lv_at hl 1 rfl) ?_
    exact m_iret hC hr hlk hw hS dX4_readDigit_48 hF
  · have hF := it_f h4 hF
    refine lv_aload_n hx hb dX4_readDigit_7 rfl (lv_at hl 0 rfl) ?_
    refine gX4_9 hC hw (by omega)  dX4_readDigit_8 ?_
    refine lv_aload_n hx hb dX4_readDigit_11 rfl (lv_at hl 0 rfl) ?_
    refine gX4_43 hC hw (by omega)  dX4_readDigit_12 ?_
    obtain ⟨g6, hF⟩ := gi_t hF
    refine ld_signs hC hw (by omega)  g6 dX4_readDigit_15 ?_
    refine lv_bipush (v := 48) hx hb dX4_readDigit_16 (by decide) ?_
    refine lv_isub hx hb dX4_readDigit_18 ?_
    obtain ⟨v7, ev7, hF⟩ := nm_t hF
    refine lv_nmi ev7 ?_
    refine lv_istore_n (lv' := [(3, .int v7), (0, .ref (bb G + 1)), (1, .int x0), (2, .int x1)]) hx hb dX4_readDigit_19 rfl hl (by decide) rfl (fun ls hl => ?_)
    refine lv_iload_n hx hb dX4_readDigit_20 rfl (lv_at hl 0 rfl) ?_
    refine lv_iload_n hx hb dX4_readDigit_21 rfl (lv_at hl 2 rfl) ?_
    refine lv_icmp_lt (tgt := 42) hx hb dX4_readDigit_22 (by decide) (fun h8 => ?_) (fun h8 => ?_)
    · have hF := it_t h8 hF
      refine lv_aload_n hx hb dX4_readDigit_42 rfl (lv_at hl 1 rfl) ?_
      refine lv_iconst (v := 1) hx hb dX4_readDigit_43 (by decide) ?_
      refine pX4_46 hC hw hS (by omega) hn2  (by decide) dX4_readDigit_44 (fun H locs hw hS _ => ?_)
      obtain ⟨C9, eC9, hF⟩ := nm_t hF
      have hw := Wd.cast eC9 hw
      refine lv_iload_n hx hb dX4_readDigit_47 rfl (lv_at hl 2 rfl) ?_
      exact m_iret hC hr hlk hw hS dX4_readDigit_48 hF
    · have hF := it_f h8 hF
      refine lv_iload_n hx hb dX4_readDigit_25 rfl (lv_at hl 0 rfl) ?_
      refine lv_iload_n hx hb dX4_readDigit_26 rfl (lv_at hl 3 rfl) ?_
      refine lv_icmp_gt (tgt := 42) hx hb dX4_readDigit_27 (by decide) (fun h10 => ?_) (fun h10 => ?_)
      · have hF := it_t h10 hF
        refine lv_aload_n hx hb dX4_readDigit_42 rfl (lv_at hl 1 rfl) ?_
        refine lv_iconst (v := 1) hx hb dX4_readDigit_43 (by decide) ?_
        refine pX4_46 hC hw hS (by omega) hn2  (by decide) dX4_readDigit_44 (fun H locs hw hS _ => ?_)
        obtain ⟨C11, eC11, hF⟩ := nm_t hF
        have hw := Wd.cast eC11 hw
        refine lv_iload_n hx hb dX4_readDigit_47 rfl (lv_at hl 2 rfl) ?_
        exact m_iret hC hr hlk hw hS dX4_readDigit_48 hF
      · have hF := it_f h10 hF
        refine lv_aload_n hx hb dX4_readDigit_30 rfl (lv_at hl 1 rfl) ?_
        refine lv_dup hx hb dX4_readDigit_31 rfl ?_
        refine gX4_43 hC hw (by omega)  dX4_readDigit_32 ?_
        refine lv_iconst (v := 1) hx hb dX4_readDigit_35 (by decide) ?_
        refine lv_iadd hx hb dX4_readDigit_36 ?_
        refine pX4_43 hC hw hS (by omega) hn2  dX4_readDigit_37 (fun H locs hw hS _ => ?_)
        obtain ⟨C12, eC12, hF⟩ := nm_t hF
        have hw := Wd.cast eC12 hw
        refine lv_iload_n hx hb dX4_readDigit_40 rfl (lv_at hl 0 rfl) ?_
        exact m_iret hC hr hlk hw hS dX4_readDigit_41 hF
set_option maxHeartbeats 4000000 in
set_option maxRecDepth 100000 in
theorem c_X4_readNumber (l : Launch) (G : GG) (n : Nat) (hn : 244 ≤ n) (hn2 : 0 ≤ n) (x0 : Int32) (x1 : Int32) (C : Mem) (rR : Int32) (CR : Mem) (hF : F_X4_readNumber x0 x1 C = some (rR, CR)) : Ct l yX4_readNumber cX4_readNumber 6 (some .int) (rmN 2 43) G n C [.ref (bb G + 1), .int x0, .int x1] (some (.int rR)) CR := by
  refine Ct.of (by decide) (Nat.le_of_ble_eq_true rfl) ?_
  intro p e s m below meth c ls hC hr hlk hw hl
  have hx := hC.1
  have hb := hC.2.1
  have hS : LW G s s.heap [] := va_S.rf
  have hl : lv_has ls 6 [(0, .ref (bb G + 1)), (1, .int x0), (2, .int x1)] := hl
  unfold F_X4_readNumber at hF
  refine lv_aload_n hx hb dX4_readNumber_0 rfl (lv_at hl 0 rfl) ?_
  refine lv_iload_n hx hb dX4_readNumber_1 rfl (lv_at hl 1 rfl) ?_
  refine lv_bipush (v := 10) hx hb dX4_readNumber_2 (by decide) ?_
  refine lv_idiv hx hb dX4_readNumber_4 (by decide) ?_
  refine lv_iload_n hx hb dX4_readNumber_5 rfl (lv_at hl 2 rfl) ?_
  refine lv_bipush (v := 10) hx hb dX4_readNumber_6 (by decide) ?_
  refine lv_idiv hx hb dX4_readNumber_8 (by decide) ?_
  obtain ⟨r1, C2, hc3, hF⟩ := b2_t hF
  refine call_Vi hC (c_X4_readDigit l G n (by omega) hn2 (x0 / (10 : Int32)) (x1 / (10 : Int32)) _ _ _ hc3) wvX4_54 ⟨rfl, rfl, by decide, by decide⟩ hw hS (by omega) ca_plan rfl hl.1 rfl (rest := []) rfl (Nat.le_of_ble_eq_true rfl) dX4_readNumber_9 ⟨by decide, by decide⟩ (fun H locs hw hS _ => ?_)
  refine lv_istore_n (lv' := [(3, .int r1), (0, .ref (bb G + 1)), (1, .int x0), (2, .int x1)]) hx hb dX4_readNumber_12 rfl hl (by decide) rfl (fun ls hl => ?_)
  refine lv_iload_n hx hb dX4_readNumber_13 rfl (lv_at hl 0 rfl) ?_
  refine lv_iload_n hx hb dX4_readNumber_14 rfl (lv_at hl 2 rfl) ?_
  refine lv_bipush (v := 10) hx hb dX4_readNumber_15 (by decide) ?_
  refine lv_idiv hx hb dX4_readNumber_17 (by decide) ?_
  have hJ29 : ∀ (v5 : Int32) (H : Heap) (locs : List Loc) (ls : Array Slot), J_X4_readNumber_29 x1 r1 C2 v5 = some (rR, CR) → Wd G n C2 H → LW G s H locs → lv_has ls 6 [(0, .ref (bb G + 1)), (2, .int x1), (3, .int r1)] → W p l e (rmN 2 43) s m ([.ref (bb G + 1), .int x0, .int x1] : List Value).toArray below meth c H locs 0 0 (MQ below (QR G n (some (.int rR)) CR) ([.ref (bb G + 1), .int x0, .int x1] : List Value).toArray s 0 0 (frA G)) (F0 m 29 ls [.int v5]) := by
    intro v5 H locs ls hF hw hS hl
    unfold J_X4_readNumber_29 at hF
    refine lv_istore (lv' := [(4, .int v5), (0, .ref (bb G + 1)), (2, .int x1), (3, .int r1)]) hx hb dX4_readNumber_29 hl (by decide) rfl (fun ls hl => ?_)
    refine lv_iload_n hx hb dX4_readNumber_31 rfl (lv_at hl 3 rfl) ?_
    refine lv_iload_n hx hb dX4_readNumber_32 rfl (lv_at hl 2 rfl) ?_
    refine lv_bipush (v := 10) hx hb dX4_readNumber_33 (by decide) ?_
    refine lv_idiv hx hb dX4_readNumber_35 (by decide) ?_
    have hJ48 : ∀ (v7 : Int32) (H : Heap) (locs : List Loc) (ls : Array Slot), J_X4_readNumber_48 r1 C2 v5 v7 = some (rR, CR) → Wd G n C2 H → LW G s H locs → lv_has ls 6 [(0, .ref (bb G + 1)), (3, .int r1), (4, .int v5)] → W p l e (rmN 2 43) s m ([.ref (bb G + 1), .int x0, .int x1] : List Value).toArray below meth c H locs 0 0 (MQ below (QR G n (some (.int rR)) CR) ([.ref (bb G + 1), .int x0, .int x1] : List Value).toArray s 0 0 (frA G)) (F0 m 48 ls [.int v7]) := by
      intro v7 H locs ls hF hw hS hl
      unfold J_X4_readNumber_48 at hF
      refine lv_istore (lv' := [(5, .int v7), (0, .ref (bb G + 1)), (3, .int r1), (4, .int v5)]) hx hb dX4_readNumber_48 hl (by decide) rfl (fun ls hl => ?_)
      refine lv_bipush (v := 10) hx hb dX4_readNumber_50 (by decide) ?_
      refine lv_iload_n hx hb dX4_readNumber_52 rfl (lv_at hl 2 rfl) ?_
      refine lv_imul hx hb dX4_readNumber_53 ?_
      refine lv_aload_n hx hb dX4_readNumber_54 rfl (lv_at hl 1 rfl) ?_
      refine lv_iload hx hb dX4_readNumber_55 (lv_at hl 3 rfl) ?_
      refine lv_iload hx hb dX4_readNumber_57 (lv_at hl 0 rfl) ?_
      obtain ⟨r8, C9, hc10, hF⟩ := b2_t hF
      refine call_Vi hC (c_X4_readDigit l G n (by omega) hn2 v5 v7 _ _ _ hc10) wvX4_54 ⟨rfl, rfl, by decide, by decide⟩ hw hS (by omega) ca_plan rfl hl.1 rfl (rest := [.int ((10 : Int32) * r1)]) rfl (Nat.le_of_ble_eq_true rfl) dX4_readNumber_59 ⟨by decide, by decide⟩ (fun H locs hw hS _ => ?_)
      refine lv_iadd hx hb dX4_readNumber_62 ?_
      exact m_iret hC hr hlk hw hS dX4_readNumber_63 hF
    refine lv_icmp_ne (tgt := 46) hx hb dX4_readNumber_36 (by decide) (fun h6 => ?_) (fun h6 => ?_)
    · have hF := it_f h6 hF
      refine lv_bipush (v := 9) hx hb dX4_readNumber_46 (by decide) ?_
      exact hJ48 (9 : Int32) _ _ _ hF hw hS (lv_sub hl [1, 3, 0] rfl)
    · have hF := it_t h6 hF
      refine lv_iload_n hx hb dX4_readNumber_39 rfl (lv_at hl 2 rfl) ?_
      refine lv_bipush (v := 10) hx hb dX4_readNumber_40 (by decide) ?_
      refine lv_irem hx hb dX4_readNumber_42 (by decide) ?_
      refine lv_goto (tgt := 48) hx hb dX4_readNumber_43 (by decide) ?_
      exact hJ48 (x1 - x1 / (10 : Int32) * (10 : Int32)) _ _ _ hF hw hS (lv_sub hl [1, 3, 0] rfl)
  refine lv_icmp_ne (tgt := 28) hx hb dX4_readNumber_18 (by decide) (fun h4 => ?_) (fun h4 => ?_)
  · have hF := it_f h4 hF
    refine lv_iconst (v := 0) hx hb dX4_readNumber_28 (by decide) ?_
    exact hJ29 (0 : Int32) _ _ _ hF hw hS (lv_sub hl [1, 3, 0] rfl)
  · have hF := it_t h4 hF
    refine lv_iload_n hx hb dX4_readNumber_21 rfl (lv_at hl 2 rfl) ?_
    refine lv_bipush (v := 10) hx hb dX4_readNumber_22 (by decide) ?_
    refine lv_irem hx hb dX4_readNumber_24 (by decide) ?_
    refine lv_goto (tgt := 29) hx hb dX4_readNumber_25 (by decide) ?_
    exact hJ29 (x0 - x0 / (10 : Int32) * (10 : Int32)) _ _ _ hF hw hS (lv_sub hl [1, 3, 0] rfl)
set_option maxHeartbeats 4000000 in
set_option maxRecDepth 100000 in
theorem c_X4_readBoiler (l : Launch) (G : GG) (n : Nat) (hn : 244 ≤ n) (hn2 : 0 ≤ n) (x0 : Int32) (C : Mem) (rR : Int32) (CR : Mem) (hF : F_X4_readBoiler x0 C = some (rR, CR)) : Ct l yX4_readBoiler cX4_readBoiler 2 none (rmN 3 68) G n C [.ref (bb G + 1), .int x0] none CR := by
  refine Ct.of (by decide) (Nat.le_of_ble_eq_true rfl) ?_
  intro p e s m below meth c ls hC hr hlk hw hl
  have hx := hC.1
  have hb := hC.2.1
  have hS : LW G s s.heap [] := va_S.rf
  have hl : lv_has ls 2 [(0, .ref (bb G + 1)), (1, .int x0)] := hl
  unfold F_X4_readBoiler at hF
  refine lv_aload_n hx hb dX4_readBoiler_0 rfl (lv_at hl 0 rfl) ?_
  refine lv_bipush (v := 98) hx hb dX4_readBoiler_1 (by decide) ?_
  obtain ⟨r1, C2, hc3, hF⟩ := b2_t hF
  refine call_Vv hC (c_X4_readSign l G n (by omega) hn2 (98 : Int32) _ _ _ hc3) wvX4_50 ⟨rfl, rfl, by decide, by decide⟩ hw hS (by omega) ca_plan rfl hl.1 rfl (rest := []) rfl (Nat.le_of_ble_eq_true rfl) dX4_readBoiler_3 ⟨by decide, by decide⟩ (fun H locs hw hS _ => ?_)
  refine lv_aload_n hx hb dX4_readBoiler_6 rfl (lv_at hl 0 rfl) ?_
  refine gX4_28 hC hw (by omega)  dX4_readBoiler_7 ?_
  refine lv_iload_n hx hb dX4_readBoiler_10 rfl (lv_at hl 1 rfl) ?_
  refine lv_aload_n hx hb dX4_readBoiler_11 rfl (lv_at hl 0 rfl) ?_
  refine lv_iconst (v := 1) hx hb dX4_readBoiler_12 (by decide) ?_
  refine lv_bipush (v := 30) hx hb dX4_readBoiler_13 (by decide) ?_
  obtain ⟨r4, C5, hc6, hF⟩ := b2_t hF
  refine call_Vi hC (c_X4_readNumber l G n (by omega) hn2 (1 : Int32) (30 : Int32) _ _ _ hc6) wvX4_58 ⟨rfl, rfl, by decide, by decide⟩ hw hS (by omega) ca_plan rfl hl.1 rfl (rest := [.int x0, .ref (bb G + 3)]) rfl (Nat.le_of_ble_eq_true rfl) dX4_readBoiler_15 ⟨by decide, by decide⟩ (fun H locs hw hS _ => ?_)
  obtain ⟨g7, hF⟩ := gi_t hF
  refine st_powers hC hw hS (by omega) hn2  g7 dX4_readBoiler_18 (fun H locs hw hS _ => ?_)
  obtain ⟨C8, eC8, hF⟩ := nm_t hF
  have hw := Wd.cast eC8 hw
  refine lv_aload_n hx hb dX4_readBoiler_19 rfl (lv_at hl 0 rfl) ?_
  refine gX4_31 hC hw (by omega)  dX4_readBoiler_20 ?_
  refine lv_iload_n hx hb dX4_readBoiler_23 rfl (lv_at hl 1 rfl) ?_
  refine lv_aload_n hx hb dX4_readBoiler_24 rfl (lv_at hl 0 rfl) ?_
  refine lv_iconst (v := 0) hx hb dX4_readBoiler_25 (by decide) ?_
  refine lv_iconst (v := 1) hx hb dX4_readBoiler_26 (by decide) ?_
  obtain ⟨r9, C10, hc11, hF⟩ := b2_t hF
  refine call_Vi hC (c_X4_readDigit l G n (by omega) hn2 (0 : Int32) (1 : Int32) _ _ _ hc11) wvX4_54 ⟨rfl, rfl, by decide, by decide⟩ hw hS (by omega) ca_plan rfl hl.1 rfl (rest := [.int x0, .ref (bb G + 4)]) rfl (Nat.le_of_ble_eq_true rfl) dX4_readBoiler_27 ⟨by decide, by decide⟩ (fun H locs hw hS _ => ?_)
  obtain ⟨g12, hF⟩ := gi_t hF
  refine st_flues hC hw hS (by omega) hn2  g12 dX4_readBoiler_30 (fun H locs hw hS _ => ?_)
  obtain ⟨C13, eC13, hF⟩ := nm_t hF
  have hw := Wd.cast eC13 hw
  exact m_vret hC hr hlk hw hS dX4_readBoiler_31 hF
set_option maxHeartbeats 4000000 in
set_option maxRecDepth 100000 in
theorem c_X4_readTemperatures (l : Launch) (G : GG) (n : Nat) (hn : 244 ≤ n) (hn2 : 0 ≤ n)  (C : Mem) (rR : Int32) (CR : Mem) (hF : F_X4_readTemperatures  C = some (rR, CR)) : Ct l yX4_readTemperatures cX4_readTemperatures 3 none (rmN 3 68) G n C [.ref (bb G + 1)] none CR := by
  refine Ct.of (by decide) (Nat.le_of_ble_eq_true rfl) ?_
  intro p e s m below meth c ls hC hr hlk hw hl
  have hx := hC.1
  have hb := hC.2.1
  have hS : LW G s s.heap [] := va_S.rf
  have hl : lv_has ls 3 [(0, .ref (bb G + 1))] := hl
  unfold F_X4_readTemperatures at hF
  refine lv_aload_n hx hb dX4_readTemperatures_0 rfl (lv_at hl 0 rfl) ?_
  refine lv_bipush (v := 116) hx hb dX4_readTemperatures_1 (by decide) ?_
  obtain ⟨r1, C2, hc3, hF⟩ := b2_t hF
  refine call_Vv hC (c_X4_readSign l G n (by omega) hn2 (116 : Int32) _ _ _ hc3) wvX4_50 ⟨rfl, rfl, by decide, by decide⟩ hw hS (by omega) ca_plan rfl hl.1 rfl (rest := []) rfl (Nat.le_of_ble_eq_true rfl) dX4_readTemperatures_3 ⟨by decide, by decide⟩ (fun H locs hw hS _ => ?_)
  refine lv_iconst (v := 0) hx hb dX4_readTemperatures_6 (by decide) ?_
  refine lv_istore_n (lv' := [(1, .int (0 : Int32)), (0, .ref (bb G + 1))]) hx hb dX4_readTemperatures_7 rfl hl (by decide) rfl (fun ls hl => ?_)
  refine lv_iconst (v := 0) hx hb dX4_readTemperatures_8 (by decide) ?_
  refine lv_istore_n (lv' := [(2, .int (0 : Int32)), (1, .int (0 : Int32)), (0, .ref (bb G + 1))]) hx hb dX4_readTemperatures_9 rfl hl (by decide) rfl (fun ls hl => ?_)
  obtain ⟨o7, hit7, hG7⟩ := b1_t hF
  have hR7 : ∀ (v8 : Int32) (v9 : Int32) (C10 : Mem) (H : Heap) (locs : List Loc) (ls : Array Slot), o7 = (v8, v9, C10) → Wd G n C10 H → LW G s H locs → lv_has ls 3 [] → W p l e (rmN 3 68) s m ([.ref (bb G + 1)] : List Value).toArray below meth c H locs 0 0 (MQ below (QR G n none CR) ([.ref (bb G + 1)] : List Value).toArray s 0 0 (frA G)) (F0 m 48 ls []) := by
    intro v8 v9 C10 H locs ls hE hw hS hl
    subst hE
    have hF := u3_t (hG7)
    exact m_vret hC hr hlk hw hS dX4_readTemperatures_48 hF
  refine iter_sound (P := fun x : Int32 × Int32 × Mem => ∀ (H : Heap) (locs : List Loc) (ls : Array Slot), Wd G n x.2.2 H → LW G s H locs → lv_has ls 3 [(0, .ref (bb G + 1)), (1, .int x.1), (2, .int x.2.1)] → W p l e (rmN 3 68) s m ([.ref (bb G + 1)] : List Value).toArray below meth c H locs 0 0 (MQ below (QR G n none CR) ([.ref (bb G + 1)] : List Value).toArray s 0 0 (frA G)) (F0 m 10 ls [])) (X := fun r => r = o7) ?_ fuel ((0 : Int32), (0 : Int32), C2) o7 hit7 rfl _ _ _ hw hS (lv_sub hl [2, 1, 0] rfl)
  intro x oo7 hF hk7 hX7 H locs ls hw hS hl
  obtain ⟨v4, v5, C6⟩ := x
  have hF : S_X4_readTemperatures_10  v4 v5 C6 = some oo7 := hF
  have hw : Wd G n C6 H := hw
  have hl : lv_has ls 3 [(0, .ref (bb G + 1)), (1, .int v4), (2, .int v5)] := hl
  unfold S_X4_readTemperatures_10 at hF
  refine lv_iload_n hx hb dX4_readTemperatures_10 rfl (lv_at hl 2 rfl) ?_
  refine lv_aload_n hx hb dX4_readTemperatures_11 rfl (lv_at hl 0 rfl) ?_
  refine gX4_15 hC hw (by omega)  dX4_readTemperatures_12 ?_
  refine lv_icmp_ge (tgt := 48) hx hb dX4_readTemperatures_15 (by decide) (fun h11 => ?_) (fun h11 => ?_)
  · have hF := it_t h11 hF
    exact hR7 _ _ _ _ _ _ (it_exit hF hX7).symm hw hS (lv_sub hl [] rfl)
  · have hF := it_f h11 hF
    refine lv_iload_n hx hb dX4_readTemperatures_18 rfl (lv_at hl 2 rfl) ?_
    refine lv_aload_n hx hb dX4_readTemperatures_19 rfl (lv_at hl 0 rfl) ?_
    refine gX4_34 hC hw (by omega)  dX4_readTemperatures_20 ?_
    refine m_alen hC hw (t0 := 0) (by omega) ca_ptemps rfl (v := 8) rfl dX4_readTemperatures_23 ?_
    refine lv_icmp_ge (tgt := 48) hx hb dX4_readTemperatures_24 (by decide) (fun h12 => ?_) (fun h12 => ?_)
    · have hF := it_t h12 hF
      exact hR7 _ _ _ _ _ _ (it_exit hF hX7).symm hw hS (lv_sub hl [] rfl)
    · have hF := it_f h12 hF
      refine lv_aload_n hx hb dX4_readTemperatures_27 rfl (lv_at hl 0 rfl) ?_
      refine lv_iload_n hx hb dX4_readTemperatures_28 rfl (lv_at hl 1 rfl) ?_
      refine lv_bipush (v := 99) hx hb dX4_readTemperatures_29 (by decide) ?_
      obtain ⟨r13, C14, hc15, hF⟩ := b2_t hF
      refine call_Vi hC (c_X4_readNumber l G n (by omega) hn2 v4 (99 : Int32) _ _ _ hc15) wvX4_58 ⟨rfl, rfl, by decide, by decide⟩ hw hS (by omega) ca_plan rfl hl.1 rfl (rest := []) rfl (Nat.le_of_ble_eq_true rfl) dX4_readTemperatures_31 ⟨by decide, by decide⟩ (fun H locs hw hS _ => ?_)
      refine lv_istore_n (lv' := [(1, .int r13), (0, .ref (bb G + 1)), (2, .int v5)]) hx hb dX4_readTemperatures_34 rfl hl (by decide) rfl (fun ls hl => ?_)
      refine lv_aload_n hx hb dX4_readTemperatures_35 rfl (lv_at hl 1 rfl) ?_
      refine gX4_34 hC hw (by omega)  dX4_readTemperatures_36 ?_
      refine lv_iload_n hx hb dX4_readTemperatures_39 rfl (lv_at hl 2 rfl) ?_
      refine lv_iload_n hx hb dX4_readTemperatures_40 rfl (lv_at hl 0 rfl) ?_
      obtain ⟨g16, hF⟩ := gi_t hF
      refine st_ptemps hC hw hS (by omega) hn2  g16 dX4_readTemperatures_41 (fun H locs hw hS _ => ?_)
      obtain ⟨C17, eC17, hF⟩ := nm_t hF
      have hw := Wd.cast eC17 hw
      obtain ⟨v18, ev18, hF⟩ := nm_t hF
      refine lv_iinc (v := v18) (lv' := [(2, .int v18), (1, .int r13), (0, .ref (bb G + 1))]) hx hb dX4_readTemperatures_42 hl (k := 2) rfl (by rw [ev18]; rfl) (by decide) rfl (fun ls hl => ?_)
      refine lv_goto (tgt := 10) hx hb dX4_readTemperatures_45 (by decide) ?_
      exact it_back hF hk7 _ _ _ hw hS (lv_sub hl [2, 1, 0] rfl)
set_option maxHeartbeats 4000000 in
set_option maxRecDepth 100000 in
theorem c_X4_fillTemperatures (l : Launch) (G : GG) (n : Nat) (hn : 6 ≤ n) (hn2 : 0 ≤ n)  (C : Mem) (rR : Int32) (CR : Mem) (hF : F_X4_fillTemperatures  C = some (rR, CR)) : Ct l yX4_fillTemperatures cX4_fillTemperatures 2 none (rmN 0 0) G n C [.ref (bb G + 1)] none CR := by
  refine Ct.of (by decide) (Nat.le_of_ble_eq_true rfl) ?_
  intro p e s m below meth c ls hC hr hlk hw hl
  have hx := hC.1
  have hb := hC.2.1
  have hS : LW G s s.heap [] := va_S.rf
  have hl : lv_has ls 2 [(0, .ref (bb G + 1))] := hl
  unfold F_X4_fillTemperatures at hF
  refine lv_iconst (v := 0) hx hb dX4_fillTemperatures_0 (by decide) ?_
  refine lv_istore_n (lv' := [(1, .int (0 : Int32)), (0, .ref (bb G + 1))]) hx hb dX4_fillTemperatures_1 rfl hl (by decide) rfl (fun ls hl => ?_)
  obtain ⟨o3, hit3, hG3⟩ := b1_t hF
  have hR3 : ∀ (v4 : Int32) (C5 : Mem) (H : Heap) (locs : List Loc) (ls : Array Slot), o3 = (v4, C5) → Wd G n C5 H → LW G s H locs → lv_has ls 2 [] → W p l e (rmN 0 0) s m ([.ref (bb G + 1)] : List Value).toArray below meth c H locs 0 0 (MQ below (QR G n none CR) ([.ref (bb G + 1)] : List Value).toArray s 0 0 (frA G)) (F0 m 25 ls []) := by
    intro v4 C5 H locs ls hE hw hS hl
    subst hE
    have hF := u2_t (hG3)
    exact m_vret hC hr hlk hw hS dX4_fillTemperatures_25 hF
  refine iter_sound (P := fun x : Int32 × Mem => ∀ (H : Heap) (locs : List Loc) (ls : Array Slot), Wd G n x.2 H → LW G s H locs → lv_has ls 2 [(0, .ref (bb G + 1)), (1, .int x.1)] → W p l e (rmN 0 0) s m ([.ref (bb G + 1)] : List Value).toArray below meth c H locs 0 0 (MQ below (QR G n none CR) ([.ref (bb G + 1)] : List Value).toArray s 0 0 (frA G)) (F0 m 2 ls [])) (X := fun r => r = o3) ?_ fuel ((0 : Int32), C) o3 hit3 rfl _ _ _ hw hS (lv_sub hl [1, 0] rfl)
  intro x oo3 hF hk3 hX3 H locs ls hw hS hl
  obtain ⟨v1, C2⟩ := x
  have hF : S_X4_fillTemperatures_2  v1 C2 = some oo3 := hF
  have hw : Wd G n C2 H := hw
  have hl : lv_has ls 2 [(0, .ref (bb G + 1)), (1, .int v1)] := hl
  unfold S_X4_fillTemperatures_2 at hF
  refine lv_iload_n hx hb dX4_fillTemperatures_2 rfl (lv_at hl 1 rfl) ?_
  refine lv_aload_n hx hb dX4_fillTemperatures_3 rfl (lv_at hl 0 rfl) ?_
  refine gX4_34 hC hw (by omega)  dX4_fillTemperatures_4 ?_
  refine m_alen hC hw (t0 := 0) (by omega) ca_ptemps rfl (v := 8) rfl dX4_fillTemperatures_7 ?_
  refine lv_icmp_ge (tgt := 25) hx hb dX4_fillTemperatures_8 (by decide) (fun h6 => ?_) (fun h6 => ?_)
  · have hF := it_t h6 hF
    exact hR3 _ _ _ _ _ (it_exit hF hX3).symm hw hS (lv_sub hl [] rfl)
  · have hF := it_f h6 hF
    refine lv_aload_n hx hb dX4_fillTemperatures_11 rfl (lv_at hl 0 rfl) ?_
    refine gX4_34 hC hw (by omega)  dX4_fillTemperatures_12 ?_
    refine lv_iload_n hx hb dX4_fillTemperatures_15 rfl (lv_at hl 1 rfl) ?_
    refine lv_bipush (v := 40) hx hb dX4_fillTemperatures_16 (by decide) ?_
    obtain ⟨g7, hF⟩ := gi_t hF
    refine st_ptemps hC hw hS (by omega) hn2  g7 dX4_fillTemperatures_18 (fun H locs hw hS _ => ?_)
    obtain ⟨C8, eC8, hF⟩ := nm_t hF
    have hw := Wd.cast eC8 hw
    obtain ⟨v9, ev9, hF⟩ := nm_t hF
    refine lv_iinc (v := v9) (lv' := [(1, .int v9), (0, .ref (bb G + 1))]) hx hb dX4_fillTemperatures_19 hl (k := 1) rfl (by rw [ev9]; rfl) (by decide) rfl (fun ls hl => ?_)
    refine lv_goto (tgt := 2) hx hb dX4_fillTemperatures_22 (by decide) ?_
    exact it_back hF hk3 _ _ _ hw hS (lv_sub hl [1, 0] rfl)
set_option maxHeartbeats 4000000 in
set_option maxRecDepth 100000 in
theorem c_X4_read (l : Launch) (G : GG) (n : Nat) (hn : 244 ≤ n) (hn2 : 0 ≤ n)  (C : Mem) (rR : Int32) (CR : Mem) (hF : F_X4_read  C = some (rR, CR)) : Ct l yX4_read cX4_read 1 (some .int) (rmN 4 90) G n C [.ref (bb G + 1)] (some (.int rR)) CR := by
  refine Ct.of (by decide) (Nat.le_of_ble_eq_true rfl) ?_
  intro p e s m below meth c ls hC hr hlk hw hl
  have hx := hC.1
  have hb := hC.2.1
  have hS : LW G s s.heap [] := va_S.rf
  have hl : lv_has ls 1 [(0, .ref (bb G + 1))] := hl
  unfold F_X4_read at hF
  refine lv_aload_n hx hb dX4_read_0 rfl (lv_at hl 0 rfl) ?_
  refine lv_iconst (v := 0) hx hb dX4_read_1 (by decide) ?_
  refine pX4_43 hC hw hS (by omega) hn2  dX4_read_2 (fun H locs hw hS _ => ?_)
  obtain ⟨C1, eC1, hF⟩ := nm_t hF
  have hw := Wd.cast eC1 hw
  refine lv_aload_n hx hb dX4_read_5 rfl (lv_at hl 0 rfl) ?_
  refine lv_iconst (v := 0) hx hb dX4_read_6 (by decide) ?_
  refine pX4_46 hC hw hS (by omega) hn2  (by decide) dX4_read_7 (fun H locs hw hS _ => ?_)
  obtain ⟨C2, eC2, hF⟩ := nm_t hF
  have hw := Wd.cast eC2 hw
  refine lv_aload_n hx hb dX4_read_10 rfl (lv_at hl 0 rfl) ?_
  refine lv_bipush (v := 72) hx hb dX4_read_11 (by decide) ?_
  obtain ⟨r3, C4, hc5, hF⟩ := b2_t hF
  refine call_Vv hC (c_X4_readSign l G n (by omega) hn2 (72 : Int32) _ _ _ hc5) wvX4_50 ⟨rfl, rfl, by decide, by decide⟩ hw hS (by omega) ca_plan rfl hl.1 rfl (rest := []) rfl (Nat.le_of_ble_eq_true rfl) dX4_read_13 ⟨by decide, by decide⟩ (fun H locs hw hS _ => ?_)
  refine lv_aload_n hx hb dX4_read_16 rfl (lv_at hl 0 rfl) ?_
  refine lv_aload_n hx hb dX4_read_17 rfl (lv_at hl 0 rfl) ?_
  refine lv_iconst (v := 2) hx hb dX4_read_18 (by decide) ?_
  refine lv_bipush (v := 8) hx hb dX4_read_19 (by decide) ?_
  obtain ⟨r6, C7, hc8, hF⟩ := b2_t hF
  refine call_Vi hC (c_X4_readDigit l G n (by omega) hn2 (2 : Int32) (8 : Int32) _ _ _ hc8) wvX4_54 ⟨rfl, rfl, by decide, by decide⟩ hw hS (by omega) ca_plan rfl hl.1 rfl (rest := [.ref (bb G + 1)]) rfl (Nat.le_of_ble_eq_true rfl) dX4_read_21 ⟨by decide, by decide⟩ (fun H locs hw hS _ => ?_)
  refine pX4_15 hC hw hS (by omega) hn2  dX4_read_24 (fun H locs hw hS _ => ?_)
  obtain ⟨C9, eC9, hF⟩ := nm_t hF
  have hw := Wd.cast eC9 hw
  refine lv_aload_n hx hb dX4_read_27 rfl (lv_at hl 0 rfl) ?_
  refine lv_aload_n hx hb dX4_read_28 rfl (lv_at hl 0 rfl) ?_
  refine lv_iconst (v := 0) hx hb dX4_read_29 (by decide) ?_
  refine lv_bipush (v := 99) hx hb dX4_read_30 (by decide) ?_
  obtain ⟨r10, C11, hc12, hF⟩ := b2_t hF
  refine call_Vi hC (c_X4_readNumber l G n (by omega) hn2 (0 : Int32) (99 : Int32) _ _ _ hc12) wvX4_58 ⟨rfl, rfl, by decide, by decide⟩ hw hS (by omega) ca_plan rfl hl.1 rfl (rest := [.ref (bb G + 1)]) rfl (Nat.le_of_ble_eq_true rfl) dX4_read_32 ⟨by decide, by decide⟩ (fun H locs hw hS _ => ?_)
  refine pX4_19 hC hw hS (by omega) hn2  dX4_read_35 (fun H locs hw hS _ => ?_)
  obtain ⟨C13, eC13, hF⟩ := nm_t hF
  have hw := Wd.cast eC13 hw
  refine lv_aload_n hx hb dX4_read_38 rfl (lv_at hl 0 rfl) ?_
  refine lv_aload_n hx hb dX4_read_39 rfl (lv_at hl 0 rfl) ?_
  refine lv_iconst (v := 0) hx hb dX4_read_40 (by decide) ?_
  refine lv_bipush (v := 99) hx hb dX4_read_41 (by decide) ?_
  obtain ⟨r14, C15, hc16, hF⟩ := b2_t hF
  refine call_Vi hC (c_X4_readNumber l G n (by omega) hn2 (0 : Int32) (99 : Int32) _ _ _ hc16) wvX4_58 ⟨rfl, rfl, by decide, by decide⟩ hw hS (by omega) ca_plan rfl hl.1 rfl (rest := [.ref (bb G + 1)]) rfl (Nat.le_of_ble_eq_true rfl) dX4_read_43 ⟨by decide, by decide⟩ (fun H locs hw hS _ => ?_)
  refine pX4_22 hC hw hS (by omega) hn2  dX4_read_46 (fun H locs hw hS _ => ?_)
  obtain ⟨C17, eC17, hF⟩ := nm_t hF
  have hw := Wd.cast eC17 hw
  refine lv_aload_n hx hb dX4_read_49 rfl (lv_at hl 0 rfl) ?_
  refine lv_iconst (v := 0) hx hb dX4_read_50 (by decide) ?_
  obtain ⟨r18, C19, hc20, hF⟩ := b2_t hF
  refine call_Vv hC (c_X4_readBoiler l G n (by omega) hn2 (0 : Int32) _ _ _ hc20) wvX4_61 ⟨rfl, rfl, by decide, by decide⟩ hw hS (by omega) ca_plan rfl hl.1 rfl (rest := []) rfl (Nat.le_of_ble_eq_true rfl) dX4_read_51 ⟨by decide, by decide⟩ (fun H locs hw hS _ => ?_)
  refine lv_aload_n hx hb dX4_read_54 rfl (lv_at hl 0 rfl) ?_
  refine lv_iconst (v := 1) hx hb dX4_read_55 (by decide) ?_
  refine pX4_25 hC hw hS (by omega) hn2  dX4_read_56 (fun H locs hw hS _ => ?_)
  obtain ⟨C21, eC21, hF⟩ := nm_t hF
  have hw := Wd.cast eC21 hw
  obtain ⟨o23, hit23, hG23⟩ := b1_t hF
  have hR23 : ∀ (C24 : Mem) (H : Heap) (locs : List Loc) (ls : Array Slot), o23 = C24 → Wd G n C24 H → LW G s H locs → lv_has ls 1 [(0, .ref (bb G + 1))] → W p l e (rmN 4 90) s m ([.ref (bb G + 1)] : List Value).toArray below meth c H locs 0 0 (MQ below (QR G n (some (.int rR)) CR) ([.ref (bb G + 1)] : List Value).toArray s 0 0 (frA G)) (F0 m 97 ls []) := by
    intro C24 H locs ls hE hw hS hl
    subst hE
    have hF := hG23
    refine lv_aload_n hx hb dX4_read_97 rfl (lv_at hl 0 rfl) ?_
    refine lv_bipush (v := 116) hx hb dX4_read_98 (by decide) ?_
    obtain ⟨r34, C35, hc36, hF⟩ := b2_t hF
    refine call_Vi hC (c_X4_sees l G n (by omega) hn2 (116 : Int32) _ _ _ hc36) wvX4_64 ⟨rfl, rfl, by decide, by decide⟩ hw hS (by omega) ca_plan rfl hl.1 rfl (rest := []) rfl (Nat.le_of_ble_eq_true rfl) dX4_read_100 ⟨by decide, by decide⟩ (fun H locs hw hS _ => ?_)
    have hJ117 : ∀ (C38 : Mem) (H : Heap) (locs : List Loc) (ls : Array Slot), J_X4_read_117  C38 = some (rR, CR) → Wd G n C38 H → LW G s H locs → lv_has ls 1 [(0, .ref (bb G + 1))] → W p l e (rmN 4 90) s m ([.ref (bb G + 1)] : List Value).toArray below meth c H locs 0 0 (MQ below (QR G n (some (.int rR)) CR) ([.ref (bb G + 1)] : List Value).toArray s 0 0 (frA G)) (F0 m 117 ls []) := by
      intro C38 H locs ls hF hw hS hl
      unfold J_X4_read_117 at hF
      refine lv_aload_n hx hb dX4_read_117 rfl (lv_at hl 0 rfl) ?_
      refine gX4_46 hC hw (by omega)  dX4_read_118 ?_
      refine lv_if_ne (tgt := 135) hx hb dX4_read_121 (by decide) (fun h39 => ?_) (fun h39 => ?_)
      · have hF := it_f h39 hF
        refine lv_aload_n hx hb dX4_read_135 rfl (lv_at hl 0 rfl) ?_
        refine gX4_43 hC hw (by omega)  dX4_read_136 ?_
        refine lv_goto (tgt := 144) hx hb dX4_read_139 (by decide) ?_
        exact m_iret hC hr hlk hw hS dX4_read_144 hF
      · have hF := it_t h39 hF
        refine lv_aload_n hx hb dX4_read_124 rfl (lv_at hl 0 rfl) ?_
        refine gX4_43 hC hw (by omega)  dX4_read_125 ?_
        refine lv_aload_n hx hb dX4_read_128 rfl (lv_at hl 0 rfl) ?_
        refine gX4_40 hC hw (by omega)  dX4_read_129 ?_
        refine lv_icmp_ge (tgt := 142) hx hb dX4_read_132 (by decide) (fun h40 => ?_) (fun h40 => ?_)
        · have hF := it_t h40 hF
          refine lv_bipush (v := -9) hx hb dX4_read_142 (by decide) ?_
          exact m_iret hC hr hlk hw hS dX4_read_144 hF
        · have hF := it_f h40 hF
          refine lv_aload_n hx hb dX4_read_135 rfl (lv_at hl 0 rfl) ?_
          refine gX4_43 hC hw (by omega)  dX4_read_136 ?_
          refine lv_goto (tgt := 144) hx hb dX4_read_139 (by decide) ?_
          exact m_iret hC hr hlk hw hS dX4_read_144 hF
    refine lv_if_eq (tgt := 113) hx hb dX4_read_103 (by decide) (fun h37 => ?_) (fun h37 => ?_)
    · have hF := it_t h37 hF
      refine lv_aload_n hx hb dX4_read_113 rfl (lv_at hl 0 rfl) ?_
      obtain ⟨r41, C42, hc43, hF⟩ := b2_t hF
      refine call_Vv hC (c_X4_fillTemperatures l G n (by omega) hn2  _ _ _ hc43) wvX4_37 ⟨rfl, rfl, by decide, by decide⟩ hw hS (by omega) ca_plan rfl hl.1 rfl (rest := []) rfl (Nat.le_of_ble_eq_true rfl) dX4_read_114 ⟨by decide, by decide⟩ (fun H locs hw hS _ => ?_)
      exact hJ117 C42 _ _ _ hF hw hS (lv_sub hl [0] rfl)
    · have hF := it_f h37 hF
      refine lv_aload_n hx hb dX4_read_106 rfl (lv_at hl 0 rfl) ?_
      obtain ⟨r44, C45, hc46, hF⟩ := b2_t hF
      refine call_Vv hC (c_X4_readTemperatures l G n (by omega) hn2  _ _ _ hc46) wvX4_68 ⟨rfl, rfl, by decide, by decide⟩ hw hS (by omega) ca_plan rfl hl.1 rfl (rest := []) rfl (Nat.le_of_ble_eq_true rfl) dX4_read_107 ⟨by decide, by decide⟩ (fun H locs hw hS _ => ?_)
      refine lv_goto (tgt := 117) hx hb dX4_read_110 (by decide) ?_
      exact hJ117 C45 _ _ _ hF hw hS (lv_sub hl [0] rfl)
  refine iter_sound (P := fun x : Mem => ∀ (H : Heap) (locs : List Loc) (ls : Array Slot), Wd G n x H → LW G s H locs → lv_has ls 1 [(0, .ref (bb G + 1))] → W p l e (rmN 4 90) s m ([.ref (bb G + 1)] : List Value).toArray below meth c H locs 0 0 (MQ below (QR G n (some (.int rR)) CR) ([.ref (bb G + 1)] : List Value).toArray s 0 0 (frA G)) (F0 m 59 ls [])) (X := fun r => r = o23) ?_ fuel C21 o23 hit23 rfl _ _ _ hw hS (lv_sub hl [0] rfl)
  intro C22 oo23 hF hk23 hX23 H locs ls hw hS hl
  have hF : S_X4_read_59  C22 = some oo23 := hF
  have hw : Wd G n C22 H := hw
  have hl : lv_has ls 1 [(0, .ref (bb G + 1))] := hl
  unfold S_X4_read_59 at hF
  refine lv_aload_n hx hb dX4_read_59 rfl (lv_at hl 0 rfl) ?_
  refine gX4_25 hC hw (by omega)  dX4_read_60 ?_
  refine lv_iconst (v := 5) hx hb dX4_read_63 (by decide) ?_
  refine lv_icmp_ge (tgt := 97) hx hb dX4_read_64 (by decide) (fun h25 => ?_) (fun h25 => ?_)
  · have hF := it_t h25 hF
    exact hR23 _ _ _ _ (it_exit hF hX23).symm hw hS (lv_sub hl [0] rfl)
  · have hF := it_f h25 hF
    refine lv_aload_n hx hb dX4_read_67 rfl (lv_at hl 0 rfl) ?_
    refine lv_bipush (v := 98) hx hb dX4_read_68 (by decide) ?_
    obtain ⟨r26, C27, hc28, hF⟩ := b2_t hF
    refine call_Vi hC (c_X4_sees l G n (by omega) hn2 (98 : Int32) _ _ _ hc28) wvX4_64 ⟨rfl, rfl, by decide, by decide⟩ hw hS (by omega) ca_plan rfl hl.1 rfl (rest := []) rfl (Nat.le_of_ble_eq_true rfl) dX4_read_70 ⟨by decide, by decide⟩ (fun H locs hw hS _ => ?_)
    refine lv_if_eq (tgt := 97) hx hb dX4_read_73 (by decide) (fun h29 => ?_) (fun h29 => ?_)
    · have hF := it_t h29 hF
      exact hR23 _ _ _ _ (it_exit hF hX23).symm hw hS (lv_sub hl [0] rfl)
    · have hF := it_f h29 hF
      refine lv_aload_n hx hb dX4_read_76 rfl (lv_at hl 0 rfl) ?_
      refine lv_aload_n hx hb dX4_read_77 rfl (lv_at hl 0 rfl) ?_
      refine gX4_25 hC hw (by omega)  dX4_read_78 ?_
      obtain ⟨r30, C31, hc32, hF⟩ := b2_t hF
      refine call_Vv hC (c_X4_readBoiler l G n (by omega) hn2 (C27 18 5) _ _ _ hc32) wvX4_61 ⟨rfl, rfl, by decide, by decide⟩ hw hS (by omega) ca_plan rfl hl.1 rfl (rest := []) rfl (Nat.le_of_ble_eq_true rfl) dX4_read_81 ⟨by decide, by decide⟩ (fun H locs hw hS _ => ?_)
      refine lv_aload_n hx hb dX4_read_84 rfl (lv_at hl 0 rfl) ?_
      refine lv_dup hx hb dX4_read_85 rfl ?_
      refine gX4_25 hC hw (by omega)  dX4_read_86 ?_
      refine lv_iconst (v := 1) hx hb dX4_read_89 (by decide) ?_
      refine lv_iadd hx hb dX4_read_90 ?_
      refine pX4_25 hC hw hS (by omega) hn2  dX4_read_91 (fun H locs hw hS _ => ?_)
      obtain ⟨C33, eC33, hF⟩ := nm_t hF
      have hw := Wd.cast eC33 hw
      refine lv_goto (tgt := 59) hx hb dX4_read_94 (by decide) ?_
      exact it_back hF hk23 _ _ _ hw hS (lv_sub hl [0] rfl)
set_option maxHeartbeats 4000000 in
set_option maxRecDepth 100000 in
theorem c_J6_bitCount_0f7a4 (l : Launch) (G : GG) (n : Nat) (hn : 244 ≤ n) (hn2 : 0 ≤ n) (x0 : Int32) (C : Mem) (rR : Int32) (CR : Mem) (hF : F_J6_bitCount_0f7a4 x0 C = some (rR, CR)) : Ct l yJ6_bitCount_0f7a4 cJ6_bitCount_0f7a4 1 (some .int) (rmN 0 0) G n C [.int x0] (some (.int rR)) CR := by
  refine Ct.of (by decide) (Nat.le_of_ble_eq_true rfl) ?_
  intro p e s m below meth c ls hC hr hlk hw hl
  have hx := hC.1
  have hb := hC.2.1
  have hS : LW G s s.heap [] := va_S.rf
  have hl : lv_has ls 1 [(0, .int x0)] := hl
  unfold F_J6_bitCount_0f7a4 at hF
  refine lv_iload_n hx hb dJ6_bitCount_0f7a4_0 rfl (lv_at hl 0 rfl) ?_
  refine lv_iload_n hx hb dJ6_bitCount_0f7a4_1 rfl (lv_at hl 0 rfl) ?_
  refine lv_iconst (v := 1) hx hb dJ6_bitCount_0f7a4_2 (by decide) ?_
  refine lv_iushr (v := (((x0).toUInt32 >>> (((1 : Int32)).toUInt32 &&& Int32.toUInt32 31)).toInt32)) hx hb dJ6_bitCount_0f7a4_3 rfl ?_
  refine lv_ldcw (v := 1431655765) hx hb hC.2.2.2.1 (hC.2.2.2.2.1 _ kcJ6_265) dJ6_bitCount_0f7a4_4 ?_
  refine lv_iand hx hb dJ6_bitCount_0f7a4_7 ?_
  refine lv_isub hx hb dJ6_bitCount_0f7a4_8 ?_
  obtain ⟨v1, ev1, hF⟩ := nm_t hF
  refine lv_nmi ev1 ?_
  refine lv_istore_n (lv' := [(0, .int v1)]) hx hb dJ6_bitCount_0f7a4_9 rfl hl (by decide) rfl (fun ls hl => ?_)
  refine lv_iload_n hx hb dJ6_bitCount_0f7a4_10 rfl (lv_at hl 0 rfl) ?_
  refine lv_ldcw (v := 858993459) hx hb hC.2.2.2.1 (hC.2.2.2.2.1 _ kcJ6_266) dJ6_bitCount_0f7a4_11 ?_
  refine lv_iand hx hb dJ6_bitCount_0f7a4_14 ?_
  refine lv_iload_n hx hb dJ6_bitCount_0f7a4_15 rfl (lv_at hl 0 rfl) ?_
  refine lv_iconst (v := 2) hx hb dJ6_bitCount_0f7a4_16 (by decide) ?_
  refine lv_iushr (v := (((v1).toUInt32 >>> (((2 : Int32)).toUInt32 &&& Int32.toUInt32 31)).toInt32)) hx hb dJ6_bitCount_0f7a4_17 rfl ?_
  refine lv_ldcw (v := 858993459) hx hb hC.2.2.2.1 (hC.2.2.2.2.1 _ kcJ6_266) dJ6_bitCount_0f7a4_18 ?_
  refine lv_iand hx hb dJ6_bitCount_0f7a4_21 ?_
  refine lv_iadd hx hb dJ6_bitCount_0f7a4_22 ?_
  obtain ⟨v2, ev2, hF⟩ := nm_t hF
  refine lv_nmi ev2 ?_
  refine lv_istore_n (lv' := [(0, .int v2)]) hx hb dJ6_bitCount_0f7a4_23 rfl hl (by decide) rfl (fun ls hl => ?_)
  refine lv_iload_n hx hb dJ6_bitCount_0f7a4_24 rfl (lv_at hl 0 rfl) ?_
  refine lv_iload_n hx hb dJ6_bitCount_0f7a4_25 rfl (lv_at hl 0 rfl) ?_
  refine lv_iconst (v := 4) hx hb dJ6_bitCount_0f7a4_26 (by decide) ?_
  refine lv_iushr (v := (((v2).toUInt32 >>> (((4 : Int32)).toUInt32 &&& Int32.toUInt32 31)).toInt32)) hx hb dJ6_bitCount_0f7a4_27 rfl ?_
  refine lv_iadd hx hb dJ6_bitCount_0f7a4_28 ?_
  refine lv_ldcw (v := 252645135) hx hb hC.2.2.2.1 (hC.2.2.2.2.1 _ kcJ6_267) dJ6_bitCount_0f7a4_29 ?_
  refine lv_iand hx hb dJ6_bitCount_0f7a4_32 ?_
  obtain ⟨v3, ev3, hF⟩ := nm_t hF
  refine lv_nmi ev3 ?_
  refine lv_istore_n (lv' := [(0, .int v3)]) hx hb dJ6_bitCount_0f7a4_33 rfl hl (by decide) rfl (fun ls hl => ?_)
  refine lv_iload_n hx hb dJ6_bitCount_0f7a4_34 rfl (lv_at hl 0 rfl) ?_
  refine lv_iload_n hx hb dJ6_bitCount_0f7a4_35 rfl (lv_at hl 0 rfl) ?_
  refine lv_bipush (v := 8) hx hb dJ6_bitCount_0f7a4_36 (by decide) ?_
  refine lv_iushr (v := (((v3).toUInt32 >>> (((8 : Int32)).toUInt32 &&& Int32.toUInt32 31)).toInt32)) hx hb dJ6_bitCount_0f7a4_38 rfl ?_
  refine lv_iadd hx hb dJ6_bitCount_0f7a4_39 ?_
  obtain ⟨v4, ev4, hF⟩ := nm_t hF
  refine lv_nmi ev4 ?_
  refine lv_istore_n (lv' := [(0, .int v4)]) hx hb dJ6_bitCount_0f7a4_40 rfl hl (by decide) rfl (fun ls hl => ?_)
  refine lv_iload_n hx hb dJ6_bitCount_0f7a4_41 rfl (lv_at hl 0 rfl) ?_
  refine lv_iload_n hx hb dJ6_bitCount_0f7a4_42 rfl (lv_at hl 0 rfl) ?_
  refine lv_bipush (v := 16) hx hb dJ6_bitCount_0f7a4_43 (by decide) ?_
  refine lv_iushr (v := (((v4).toUInt32 >>> (((16 : Int32)).toUInt32 &&& Int32.toUInt32 31)).toInt32)) hx hb dJ6_bitCount_0f7a4_45 rfl ?_
  refine lv_iadd hx hb dJ6_bitCount_0f7a4_46 ?_
  obtain ⟨v5, ev5, hF⟩ := nm_t hF
  refine lv_nmi ev5 ?_
  refine lv_istore_n (lv' := [(0, .int v5)]) hx hb dJ6_bitCount_0f7a4_47 rfl hl (by decide) rfl (fun ls hl => ?_)
  refine lv_iload_n hx hb dJ6_bitCount_0f7a4_48 rfl (lv_at hl 0 rfl) ?_
  refine lv_bipush (v := 63) hx hb dJ6_bitCount_0f7a4_49 (by decide) ?_
  refine lv_iand hx hb dJ6_bitCount_0f7a4_51 ?_
  exact m_iret hC hr hlk hw hS dJ6_bitCount_0f7a4_52 hF
set_option maxHeartbeats 4000000 in
set_option maxRecDepth 100000 in
theorem c_X5_beginAs (l : Launch) (G : GG) (n : Nat) (hn : 244 ≤ n) (hn2 : 0 ≤ n) (q : Nat) (hq : q < 18) (C : Mem) (rR : Int32) (CR : Mem) (hF : F_X5_beginAs q C = some (rR, CR)) : Ct l yX5_beginAs cX5_beginAs 3 none (rmN 2 44) G n C [.ref (bb G + po q), .ref (bb G + 1)] none CR := by
  refine Ct.of (by decide) (Nat.le_of_ble_eq_true rfl) ?_
  intro p e s m below meth c ls hC hr hlk hw hl
  have hx := hC.1
  have hb := hC.2.1
  have hS : LW G s s.heap [] := va_S.rf
  have hl : lv_has ls 3 [(0, .ref (bb G + po q)), (1, .ref (bb G + 1))] := hl
  unfold F_X5_beginAs at hF
  refine lv_aload_n hx hb dX5_beginAs_0 rfl (lv_at hl 0 rfl) ?_
  refine lv_aload_n hx hb dX5_beginAs_1 rfl (lv_at hl 1 rfl) ?_
  refine gX5_46 hC hw (by omega)  dX5_beginAs_2 ?_
  refine lv_aload_n hx hb dX5_beginAs_5 rfl (lv_at hl 0 rfl) ?_
  refine gX5_11 hC hw (by omega) hq dX5_beginAs_6 ?_
  refine m_alen hC hw (t0 := 2) (by have := po_lt hq; omega) (ca_barr hq) rfl (v := 5) rfl dX5_beginAs_9 ?_
  refine va_mmin hx hb (hC.2.2.1.trans hl.1.symm) hC.2.2.2.1 (hC.2.2.2.2.1 _ kM_min_X5_51) (hC.2.2.2.2.1 _ kM_min.1) (hC.2.2.2.2.1 _ kM_min.2.1) (hC.2.2.2.2.1 _ kM_min.2.2) (by decide) (Nat.le_of_ble_eq_true rfl) (by decide) (by decide) dX5_beginAs_10 ?_
  refine pX5_57 hC hw hS (by omega) hn2 hq dX5_beginAs_13 (fun H locs hw hS _ => ?_)
  obtain ⟨C1, eC1, hF⟩ := nm_t hF
  have hw := Wd.cast eC1 hw
  refine lv_iconst (v := 0) hx hb dX5_beginAs_16 (by decide) ?_
  refine lv_istore_n (lv' := [(2, .int (0 : Int32)), (0, .ref (bb G + po q)), (1, .ref (bb G + 1))]) hx hb dX5_beginAs_17 rfl hl (by decide) rfl (fun ls hl => ?_)
  obtain ⟨o4, hit4, hG4⟩ := b1_t hF
  have hR4 : ∀ (v5 : Int32) (C6 : Mem) (H : Heap) (locs : List Loc) (ls : Array Slot), o4 = (v5, C6) → Wd G n C6 H → LW G s H locs → lv_has ls 3 [(0, .ref (bb G + po q)), (1, .ref (bb G + 1))] → W p l e (rmN 2 44) s m ([.ref (bb G + po q), .ref (bb G + 1)] : List Value).toArray below meth c H locs 0 0 (MQ below (QR G n none CR) ([.ref (bb G + po q), .ref (bb G + 1)] : List Value).toArray s 0 0 (frA G)) (F0 m 53 ls []) := by
    intro v5 C6 H locs ls hE hw hS hl
    subst hE
    have hF := u2_t (hG4)
    refine lv_aload_n hx hb dX5_beginAs_53 rfl (lv_at hl 0 rfl) ?_
    refine gX5_20 hC hw (by omega) hq dX5_beginAs_54 ?_
    refine lv_aload_n hx hb dX5_beginAs_57 rfl (lv_at hl 1 rfl) ?_
    refine gX5_70 hC hw (by omega)  dX5_beginAs_58 ?_
    obtain ⟨r15, C16, hc17, hF⟩ := b2_t hF
    refine call_Vv hC (c_X1_beginAs l G n (by omega) hn2 q hq 0 (show 0 < 2 by decide) (C6 18 3) _ _ _ hc17) wvX5_73 ⟨rfl, rfl, by decide, by decide⟩ hw hS (by have := po_lt hq; have := (show 0 < 2 by decide); omega) (ca_flue hq (show 0 < 2 by decide)) rfl hl.1 rfl (rest := []) rfl (Nat.le_of_ble_eq_true rfl) dX5_beginAs_61 ⟨by decide, by decide⟩ (fun H locs hw hS _ => ?_)
    refine lv_aload_n hx hb dX5_beginAs_64 rfl (lv_at hl 0 rfl) ?_
    refine gX5_24 hC hw (by omega) hq dX5_beginAs_65 ?_
    refine lv_aload_n hx hb dX5_beginAs_68 rfl (lv_at hl 1 rfl) ?_
    refine gX5_76 hC hw (by omega)  dX5_beginAs_69 ?_
    obtain ⟨r18, C19, hc20, hF⟩ := b2_t hF
    refine call_Vv hC (c_X1_beginAs l G n (by omega) hn2 q hq 1 (show 1 < 2 by decide) (C16 18 4) _ _ _ hc20) wvX5_73 ⟨rfl, rfl, by decide, by decide⟩ hw hS (by have := po_lt hq; have := (show 1 < 2 by decide); omega) (ca_flue hq (show 1 < 2 by decide)) rfl hl.1 rfl (rest := []) rfl (Nat.le_of_ble_eq_true rfl) dX5_beginAs_72 ⟨by decide, by decide⟩ (fun H locs hw hS _ => ?_)
    refine lv_iconst (v := 0) hx hb dX5_beginAs_75 (by decide) ?_
    refine lv_istore_n (lv' := [(2, .int (0 : Int32)), (0, .ref (bb G + po q)), (1, .ref (bb G + 1))]) hx hb dX5_beginAs_76 rfl hl (by decide) rfl (fun ls hl => ?_)
    obtain ⟨o23, hit23, hG23⟩ := b1_t hF
    have hR23 : ∀ (v24 : Int32) (C25 : Mem) (H : Heap) (locs : List Loc) (ls : Array Slot), o23 = (v24, C25) → Wd G n C25 H → LW G s H locs → lv_has ls 3 [(0, .ref (bb G + po q)), (1, .ref (bb G + 1))] → W p l e (rmN 2 44) s m ([.ref (bb G + po q), .ref (bb G + 1)] : List Value).toArray below meth c H locs 0 0 (MQ below (QR G n none CR) ([.ref (bb G + po q), .ref (bb G + 1)] : List Value).toArray s 0 0 (frA G)) (F0 m 103 ls []) := by
      intro v24 C25 H locs ls hE hw hS hl
      subst hE
      have hF := u2_t (hG23)
      refine lv_aload_n hx hb dX5_beginAs_103 rfl (lv_at hl 0 rfl) ?_
      refine gX5_34 hC hw (by omega) hq dX5_beginAs_104 ?_
      refine lv_aload_n hx hb dX5_beginAs_107 rfl (lv_at hl 1 rfl) ?_
      refine gX5_82 hC hw (by omega)  dX5_beginAs_108 ?_
      refine lv_aload_n hx hb dX5_beginAs_111 rfl (lv_at hl 1 rfl) ?_
      refine gX5_85 hC hw (by omega)  dX5_beginAs_112 ?_
      obtain ⟨r31, C32, hc33, hF⟩ := b2_t hF
      refine call_Vv hC (c_X7_beginAs l G n (by omega) hn2 q hq (C25 18 2) _ _ _ hc33) wvX5_88 ⟨rfl, rfl, by decide, by decide⟩ hw hS (by have := po_lt hq; omega) (ca_tank hq) rfl hl.1 rfl (rest := []) rfl (Nat.le_of_ble_eq_true rfl) dX5_beginAs_115 ⟨by decide, by decide⟩ (fun H locs hw hS _ => ?_)
      refine lv_aload_n hx hb dX5_beginAs_118 rfl (lv_at hl 0 rfl) ?_
      refine gX5_41 hC hw (by omega) hq dX5_beginAs_119 ?_
      obtain ⟨r34, C35, hc36, hF⟩ := b2_t hF
      refine call_Vv hC (c_X3_beginAsNew l G n (by omega) hn2 q hq _ _ _ hc36) wvX5_91 ⟨rfl, rfl, by decide, by decide⟩ hw hS (by have := po_lt hq; omega) (ca_kill hq) rfl hl.1 rfl (rest := []) rfl (Nat.le_of_ble_eq_true rfl) dX5_beginAs_122 ⟨by decide, by decide⟩ (fun H locs hw hS _ => ?_)
      refine lv_aload_n hx hb dX5_beginAs_125 rfl (lv_at hl 0 rfl) ?_
      refine lv_iconst (v := 0) hx hb dX5_beginAs_126 (by decide) ?_
      refine pX5_94 hC hw hS (by omega) hn2 hq dX5_beginAs_127 (fun H locs hw hS _ => ?_)
      obtain ⟨C37, eC37, hF⟩ := nm_t hF
      have hw := Wd.cast eC37 hw
      refine lv_aload_n hx hb dX5_beginAs_130 rfl (lv_at hl 0 rfl) ?_
      refine lv_iconst (v := 0) hx hb dX5_beginAs_131 (by decide) ?_
      refine pX5_97 hC hw hS (by omega) hn2 hq dX5_beginAs_132 (fun H locs hw hS _ => ?_)
      obtain ⟨C38, eC38, hF⟩ := nm_t hF
      have hw := Wd.cast eC38 hw
      exact m_vret hC hr hlk hw hS dX5_beginAs_135 hF
    refine iter_sound (P := fun x : Int32 × Mem => ∀ (H : Heap) (locs : List Loc) (ls : Array Slot), Wd G n x.2 H → LW G s H locs → lv_has ls 3 [(0, .ref (bb G + po q)), (1, .ref (bb G + 1)), (2, .int x.1)] → W p l e (rmN 2 44) s m ([.ref (bb G + po q), .ref (bb G + 1)] : List Value).toArray below meth c H locs 0 0 (MQ below (QR G n none CR) ([.ref (bb G + po q), .ref (bb G + 1)] : List Value).toArray s 0 0 (frA G)) (F0 m 77 ls [])) (X := fun r => r = o23) ?_ fuel ((0 : Int32), C19) o23 hit23 rfl _ _ _ hw hS (lv_sub hl [1, 2, 0] rfl)
    intro x oo23 hF hk23 hX23 H locs ls hw hS hl
    obtain ⟨v21, C22⟩ := x
    have hF : S_X5_beginAs_77 q v21 C22 = some oo23 := hF
    have hw : Wd G n C22 H := hw
    have hl : lv_has ls 3 [(0, .ref (bb G + po q)), (1, .ref (bb G + 1)), (2, .int v21)] := hl
    unfold S_X5_beginAs_77 at hF
    refine lv_iload_n hx hb dX5_beginAs_77 rfl (lv_at hl 2 rfl) ?_
    refine lv_aload_n hx hb dX5_beginAs_78 rfl (lv_at hl 0 rfl) ?_
    refine gX5_27 hC hw (by omega) hq dX5_beginAs_79 ?_
    refine m_alen hC hw (t0 := 0) (by have := po_lt hq; omega) (ca_sett hq) rfl (v := 6) rfl dX5_beginAs_82 ?_
    refine lv_icmp_ge (tgt := 103) hx hb dX5_beginAs_83 (by decide) (fun h26 => ?_) (fun h26 => ?_)
    · have hF := it_t h26 hF
      exact hR23 _ _ _ _ _ (it_exit hF hX23).symm hw hS (lv_sub hl [0, 1] rfl)
    · have hF := it_f h26 hF
      refine lv_aload_n hx hb dX5_beginAs_86 rfl (lv_at hl 0 rfl) ?_
      refine gX5_27 hC hw (by omega) hq dX5_beginAs_87 ?_
      refine lv_iload_n hx hb dX5_beginAs_90 rfl (lv_at hl 2 rfl) ?_
      refine m_getsN hC hS dX5_beginAs_91 ?_
      refine lv_iload_n hx hb dX5_beginAs_94 rfl (lv_at hl 2 rfl) ?_
      obtain ⟨g27, hF⟩ := gi_t hF
      refine m_sald hC hS hC.2.2.2.2.2.1.2.2.2.1.2 g27 dX5_beginAs_95 ?_
      obtain ⟨g28, hF⟩ := gi_t hF
      refine st_sett hC hw hS (by omega) hq g28 dX5_beginAs_96 (fun H locs hw hS _ => ?_)
      obtain ⟨C29, eC29, hF⟩ := nm_t hF
      have hw := Wd.cast eC29 hw
      obtain ⟨v30, ev30, hF⟩ := nm_t hF
      refine lv_iinc (v := v30) (lv' := [(2, .int v30), (0, .ref (bb G + po q)), (1, .ref (bb G + 1))]) hx hb dX5_beginAs_97 hl (k := 2) rfl (by rw [ev30]; rfl) (by decide) rfl (fun ls hl => ?_)
      refine lv_goto (tgt := 77) hx hb dX5_beginAs_100 (by decide) ?_
      exact it_back hF hk23 _ _ _ hw hS (lv_sub hl [1, 2, 0] rfl)
  refine iter_sound (P := fun x : Int32 × Mem => ∀ (H : Heap) (locs : List Loc) (ls : Array Slot), Wd G n x.2 H → LW G s H locs → lv_has ls 3 [(0, .ref (bb G + po q)), (1, .ref (bb G + 1)), (2, .int x.1)] → W p l e (rmN 2 44) s m ([.ref (bb G + po q), .ref (bb G + 1)] : List Value).toArray below meth c H locs 0 0 (MQ below (QR G n none CR) ([.ref (bb G + po q), .ref (bb G + 1)] : List Value).toArray s 0 0 (frA G)) (F0 m 18 ls [])) (X := fun r => r = o4) ?_ fuel ((0 : Int32), C1) o4 hit4 rfl _ _ _ hw hS (lv_sub hl [1, 2, 0] rfl)
  intro x oo4 hF hk4 hX4 H locs ls hw hS hl
  obtain ⟨v2, C3⟩ := x
  have hF : S_X5_beginAs_18 q v2 C3 = some oo4 := hF
  have hw : Wd G n C3 H := hw
  have hl : lv_has ls 3 [(0, .ref (bb G + po q)), (1, .ref (bb G + 1)), (2, .int v2)] := hl
  unfold S_X5_beginAs_18 at hF
  refine lv_iload_n hx hb dX5_beginAs_18 rfl (lv_at hl 2 rfl) ?_
  refine lv_aload_n hx hb dX5_beginAs_19 rfl (lv_at hl 0 rfl) ?_
  refine gX5_57 hC hw (by omega) hq dX5_beginAs_20 ?_
  refine lv_icmp_ge (tgt := 53) hx hb dX5_beginAs_23 (by decide) (fun h7 => ?_) (fun h7 => ?_)
  · have hF := it_t h7 hF
    exact hR4 _ _ _ _ _ (it_exit hF hX4).symm hw hS (lv_sub hl [0, 1] rfl)
  · have hF := it_f h7 hF
    refine lv_aload_n hx hb dX5_beginAs_26 rfl (lv_at hl 0 rfl) ?_
    refine gX5_11 hC hw (by omega) hq dX5_beginAs_27 ?_
    refine lv_iload_n hx hb dX5_beginAs_30 rfl (lv_at hl 2 rfl) ?_
    obtain ⟨g8, hF⟩ := gi_t hF
    refine ld_barr hC hw (by omega) hq g8 dX5_beginAs_31 ?_
    refine lv_aload_n hx hb dX5_beginAs_32 rfl (lv_at hl 1 rfl) ?_
    refine gX5_60 hC hw (by omega)  dX5_beginAs_33 ?_
    refine lv_iload_n hx hb dX5_beginAs_36 rfl (lv_at hl 2 rfl) ?_
    obtain ⟨g9, hF⟩ := gi_t hF
    refine ld_powers hC hw (by omega)  g9 dX5_beginAs_37 ?_
    refine lv_aload_n hx hb dX5_beginAs_38 rfl (lv_at hl 1 rfl) ?_
    refine gX5_63 hC hw (by omega)  dX5_beginAs_39 ?_
    refine lv_iload_n hx hb dX5_beginAs_42 rfl (lv_at hl 2 rfl) ?_
    obtain ⟨g10, hF⟩ := gi_t hF
    refine ld_flues hC hw (by omega)  g10 dX5_beginAs_43 ?_
    obtain ⟨r11, C12, hc13, hF⟩ := b2_t hF
    refine call_Vv hC (c_X0_beginAs l G n (by omega) hn2 q hq (v2).toNatClampNeg (vp_lt g8) (C3 20 (v2).toNatClampNeg) (C3 21 (v2).toNatClampNeg) _ _ _ hc13) wvX5_66 ⟨rfl, rfl, by decide, by decide⟩ hw hS (by have := po_lt hq; have := (vp_lt g8); omega) (ca_boiler hq (vp_lt g8)) rfl hl.1 rfl (rest := []) rfl (Nat.le_of_ble_eq_true rfl) dX5_beginAs_44 ⟨by decide, by decide⟩ (fun H locs hw hS _ => ?_)
    obtain ⟨v14, ev14, hF⟩ := nm_t hF
    refine lv_iinc (v := v14) (lv' := [(2, .int v14), (0, .ref (bb G + po q)), (1, .ref (bb G + 1))]) hx hb dX5_beginAs_47 hl (k := 2) rfl (by rw [ev14]; rfl) (by decide) rfl (fun ls hl => ?_)
    refine lv_goto (tgt := 18) hx hb dX5_beginAs_50 (by decide) ?_
    exact it_back hF hk4 _ _ _ hw hS (lv_sub hl [1, 2, 0] rfl)
set_option maxHeartbeats 4000000 in
set_option maxRecDepth 100000 in
theorem c_X5_copyFrom (l : Launch) (G : GG) (n : Nat) (hn : 244 ≤ n) (hn2 : 0 ≤ n) (q : Nat) (hq : q < 18) (q0 : Nat) (hq0 : q0 < 18) (C : Mem) (rR : Int32) (CR : Mem) (hF : F_X5_copyFrom q q0 C = some (rR, CR)) : Ct l yX5_copyFrom cX5_copyFrom 3 none (rmN 1 22) G n C [.ref (bb G + po q), .ref (bb G + po q0)] none CR := by
  refine Ct.of (by decide) (Nat.le_of_ble_eq_true rfl) ?_
  intro p e s m below meth c ls hC hr hlk hw hl
  have hx := hC.1
  have hb := hC.2.1
  have hS : LW G s s.heap [] := va_S.rf
  have hl : lv_has ls 3 [(0, .ref (bb G + po q)), (1, .ref (bb G + po q0))] := hl
  unfold F_X5_copyFrom at hF
  refine lv_aload_n hx hb dX5_copyFrom_0 rfl (lv_at hl 0 rfl) ?_
  refine lv_aload_n hx hb dX5_copyFrom_1 rfl (lv_at hl 1 rfl) ?_
  refine gX5_57 hC hw (by omega) hq0 dX5_copyFrom_2 ?_
  refine pX5_57 hC hw hS (by omega) hn2 hq dX5_copyFrom_5 (fun H locs hw hS _ => ?_)
  obtain ⟨C1, eC1, hF⟩ := nm_t hF
  have hw := Wd.cast eC1 hw
  refine lv_iconst (v := 0) hx hb dX5_copyFrom_8 (by decide) ?_
  refine lv_istore_n (lv' := [(2, .int (0 : Int32)), (0, .ref (bb G + po q)), (1, .ref (bb G + po q0))]) hx hb dX5_copyFrom_9 rfl hl (by decide) rfl (fun ls hl => ?_)
  obtain ⟨o4, hit4, hG4⟩ := b1_t hF
  have hR4 : ∀ (v5 : Int32) (C6 : Mem) (H : Heap) (locs : List Loc) (ls : Array Slot), o4 = (v5, C6) → Wd G n C6 H → LW G s H locs → lv_has ls 3 [(0, .ref (bb G + po q)), (1, .ref (bb G + po q0))] → W p l e (rmN 1 22) s m ([.ref (bb G + po q), .ref (bb G + po q0)] : List Value).toArray below meth c H locs 0 0 (MQ below (QR G n none CR) ([.ref (bb G + po q), .ref (bb G + po q0)] : List Value).toArray s 0 0 (frA G)) (F0 m 39 ls []) := by
    intro v5 C6 H locs ls hE hw hS hl
    subst hE
    have hF := u2_t (hG4)
    refine lv_aload_n hx hb dX5_copyFrom_39 rfl (lv_at hl 0 rfl) ?_
    refine gX5_20 hC hw (by omega) hq dX5_copyFrom_40 ?_
    refine lv_aload_n hx hb dX5_copyFrom_43 rfl (lv_at hl 1 rfl) ?_
    refine gX5_20 hC hw (by omega) hq0 dX5_copyFrom_44 ?_
    obtain ⟨r14, C15, hc16, hF⟩ := b2_t hF
    refine call_Vv hC (c_X1_copyFrom l G n (by omega) hn2 q hq 0 (show 0 < 2 by decide) q0 hq0 0 (show 0 < 2 by decide) _ _ _ hc16) wvX5_104 ⟨rfl, rfl, by decide, by decide⟩ hw hS (by have := po_lt hq; have := (show 0 < 2 by decide); omega) (ca_flue hq (show 0 < 2 by decide)) rfl hl.1 rfl (rest := []) rfl (Nat.le_of_ble_eq_true rfl) dX5_copyFrom_47 ⟨by decide, by decide⟩ (fun H locs hw hS _ => ?_)
    refine lv_aload_n hx hb dX5_copyFrom_50 rfl (lv_at hl 0 rfl) ?_
    refine gX5_24 hC hw (by omega) hq dX5_copyFrom_51 ?_
    refine lv_aload_n hx hb dX5_copyFrom_54 rfl (lv_at hl 1 rfl) ?_
    refine gX5_24 hC hw (by omega) hq0 dX5_copyFrom_55 ?_
    obtain ⟨r17, C18, hc19, hF⟩ := b2_t hF
    refine call_Vv hC (c_X1_copyFrom l G n (by omega) hn2 q hq 1 (show 1 < 2 by decide) q0 hq0 1 (show 1 < 2 by decide) _ _ _ hc19) wvX5_104 ⟨rfl, rfl, by decide, by decide⟩ hw hS (by have := po_lt hq; have := (show 1 < 2 by decide); omega) (ca_flue hq (show 1 < 2 by decide)) rfl hl.1 rfl (rest := []) rfl (Nat.le_of_ble_eq_true rfl) dX5_copyFrom_58 ⟨by decide, by decide⟩ (fun H locs hw hS _ => ?_)
    refine lv_iconst (v := 0) hx hb dX5_copyFrom_61 (by decide) ?_
    refine lv_istore_n (lv' := [(2, .int (0 : Int32)), (0, .ref (bb G + po q)), (1, .ref (bb G + po q0))]) hx hb dX5_copyFrom_62 rfl hl (by decide) rfl (fun ls hl => ?_)
    obtain ⟨o22, hit22, hG22⟩ := b1_t hF
    have hR22 : ∀ (v23 : Int32) (C24 : Mem) (H : Heap) (locs : List Loc) (ls : Array Slot), o22 = (v23, C24) → Wd G n C24 H → LW G s H locs → lv_has ls 3 [(0, .ref (bb G + po q)), (1, .ref (bb G + po q0))] → W p l e (rmN 1 22) s m ([.ref (bb G + po q), .ref (bb G + po q0)] : List Value).toArray below meth c H locs 0 0 (MQ below (QR G n none CR) ([.ref (bb G + po q), .ref (bb G + po q0)] : List Value).toArray s 0 0 (frA G)) (F0 m 90 ls []) := by
      intro v23 C24 H locs ls hE hw hS hl
      subst hE
      have hF := u2_t (hG22)
      refine lv_aload_n hx hb dX5_copyFrom_90 rfl (lv_at hl 0 rfl) ?_
      refine gX5_34 hC hw (by omega) hq dX5_copyFrom_91 ?_
      refine lv_aload_n hx hb dX5_copyFrom_94 rfl (lv_at hl 1 rfl) ?_
      refine gX5_34 hC hw (by omega) hq0 dX5_copyFrom_95 ?_
      obtain ⟨r30, C31, hc32, hF⟩ := b2_t hF
      refine call_Vv hC (c_X7_copyFrom l G n (by omega) hn2 q hq q0 hq0 _ _ _ hc32) wvX5_107 ⟨rfl, rfl, by decide, by decide⟩ hw hS (by have := po_lt hq; omega) (ca_tank hq) rfl hl.1 rfl (rest := []) rfl (Nat.le_of_ble_eq_true rfl) dX5_copyFrom_98 ⟨by decide, by decide⟩ (fun H locs hw hS _ => ?_)
      refine lv_aload_n hx hb dX5_copyFrom_101 rfl (lv_at hl 0 rfl) ?_
      refine gX5_41 hC hw (by omega) hq dX5_copyFrom_102 ?_
      refine lv_aload_n hx hb dX5_copyFrom_105 rfl (lv_at hl 1 rfl) ?_
      refine gX5_41 hC hw (by omega) hq0 dX5_copyFrom_106 ?_
      obtain ⟨r33, C34, hc35, hF⟩ := b2_t hF
      refine call_Vv hC (c_X3_copyFrom l G n (by omega) hn2 q hq q0 hq0 _ _ _ hc35) wvX5_110 ⟨rfl, rfl, by decide, by decide⟩ hw hS (by have := po_lt hq; omega) (ca_kill hq) rfl hl.1 rfl (rest := []) rfl (Nat.le_of_ble_eq_true rfl) dX5_copyFrom_109 ⟨by decide, by decide⟩ (fun H locs hw hS _ => ?_)
      refine lv_aload_n hx hb dX5_copyFrom_112 rfl (lv_at hl 0 rfl) ?_
      refine lv_aload_n hx hb dX5_copyFrom_113 rfl (lv_at hl 1 rfl) ?_
      refine gX5_94 hC hw (by omega) hq0 dX5_copyFrom_114 ?_
      refine pX5_94 hC hw hS (by omega) hn2 hq dX5_copyFrom_117 (fun H locs hw hS _ => ?_)
      obtain ⟨C36, eC36, hF⟩ := nm_t hF
      have hw := Wd.cast eC36 hw
      refine lv_aload_n hx hb dX5_copyFrom_120 rfl (lv_at hl 0 rfl) ?_
      refine lv_aload_n hx hb dX5_copyFrom_121 rfl (lv_at hl 1 rfl) ?_
      refine gX5_97 hC hw (by omega) hq0 dX5_copyFrom_122 ?_
      refine pX5_97 hC hw hS (by omega) hn2 hq dX5_copyFrom_125 (fun H locs hw hS _ => ?_)
      obtain ⟨C37, eC37, hF⟩ := nm_t hF
      have hw := Wd.cast eC37 hw
      exact m_vret hC hr hlk hw hS dX5_copyFrom_128 hF
    refine iter_sound (P := fun x : Int32 × Mem => ∀ (H : Heap) (locs : List Loc) (ls : Array Slot), Wd G n x.2 H → LW G s H locs → lv_has ls 3 [(0, .ref (bb G + po q)), (1, .ref (bb G + po q0)), (2, .int x.1)] → W p l e (rmN 1 22) s m ([.ref (bb G + po q), .ref (bb G + po q0)] : List Value).toArray below meth c H locs 0 0 (MQ below (QR G n none CR) ([.ref (bb G + po q), .ref (bb G + po q0)] : List Value).toArray s 0 0 (frA G)) (F0 m 63 ls [])) (X := fun r => r = o22) ?_ fuel ((0 : Int32), C18) o22 hit22 rfl _ _ _ hw hS (lv_sub hl [1, 2, 0] rfl)
    intro x oo22 hF hk22 hX22 H locs ls hw hS hl
    obtain ⟨v20, C21⟩ := x
    have hF : S_X5_copyFrom_63 q q0 v20 C21 = some oo22 := hF
    have hw : Wd G n C21 H := hw
    have hl : lv_has ls 3 [(0, .ref (bb G + po q)), (1, .ref (bb G + po q0)), (2, .int v20)] := hl
    unfold S_X5_copyFrom_63 at hF
    refine lv_iload_n hx hb dX5_copyFrom_63 rfl (lv_at hl 2 rfl) ?_
    refine lv_aload_n hx hb dX5_copyFrom_64 rfl (lv_at hl 0 rfl) ?_
    refine gX5_27 hC hw (by omega) hq dX5_copyFrom_65 ?_
    refine m_alen hC hw (t0 := 0) (by have := po_lt hq; omega) (ca_sett hq) rfl (v := 6) rfl dX5_copyFrom_68 ?_
    refine lv_icmp_ge (tgt := 90) hx hb dX5_copyFrom_69 (by decide) (fun h25 => ?_) (fun h25 => ?_)
    · have hF := it_t h25 hF
      exact hR22 _ _ _ _ _ (it_exit hF hX22).symm hw hS (lv_sub hl [0, 1] rfl)
    · have hF := it_f h25 hF
      refine lv_aload_n hx hb dX5_copyFrom_72 rfl (lv_at hl 0 rfl) ?_
      refine gX5_27 hC hw (by omega) hq dX5_copyFrom_73 ?_
      refine lv_iload_n hx hb dX5_copyFrom_76 rfl (lv_at hl 2 rfl) ?_
      refine lv_aload_n hx hb dX5_copyFrom_77 rfl (lv_at hl 1 rfl) ?_
      refine gX5_27 hC hw (by omega) hq0 dX5_copyFrom_78 ?_
      refine lv_iload_n hx hb dX5_copyFrom_81 rfl (lv_at hl 2 rfl) ?_
      obtain ⟨g26, hF⟩ := gi_t hF
      refine ld_sett hC hw (by omega) hq0 g26 dX5_copyFrom_82 ?_
      obtain ⟨g27, hF⟩ := gi_t hF
      refine st_sett hC hw hS (by omega) hq g27 dX5_copyFrom_83 (fun H locs hw hS _ => ?_)
      obtain ⟨C28, eC28, hF⟩ := nm_t hF
      have hw := Wd.cast eC28 hw
      obtain ⟨v29, ev29, hF⟩ := nm_t hF
      refine lv_iinc (v := v29) (lv' := [(2, .int v29), (0, .ref (bb G + po q)), (1, .ref (bb G + po q0))]) hx hb dX5_copyFrom_84 hl (k := 2) rfl (by rw [ev29]; rfl) (by decide) rfl (fun ls hl => ?_)
      refine lv_goto (tgt := 63) hx hb dX5_copyFrom_87 (by decide) ?_
      exact it_back hF hk22 _ _ _ hw hS (lv_sub hl [1, 2, 0] rfl)
  refine iter_sound (P := fun x : Int32 × Mem => ∀ (H : Heap) (locs : List Loc) (ls : Array Slot), Wd G n x.2 H → LW G s H locs → lv_has ls 3 [(0, .ref (bb G + po q)), (1, .ref (bb G + po q0)), (2, .int x.1)] → W p l e (rmN 1 22) s m ([.ref (bb G + po q), .ref (bb G + po q0)] : List Value).toArray below meth c H locs 0 0 (MQ below (QR G n none CR) ([.ref (bb G + po q), .ref (bb G + po q0)] : List Value).toArray s 0 0 (frA G)) (F0 m 10 ls [])) (X := fun r => r = o4) ?_ fuel ((0 : Int32), C1) o4 hit4 rfl _ _ _ hw hS (lv_sub hl [1, 2, 0] rfl)
  intro x oo4 hF hk4 hX4 H locs ls hw hS hl
  obtain ⟨v2, C3⟩ := x
  have hF : S_X5_copyFrom_10 q q0 v2 C3 = some oo4 := hF
  have hw : Wd G n C3 H := hw
  have hl : lv_has ls 3 [(0, .ref (bb G + po q)), (1, .ref (bb G + po q0)), (2, .int v2)] := hl
  unfold S_X5_copyFrom_10 at hF
  refine lv_iload_n hx hb dX5_copyFrom_10 rfl (lv_at hl 2 rfl) ?_
  refine lv_aload_n hx hb dX5_copyFrom_11 rfl (lv_at hl 0 rfl) ?_
  refine gX5_57 hC hw (by omega) hq dX5_copyFrom_12 ?_
  refine lv_icmp_ge (tgt := 39) hx hb dX5_copyFrom_15 (by decide) (fun h7 => ?_) (fun h7 => ?_)
  · have hF := it_t h7 hF
    exact hR4 _ _ _ _ _ (it_exit hF hX4).symm hw hS (lv_sub hl [0, 1] rfl)
  · have hF := it_f h7 hF
    refine lv_aload_n hx hb dX5_copyFrom_18 rfl (lv_at hl 0 rfl) ?_
    refine gX5_11 hC hw (by omega) hq dX5_copyFrom_19 ?_
    refine lv_iload_n hx hb dX5_copyFrom_22 rfl (lv_at hl 2 rfl) ?_
    obtain ⟨g8, hF⟩ := gi_t hF
    refine ld_barr hC hw (by omega) hq g8 dX5_copyFrom_23 ?_
    refine lv_aload_n hx hb dX5_copyFrom_24 rfl (lv_at hl 1 rfl) ?_
    refine gX5_11 hC hw (by omega) hq0 dX5_copyFrom_25 ?_
    refine lv_iload_n hx hb dX5_copyFrom_28 rfl (lv_at hl 2 rfl) ?_
    obtain ⟨g9, hF⟩ := gi_t hF
    refine ld_barr hC hw (by omega) hq0 g9 dX5_copyFrom_29 ?_
    obtain ⟨r10, C11, hc12, hF⟩ := b2_t hF
    refine call_Vv hC (c_X0_copyFrom l G n (by omega) hn2 q hq (v2).toNatClampNeg (vp_lt g9) q0 hq0 (v2).toNatClampNeg (vp_lt g9) _ _ _ hc12) wvX5_100 ⟨rfl, rfl, by decide, by decide⟩ hw hS (by have := po_lt hq; have := (vp_lt g9); omega) (ca_boiler hq (vp_lt g9)) rfl hl.1 rfl (rest := []) rfl (Nat.le_of_ble_eq_true rfl) dX5_copyFrom_30 ⟨by decide, by decide⟩ (fun H locs hw hS _ => ?_)
    obtain ⟨v13, ev13, hF⟩ := nm_t hF
    refine lv_iinc (v := v13) (lv' := [(2, .int v13), (0, .ref (bb G + po q)), (1, .ref (bb G + po q0))]) hx hb dX5_copyFrom_33 hl (k := 2) rfl (by rw [ev13]; rfl) (by decide) rfl (fun ls hl => ?_)
    refine lv_goto (tgt := 10) hx hb dX5_copyFrom_36 (by decide) ?_
    exact it_back hF hk4 _ _ _ hw hS (lv_sub hl [1, 2, 0] rfl)
set_option maxHeartbeats 4000000 in
set_option maxRecDepth 100000 in
theorem c_X5_hasBoiler (l : Launch) (G : GG) (n : Nat) (hn : 244 ≤ n) (hn2 : 0 ≤ n) (q : Nat) (hq : q < 18) (x0 : Int32) (C : Mem) (rR : Int32) (CR : Mem) (hF : F_X5_hasBoiler q x0 C = some (rR, CR)) : Ct l yX5_hasBoiler cX5_hasBoiler 2 (some .boolean) (rmN 0 0) G n C [.ref (bb G + po q), .int x0] (some (.int rR)) CR := by
  refine Ct.of (by decide) (Nat.le_of_ble_eq_true rfl) ?_
  intro p e s m below meth c ls hC hr hlk hw hl
  have hx := hC.1
  have hb := hC.2.1
  have hS : LW G s s.heap [] := va_S.rf
  have hl : lv_has ls 2 [(0, .ref (bb G + po q)), (1, .int x0)] := hl
  unfold F_X5_hasBoiler at hF
  refine lv_iload_n hx hb dX5_hasBoiler_0 rfl (lv_at hl 1 rfl) ?_
  refine lv_if_lt (tgt := 16) hx hb dX5_hasBoiler_1 (by decide) (fun h1 => ?_) (fun h1 => ?_)
  · have hF := it_t h1 hF
    refine lv_iconst (v := 0) hx hb dX5_hasBoiler_16 (by decide) ?_
    exact m_zret hC hr hlk hw hS dX5_hasBoiler_17 (by decide) hF
  · have hF := it_f h1 hF
    refine lv_iload_n hx hb dX5_hasBoiler_4 rfl (lv_at hl 1 rfl) ?_
    refine lv_aload_n hx hb dX5_hasBoiler_5 rfl (lv_at hl 0 rfl) ?_
    refine gX5_57 hC hw (by omega) hq dX5_hasBoiler_6 ?_
    refine lv_icmp_ge (tgt := 16) hx hb dX5_hasBoiler_9 (by decide) (fun h2 => ?_) (fun h2 => ?_)
    · have hF := it_t h2 hF
      refine lv_iconst (v := 0) hx hb dX5_hasBoiler_16 (by decide) ?_
      exact m_zret hC hr hlk hw hS dX5_hasBoiler_17 (by decide) hF
    · have hF := it_f h2 hF
      refine lv_iconst (v := 1) hx hb dX5_hasBoiler_12 (by decide) ?_
      refine lv_goto (tgt := 17) hx hb dX5_hasBoiler_13 (by decide) ?_
      exact m_zret hC hr hlk hw hS dX5_hasBoiler_17 (by decide) hF
set_option maxHeartbeats 4000000 in
set_option maxRecDepth 100000 in
theorem c_X5_flueOf (l : Launch) (G : GG) (n : Nat) (hn : 244 ≤ n) (hn2 : 0 ≤ n) (q : Nat) (hq : q < 18) (x0 : Int32) (C : Mem) (rR : Nat) (CR : Mem) (hF : F_X5_flueOf q x0 C = some (rR, CR)) : Ct l yX5_flueOf cX5_flueOf 2 (some (.object "BoilerCascade$Flue")) (rmN 0 0) G n C [.ref (bb G + po q), .int x0] (some (.ref (bb G + (po q + (2 + rR))))) CR := by
  refine Ct.of (by decide) (Nat.le_of_ble_eq_true rfl) ?_
  intro p e s m below meth c ls hC hr hlk hw hl
  have hx := hC.1
  have hb := hC.2.1
  have hS : LW G s s.heap [] := va_S.rf
  have hl : lv_has ls 2 [(0, .ref (bb G + po q)), (1, .int x0)] := hl
  unfold F_X5_flueOf at hF
  refine lv_iload_n hx hb dX5_flueOf_0 rfl (lv_at hl 1 rfl) ?_
  refine lv_if_ne (tgt := 11) hx hb dX5_flueOf_1 (by decide) (fun h1 => ?_) (fun h1 => ?_)
  · have hF := it_f h1 hF
    refine lv_aload_n hx hb dX5_flueOf_11 rfl (lv_at hl 0 rfl) ?_
    refine gX5_24 hC hw (by omega) hq dX5_flueOf_12 ?_
    exact m_aret (f := 1) (ad := fun f => bb G + (po q + (2 + f))) hC hr hlk hw hS dX5_flueOf_15 hF
  · have hF := it_t h1 hF
    refine lv_aload_n hx hb dX5_flueOf_4 rfl (lv_at hl 0 rfl) ?_
    refine gX5_20 hC hw (by omega) hq dX5_flueOf_5 ?_
    refine lv_goto (tgt := 15) hx hb dX5_flueOf_8 (by decide) ?_
    exact m_aret (f := 0) (ad := fun f => bb G + (po q + (2 + f))) hC hr hlk hw hS dX5_flueOf_15 hF
set_option maxHeartbeats 4000000 in
set_option maxRecDepth 100000 in
theorem c_X5_useOf (l : Launch) (G : GG) (n : Nat) (hn : 244 ≤ n) (hn2 : 0 ≤ n) (q : Nat) (hq : q < 18) (x0 : Int32) (C : Mem) (rR : Int32) (CR : Mem) (hF : F_X5_useOf q x0 C = some (rR, CR)) : Ct l yX5_useOf cX5_useOf 5 (some .int) (rmN 0 0) G n C [.ref (bb G + po q), .int x0] (some (.int rR)) CR := by
  refine Ct.of (by decide) (Nat.le_of_ble_eq_true rfl) ?_
  intro p e s m below meth c ls hC hr hlk hw hl
  have hx := hC.1
  have hb := hC.2.1
  have hS : LW G s s.heap [] := va_S.rf
  have hl : lv_has ls 5 [(0, .ref (bb G + po q)), (1, .int x0)] := hl
  unfold F_X5_useOf at hF
  refine lv_iconst (v := 0) hx hb dX5_useOf_0 (by decide) ?_
  refine lv_istore_n (lv' := [(2, .int (0 : Int32)), (0, .ref (bb G + po q)), (1, .int x0)]) hx hb dX5_useOf_1 rfl hl (by decide) rfl (fun ls hl => ?_)
  refine lv_iconst (v := 0) hx hb dX5_useOf_2 (by decide) ?_
  refine lv_istore_n (lv' := [(3, .int (0 : Int32)), (2, .int (0 : Int32)), (0, .ref (bb G + po q)), (1, .int x0)]) hx hb dX5_useOf_3 rfl hl (by decide) rfl (fun ls hl => ?_)
  obtain ⟨o4, hit4, hG4⟩ := b1_t hF
  have hR4 : ∀ (v5 : Int32) (v6 : Int32) (C7 : Mem) (H : Heap) (locs : List Loc) (ls : Array Slot), o4 = (v5, v6, C7) → Wd G n C7 H → LW G s H locs → lv_has ls 5 [(2, .int v5)] → W p l e (rmN 0 0) s m ([.ref (bb G + po q), .int x0] : List Value).toArray below meth c H locs 0 0 (MQ below (QR G n (some (.int rR)) CR) ([.ref (bb G + po q), .int x0] : List Value).toArray s 0 0 (frA G)) (F0 m 61 ls []) := by
    intro v5 v6 C7 H locs ls hE hw hS hl
    subst hE
    have hF := u3_t (hG4)
    refine lv_iload_n hx hb dX5_useOf_61 rfl (lv_at hl 0 rfl) ?_
    exact m_iret hC hr hlk hw hS dX5_useOf_62 hF
  refine iter_sound (P := fun x : Int32 × Int32 × Mem => ∀ (H : Heap) (locs : List Loc) (ls : Array Slot), Wd G n x.2.2 H → LW G s H locs → lv_has ls 5 [(0, .ref (bb G + po q)), (1, .int x0), (2, .int x.1), (3, .int x.2.1)] → W p l e (rmN 0 0) s m ([.ref (bb G + po q), .int x0] : List Value).toArray below meth c H locs 0 0 (MQ below (QR G n (some (.int rR)) CR) ([.ref (bb G + po q), .int x0] : List Value).toArray s 0 0 (frA G)) (F0 m 4 ls [])) (X := fun r => r = o4) ?_ fuel ((0 : Int32), (0 : Int32), C) o4 hit4 rfl _ _ _ hw hS (lv_sub hl [2, 3, 1, 0] rfl)
  intro x oo4 hF hk4 hX4 H locs ls hw hS hl
  obtain ⟨v1, v2, C3⟩ := x
  have hF : S_X5_useOf_4 q x0 v1 v2 C3 = some oo4 := hF
  have hw : Wd G n C3 H := hw
  have hl : lv_has ls 5 [(0, .ref (bb G + po q)), (1, .int x0), (2, .int v1), (3, .int v2)] := hl
  unfold S_X5_useOf_4 at hF
  refine lv_iload_n hx hb dX5_useOf_4 rfl (lv_at hl 3 rfl) ?_
  refine lv_aload_n hx hb dX5_useOf_5 rfl (lv_at hl 0 rfl) ?_
  refine gX5_57 hC hw (by omega) hq dX5_useOf_6 ?_
  refine lv_icmp_ge (tgt := 61) hx hb dX5_useOf_9 (by decide) (fun h8 => ?_) (fun h8 => ?_)
  · have hF := it_t h8 hF
    exact hR4 _ _ _ _ _ _ (it_exit hF hX4).symm hw hS (lv_sub hl [2] rfl)
  · have hF := it_f h8 hF
    refine lv_aload_n hx hb dX5_useOf_12 rfl (lv_at hl 0 rfl) ?_
    refine gX5_11 hC hw (by omega) hq dX5_useOf_13 ?_
    refine lv_iload_n hx hb dX5_useOf_16 rfl (lv_at hl 3 rfl) ?_
    obtain ⟨g9, hF⟩ := gi_t hF
    refine ld_barr hC hw (by omega) hq g9 dX5_useOf_17 ?_
    refine lv_astore (lv' := [(4, .ref (bb G + (po q + (8 + (v2).toNatClampNeg)))), (0, .ref (bb G + po q)), (1, .int x0), (2, .int v1), (3, .int v2)]) hx hb dX5_useOf_18 hl (by decide) rfl (fun ls hl => ?_)
    refine lv_aload hx hb dX5_useOf_20 (lv_at hl 0 rfl) ?_
    refine gX5_113 hC hw (by omega) hq (vp_lt g9) dX5_useOf_22 ?_
    refine lv_iload_n hx hb dX5_useOf_25 rfl (lv_at hl 2 rfl) ?_
    refine lv_icmp_ne (tgt := 55) hx hb dX5_useOf_26 (by decide) (fun h10 => ?_) (fun h10 => ?_)
    · have hF := it_f h10 hF
      obtain ⟨v11, ev11, hF⟩ := nm_t hF
      refine lv_iinc (v := v11) (lv' := [(3, .int v11), (4, .ref (bb G + (po q + (8 + (v2).toNatClampNeg)))), (0, .ref (bb G + po q)), (1, .int x0), (2, .int v1)]) hx hb dX5_useOf_55 hl (k := 4) rfl (by rw [ev11]; rfl) (by decide) rfl (fun ls hl => ?_)
      refine lv_goto (tgt := 4) hx hb dX5_useOf_58 (by decide) ?_
      exact it_back hF hk4 _ _ _ hw hS (lv_sub hl [2, 3, 4, 0] rfl)
    · have hF := it_t h10 hF
      refine lv_aload hx hb dX5_useOf_29 (lv_at hl 0 rfl) ?_
      refine gX5_116 hC hw (by omega) hq (vp_lt g9) dX5_useOf_31 ?_
      refine lv_iconst (v := 1) hx hb dX5_useOf_34 (by decide) ?_
      refine lv_icmp_eq (tgt := 47) hx hb dX5_useOf_35 (by decide) (fun h12 => ?_) (fun h12 => ?_)
      · have hF := it_t h12 hF
        refine lv_iload_n hx hb dX5_useOf_47 rfl (lv_at hl 3 rfl) ?_
        refine lv_aload hx hb dX5_useOf_48 (lv_at hl 0 rfl) ?_
        refine gX5_119 hC hw (by omega) hq (vp_lt g9) dX5_useOf_50 ?_
        refine lv_iadd hx hb dX5_useOf_53 ?_
        obtain ⟨v13, ev13, hF⟩ := nm_t hF
        refine lv_nmi ev13 ?_
        refine lv_istore_n (lv' := [(2, .int v13), (4, .ref (bb G + (po q + (8 + (v2).toNatClampNeg)))), (0, .ref (bb G + po q)), (1, .int x0), (3, .int v2)]) hx hb dX5_useOf_54 rfl hl (by decide) rfl (fun ls hl => ?_)
        obtain ⟨v14, ev14, hF⟩ := nm_t hF
        refine lv_iinc (v := v14) (lv' := [(3, .int v14), (2, .int v13), (4, .ref (bb G + (po q + (8 + (v2).toNatClampNeg)))), (0, .ref (bb G + po q)), (1, .int x0)]) hx hb dX5_useOf_55 hl (k := 4) rfl (by rw [ev14]; rfl) (by decide) rfl (fun ls hl => ?_)
        refine lv_goto (tgt := 4) hx hb dX5_useOf_58 (by decide) ?_
        exact it_back hF hk4 _ _ _ hw hS (lv_sub hl [3, 4, 1, 0] rfl)
      · have hF := it_f h12 hF
        refine lv_aload hx hb dX5_useOf_38 (lv_at hl 0 rfl) ?_
        refine gX5_116 hC hw (by omega) hq (vp_lt g9) dX5_useOf_40 ?_
        refine lv_iconst (v := 2) hx hb dX5_useOf_43 (by decide) ?_
        refine lv_icmp_ne (tgt := 55) hx hb dX5_useOf_44 (by decide) (fun h15 => ?_) (fun h15 => ?_)
        · have hF := it_f h15 hF
          obtain ⟨v16, ev16, hF⟩ := nm_t hF
          refine lv_iinc (v := v16) (lv' := [(3, .int v16), (4, .ref (bb G + (po q + (8 + (v2).toNatClampNeg)))), (0, .ref (bb G + po q)), (1, .int x0), (2, .int v1)]) hx hb dX5_useOf_55 hl (k := 4) rfl (by rw [ev16]; rfl) (by decide) rfl (fun ls hl => ?_)
          refine lv_goto (tgt := 4) hx hb dX5_useOf_58 (by decide) ?_
          exact it_back hF hk4 _ _ _ hw hS (lv_sub hl [2, 3, 4, 0] rfl)
        · have hF := it_t h15 hF
          refine lv_iload_n hx hb dX5_useOf_47 rfl (lv_at hl 3 rfl) ?_
          refine lv_aload hx hb dX5_useOf_48 (lv_at hl 0 rfl) ?_
          refine gX5_119 hC hw (by omega) hq (vp_lt g9) dX5_useOf_50 ?_
          refine lv_iadd hx hb dX5_useOf_53 ?_
          obtain ⟨v17, ev17, hF⟩ := nm_t hF
          refine lv_nmi ev17 ?_
          refine lv_istore_n (lv' := [(2, .int v17), (4, .ref (bb G + (po q + (8 + (v2).toNatClampNeg)))), (0, .ref (bb G + po q)), (1, .int x0), (3, .int v2)]) hx hb dX5_useOf_54 rfl hl (by decide) rfl (fun ls hl => ?_)
          obtain ⟨v18, ev18, hF⟩ := nm_t hF
          refine lv_iinc (v := v18) (lv' := [(3, .int v18), (2, .int v17), (4, .ref (bb G + (po q + (8 + (v2).toNatClampNeg)))), (0, .ref (bb G + po q)), (1, .int x0)]) hx hb dX5_useOf_55 hl (k := 4) rfl (by rw [ev18]; rfl) (by decide) rfl (fun ls hl => ?_)
          refine lv_goto (tgt := 4) hx hb dX5_useOf_58 (by decide) ?_
          exact it_back hF hk4 _ _ _ hw hS (lv_sub hl [3, 4, 1, 0] rfl)
set_option maxHeartbeats 4000000 in
set_option maxRecDepth 100000 in
theorem c_X5_countAtFlue (l : Launch) (G : GG) (n : Nat) (hn : 244 ≤ n) (hn2 : 0 ≤ n) (q : Nat) (hq : q < 18) (x0 : Int32) (C : Mem) (rR : Int32) (CR : Mem) (hF : F_X5_countAtFlue q x0 C = some (rR, CR)) : Ct l yX5_countAtFlue cX5_countAtFlue 4 (some .int) (rmN 0 0) G n C [.ref (bb G + po q), .int x0] (some (.int rR)) CR := by
  refine Ct.of (by decide) (Nat.le_of_ble_eq_true rfl) ?_
  intro p e s m below meth c ls hC hr hlk hw hl
  have hx := hC.1
  have hb := hC.2.1
  have hS : LW G s s.heap [] := va_S.rf
  have hl : lv_has ls 4 [(0, .ref (bb G + po q)), (1, .int x0)] := hl
  unfold F_X5_countAtFlue at hF
  refine lv_iconst (v := 0) hx hb dX5_countAtFlue_0 (by decide) ?_
  refine lv_istore_n (lv' := [(2, .int (0 : Int32)), (0, .ref (bb G + po q)), (1, .int x0)]) hx hb dX5_countAtFlue_1 rfl hl (by decide) rfl (fun ls hl => ?_)
  refine lv_iconst (v := 0) hx hb dX5_countAtFlue_2 (by decide) ?_
  refine lv_istore_n (lv' := [(3, .int (0 : Int32)), (2, .int (0 : Int32)), (0, .ref (bb G + po q)), (1, .int x0)]) hx hb dX5_countAtFlue_3 rfl hl (by decide) rfl (fun ls hl => ?_)
  obtain ⟨o4, hit4, hG4⟩ := b1_t hF
  have hR4 : ∀ (v5 : Int32) (v6 : Int32) (C7 : Mem) (H : Heap) (locs : List Loc) (ls : Array Slot), o4 = (v5, v6, C7) → Wd G n C7 H → LW G s H locs → lv_has ls 4 [(2, .int v5)] → W p l e (rmN 0 0) s m ([.ref (bb G + po q), .int x0] : List Value).toArray below meth c H locs 0 0 (MQ below (QR G n (some (.int rR)) CR) ([.ref (bb G + po q), .int x0] : List Value).toArray s 0 0 (frA G)) (F0 m 34 ls []) := by
    intro v5 v6 C7 H locs ls hE hw hS hl
    subst hE
    have hF := u3_t (hG4)
    refine lv_iload_n hx hb dX5_countAtFlue_34 rfl (lv_at hl 0 rfl) ?_
    exact m_iret hC hr hlk hw hS dX5_countAtFlue_35 hF
  refine iter_sound (P := fun x : Int32 × Int32 × Mem => ∀ (H : Heap) (locs : List Loc) (ls : Array Slot), Wd G n x.2.2 H → LW G s H locs → lv_has ls 4 [(0, .ref (bb G + po q)), (1, .int x0), (2, .int x.1), (3, .int x.2.1)] → W p l e (rmN 0 0) s m ([.ref (bb G + po q), .int x0] : List Value).toArray below meth c H locs 0 0 (MQ below (QR G n (some (.int rR)) CR) ([.ref (bb G + po q), .int x0] : List Value).toArray s 0 0 (frA G)) (F0 m 4 ls [])) (X := fun r => r = o4) ?_ fuel ((0 : Int32), (0 : Int32), C) o4 hit4 rfl _ _ _ hw hS (lv_sub hl [2, 3, 1, 0] rfl)
  intro x oo4 hF hk4 hX4 H locs ls hw hS hl
  obtain ⟨v1, v2, C3⟩ := x
  have hF : S_X5_countAtFlue_4 q x0 v1 v2 C3 = some oo4 := hF
  have hw : Wd G n C3 H := hw
  have hl : lv_has ls 4 [(0, .ref (bb G + po q)), (1, .int x0), (2, .int v1), (3, .int v2)] := hl
  unfold S_X5_countAtFlue_4 at hF
  refine lv_iload_n hx hb dX5_countAtFlue_4 rfl (lv_at hl 3 rfl) ?_
  refine lv_aload_n hx hb dX5_countAtFlue_5 rfl (lv_at hl 0 rfl) ?_
  refine gX5_57 hC hw (by omega) hq dX5_countAtFlue_6 ?_
  refine lv_icmp_ge (tgt := 34) hx hb dX5_countAtFlue_9 (by decide) (fun h8 => ?_) (fun h8 => ?_)
  · have hF := it_t h8 hF
    exact hR4 _ _ _ _ _ _ (it_exit hF hX4).symm hw hS (lv_sub hl [2] rfl)
  · have hF := it_f h8 hF
    refine lv_aload_n hx hb dX5_countAtFlue_12 rfl (lv_at hl 0 rfl) ?_
    refine gX5_11 hC hw (by omega) hq dX5_countAtFlue_13 ?_
    refine lv_iload_n hx hb dX5_countAtFlue_16 rfl (lv_at hl 3 rfl) ?_
    obtain ⟨g9, hF⟩ := gi_t hF
    refine ld_barr hC hw (by omega) hq g9 dX5_countAtFlue_17 ?_
    refine gX5_113 hC hw (by omega) hq (vp_lt g9) dX5_countAtFlue_18 ?_
    refine lv_iload_n hx hb dX5_countAtFlue_21 rfl (lv_at hl 1 rfl) ?_
    refine lv_icmp_ne (tgt := 28) hx hb dX5_countAtFlue_22 (by decide) (fun h10 => ?_) (fun h10 => ?_)
    · have hF := it_f h10 hF
      obtain ⟨v11, ev11, hF⟩ := nm_t hF
      refine lv_iinc (v := v11) (lv' := [(3, .int v11), (0, .ref (bb G + po q)), (1, .int x0), (2, .int v1)]) hx hb dX5_countAtFlue_28 hl (k := 3) rfl (by rw [ev11]; rfl) (by decide) rfl (fun ls hl => ?_)
      refine lv_goto (tgt := 4) hx hb dX5_countAtFlue_31 (by decide) ?_
      exact it_back hF hk4 _ _ _ hw hS (lv_sub hl [1, 2, 3, 0] rfl)
    · have hF := it_t h10 hF
      obtain ⟨v12, ev12, hF⟩ := nm_t hF
      refine lv_iinc (v := v12) (lv' := [(2, .int v12), (0, .ref (bb G + po q)), (1, .int x0), (3, .int v2)]) hx hb dX5_countAtFlue_25 hl (k := 2) rfl (by rw [ev12]; rfl) (by decide) rfl (fun ls hl => ?_)
      obtain ⟨v13, ev13, hF⟩ := nm_t hF
      refine lv_iinc (v := v13) (lv' := [(3, .int v13), (2, .int v12), (0, .ref (bb G + po q)), (1, .int x0)]) hx hb dX5_countAtFlue_28 hl (k := 3) rfl (by rw [ev13]; rfl) (by decide) rfl (fun ls hl => ?_)
      refine lv_goto (tgt := 4) hx hb dX5_countAtFlue_31 (by decide) ?_
      exact it_back hF hk4 _ _ _ hw hS (lv_sub hl [2, 3, 1, 0] rfl)
set_option maxHeartbeats 4000000 in
set_option maxRecDepth 100000 in
theorem c_X5_countInState (l : Launch) (G : GG) (n : Nat) (hn : 244 ≤ n) (hn2 : 0 ≤ n) (q : Nat) (hq : q < 18) (x0 : Int32) (C : Mem) (rR : Int32) (CR : Mem) (hF : F_X5_countInState q x0 C = some (rR, CR)) : Ct l yX5_countInState cX5_countInState 4 (some .int) (rmN 0 0) G n C [.ref (bb G + po q), .int x0] (some (.int rR)) CR := by
  refine Ct.of (by decide) (Nat.le_of_ble_eq_true rfl) ?_
  intro p e s m below meth c ls hC hr hlk hw hl
  have hx := hC.1
  have hb := hC.2.1
  have hS : LW G s s.heap [] := va_S.rf
  have hl : lv_has ls 4 [(0, .ref (bb G + po q)), (1, .int x0)] := hl
  unfold F_X5_countInState at hF
  refine lv_iconst (v := 0) hx hb dX5_countInState_0 (by decide) ?_
  refine lv_istore_n (lv' := [(2, .int (0 : Int32)), (0, .ref (bb G + po q)), (1, .int x0)]) hx hb dX5_countInState_1 rfl hl (by decide) rfl (fun ls hl => ?_)
  refine lv_iconst (v := 0) hx hb dX5_countInState_2 (by decide) ?_
  refine lv_istore_n (lv' := [(3, .int (0 : Int32)), (2, .int (0 : Int32)), (0, .ref (bb G + po q)), (1, .int x0)]) hx hb dX5_countInState_3 rfl hl (by decide) rfl (fun ls hl => ?_)
  obtain ⟨o4, hit4, hG4⟩ := b1_t hF
  have hR4 : ∀ (v5 : Int32) (v6 : Int32) (C7 : Mem) (H : Heap) (locs : List Loc) (ls : Array Slot), o4 = (v5, v6, C7) → Wd G n C7 H → LW G s H locs → lv_has ls 4 [(2, .int v5)] → W p l e (rmN 0 0) s m ([.ref (bb G + po q), .int x0] : List Value).toArray below meth c H locs 0 0 (MQ below (QR G n (some (.int rR)) CR) ([.ref (bb G + po q), .int x0] : List Value).toArray s 0 0 (frA G)) (F0 m 34 ls []) := by
    intro v5 v6 C7 H locs ls hE hw hS hl
    subst hE
    have hF := u3_t (hG4)
    refine lv_iload_n hx hb dX5_countInState_34 rfl (lv_at hl 0 rfl) ?_
    exact m_iret hC hr hlk hw hS dX5_countInState_35 hF
  refine iter_sound (P := fun x : Int32 × Int32 × Mem => ∀ (H : Heap) (locs : List Loc) (ls : Array Slot), Wd G n x.2.2 H → LW G s H locs → lv_has ls 4 [(0, .ref (bb G + po q)), (1, .int x0), (2, .int x.1), (3, .int x.2.1)] → W p l e (rmN 0 0) s m ([.ref (bb G + po q), .int x0] : List Value).toArray below meth c H locs 0 0 (MQ below (QR G n (some (.int rR)) CR) ([.ref (bb G + po q), .int x0] : List Value).toArray s 0 0 (frA G)) (F0 m 4 ls [])) (X := fun r => r = o4) ?_ fuel ((0 : Int32), (0 : Int32), C) o4 hit4 rfl _ _ _ hw hS (lv_sub hl [2, 3, 1, 0] rfl)
  intro x oo4 hF hk4 hX4 H locs ls hw hS hl
  obtain ⟨v1, v2, C3⟩ := x
  have hF : S_X5_countInState_4 q x0 v1 v2 C3 = some oo4 := hF
  have hw : Wd G n C3 H := hw
  have hl : lv_has ls 4 [(0, .ref (bb G + po q)), (1, .int x0), (2, .int v1), (3, .int v2)] := hl
  unfold S_X5_countInState_4 at hF
  refine lv_iload_n hx hb dX5_countInState_4 rfl (lv_at hl 3 rfl) ?_
  refine lv_aload_n hx hb dX5_countInState_5 rfl (lv_at hl 0 rfl) ?_
  refine gX5_57 hC hw (by omega) hq dX5_countInState_6 ?_
  refine lv_icmp_ge (tgt := 34) hx hb dX5_countInState_9 (by decide) (fun h8 => ?_) (fun h8 => ?_)
  · have hF := it_t h8 hF
    exact hR4 _ _ _ _ _ _ (it_exit hF hX4).symm hw hS (lv_sub hl [2] rfl)
  · have hF := it_f h8 hF
    refine lv_aload_n hx hb dX5_countInState_12 rfl (lv_at hl 0 rfl) ?_
    refine gX5_11 hC hw (by omega) hq dX5_countInState_13 ?_
    refine lv_iload_n hx hb dX5_countInState_16 rfl (lv_at hl 3 rfl) ?_
    obtain ⟨g9, hF⟩ := gi_t hF
    refine ld_barr hC hw (by omega) hq g9 dX5_countInState_17 ?_
    refine gX5_116 hC hw (by omega) hq (vp_lt g9) dX5_countInState_18 ?_
    refine lv_iload_n hx hb dX5_countInState_21 rfl (lv_at hl 1 rfl) ?_
    refine lv_icmp_ne (tgt := 28) hx hb dX5_countInState_22 (by decide) (fun h10 => ?_) (fun h10 => ?_)
    · have hF := it_f h10 hF
      obtain ⟨v11, ev11, hF⟩ := nm_t hF
      refine lv_iinc (v := v11) (lv' := [(3, .int v11), (0, .ref (bb G + po q)), (1, .int x0), (2, .int v1)]) hx hb dX5_countInState_28 hl (k := 3) rfl (by rw [ev11]; rfl) (by decide) rfl (fun ls hl => ?_)
      refine lv_goto (tgt := 4) hx hb dX5_countInState_31 (by decide) ?_
      exact it_back hF hk4 _ _ _ hw hS (lv_sub hl [1, 2, 3, 0] rfl)
    · have hF := it_t h10 hF
      obtain ⟨v12, ev12, hF⟩ := nm_t hF
      refine lv_iinc (v := v12) (lv' := [(2, .int v12), (0, .ref (bb G + po q)), (1, .int x0), (3, .int v2)]) hx hb dX5_countInState_25 hl (k := 2) rfl (by rw [ev12]; rfl) (by decide) rfl (fun ls hl => ?_)
      obtain ⟨v13, ev13, hF⟩ := nm_t hF
      refine lv_iinc (v := v13) (lv' := [(3, .int v13), (2, .int v12), (0, .ref (bb G + po q)), (1, .int x0)]) hx hb dX5_countInState_28 hl (k := 3) rfl (by rw [ev13]; rfl) (by decide) rfl (fun ls hl => ?_)
      refine lv_goto (tgt := 4) hx hb dX5_countInState_31 (by decide) ?_
      exact it_back hF hk4 _ _ _ hw hS (lv_sub hl [2, 3, 1, 0] rfl)
set_option maxHeartbeats 4000000 in
set_option maxRecDepth 100000 in
theorem c_X5_fuel (l : Launch) (G : GG) (n : Nat) (hn : 244 ≤ n) (hn2 : 0 ≤ n) (q : Nat) (hq : q < 18) (C : Mem) (rR : Int32) (CR : Mem) (hF : F_X5_fuel q C = some (rR, CR)) : Ct l yX5_fuel cX5_fuel 3 (some .int) (rmN 0 0) G n C [.ref (bb G + po q)] (some (.int rR)) CR := by
  refine Ct.of (by decide) (Nat.le_of_ble_eq_true rfl) ?_
  intro p e s m below meth c ls hC hr hlk hw hl
  have hx := hC.1
  have hb := hC.2.1
  have hS : LW G s s.heap [] := va_S.rf
  have hl : lv_has ls 3 [(0, .ref (bb G + po q))] := hl
  unfold F_X5_fuel at hF
  refine lv_iconst (v := 0) hx hb dX5_fuel_0 (by decide) ?_
  refine lv_istore_n (lv' := [(1, .int (0 : Int32)), (0, .ref (bb G + po q))]) hx hb dX5_fuel_1 rfl hl (by decide) rfl (fun ls hl => ?_)
  refine lv_iconst (v := 0) hx hb dX5_fuel_2 (by decide) ?_
  refine lv_istore_n (lv' := [(2, .int (0 : Int32)), (1, .int (0 : Int32)), (0, .ref (bb G + po q))]) hx hb dX5_fuel_3 rfl hl (by decide) rfl (fun ls hl => ?_)
  obtain ⟨o4, hit4, hG4⟩ := b1_t hF
  have hR4 : ∀ (v5 : Int32) (v6 : Int32) (C7 : Mem) (H : Heap) (locs : List Loc) (ls : Array Slot), o4 = (v5, v6, C7) → Wd G n C7 H → LW G s H locs → lv_has ls 3 [(1, .int v5)] → W p l e (rmN 0 0) s m ([.ref (bb G + po q)] : List Value).toArray below meth c H locs 0 0 (MQ below (QR G n (some (.int rR)) CR) ([.ref (bb G + po q)] : List Value).toArray s 0 0 (frA G)) (F0 m 30 ls []) := by
    intro v5 v6 C7 H locs ls hE hw hS hl
    subst hE
    have hF := u3_t (hG4)
    refine lv_iload_n hx hb dX5_fuel_30 rfl (lv_at hl 0 rfl) ?_
    exact m_iret hC hr hlk hw hS dX5_fuel_31 hF
  refine iter_sound (P := fun x : Int32 × Int32 × Mem => ∀ (H : Heap) (locs : List Loc) (ls : Array Slot), Wd G n x.2.2 H → LW G s H locs → lv_has ls 3 [(0, .ref (bb G + po q)), (1, .int x.1), (2, .int x.2.1)] → W p l e (rmN 0 0) s m ([.ref (bb G + po q)] : List Value).toArray below meth c H locs 0 0 (MQ below (QR G n (some (.int rR)) CR) ([.ref (bb G + po q)] : List Value).toArray s 0 0 (frA G)) (F0 m 4 ls [])) (X := fun r => r = o4) ?_ fuel ((0 : Int32), (0 : Int32), C) o4 hit4 rfl _ _ _ hw hS (lv_sub hl [2, 1, 0] rfl)
  intro x oo4 hF hk4 hX4 H locs ls hw hS hl
  obtain ⟨v1, v2, C3⟩ := x
  have hF : S_X5_fuel_4 q v1 v2 C3 = some oo4 := hF
  have hw : Wd G n C3 H := hw
  have hl : lv_has ls 3 [(0, .ref (bb G + po q)), (1, .int v1), (2, .int v2)] := hl
  unfold S_X5_fuel_4 at hF
  refine lv_iload_n hx hb dX5_fuel_4 rfl (lv_at hl 2 rfl) ?_
  refine lv_aload_n hx hb dX5_fuel_5 rfl (lv_at hl 0 rfl) ?_
  refine gX5_57 hC hw (by omega) hq dX5_fuel_6 ?_
  refine lv_icmp_ge (tgt := 30) hx hb dX5_fuel_9 (by decide) (fun h8 => ?_) (fun h8 => ?_)
  · have hF := it_t h8 hF
    exact hR4 _ _ _ _ _ _ (it_exit hF hX4).symm hw hS (lv_sub hl [1] rfl)
  · have hF := it_f h8 hF
    refine lv_iload_n hx hb dX5_fuel_12 rfl (lv_at hl 1 rfl) ?_
    refine lv_aload_n hx hb dX5_fuel_13 rfl (lv_at hl 0 rfl) ?_
    refine gX5_11 hC hw (by omega) hq dX5_fuel_14 ?_
    refine lv_iload_n hx hb dX5_fuel_17 rfl (lv_at hl 2 rfl) ?_
    obtain ⟨g9, hF⟩ := gi_t hF
    refine ld_barr hC hw (by omega) hq g9 dX5_fuel_18 ?_
    refine gX5_122 hC hw (by omega) hq (vp_lt g9) dX5_fuel_19 ?_
    refine lv_iadd hx hb dX5_fuel_22 ?_
    obtain ⟨v10, ev10, hF⟩ := nm_t hF
    refine lv_nmi ev10 ?_
    refine lv_istore_n (lv' := [(1, .int v10), (0, .ref (bb G + po q)), (2, .int v2)]) hx hb dX5_fuel_23 rfl hl (by decide) rfl (fun ls hl => ?_)
    obtain ⟨v11, ev11, hF⟩ := nm_t hF
    refine lv_iinc (v := v11) (lv' := [(2, .int v11), (1, .int v10), (0, .ref (bb G + po q))]) hx hb dX5_fuel_24 hl (k := 2) rfl (by rw [ev11]; rfl) (by decide) rfl (fun ls hl => ?_)
    refine lv_goto (tgt := 4) hx hb dX5_fuel_27 (by decide) ?_
    exact it_back hF hk4 _ _ _ hw hS (lv_sub hl [2, 1, 0] rfl)
set_option maxHeartbeats 4000000 in
set_option maxRecDepth 100000 in
theorem c_X5_starts (l : Launch) (G : GG) (n : Nat) (hn : 244 ≤ n) (hn2 : 0 ≤ n) (q : Nat) (hq : q < 18) (C : Mem) (rR : Int32) (CR : Mem) (hF : F_X5_starts q C = some (rR, CR)) : Ct l yX5_starts cX5_starts 3 (some .int) (rmN 0 0) G n C [.ref (bb G + po q)] (some (.int rR)) CR := by
  refine Ct.of (by decide) (Nat.le_of_ble_eq_true rfl) ?_
  intro p e s m below meth c ls hC hr hlk hw hl
  have hx := hC.1
  have hb := hC.2.1
  have hS : LW G s s.heap [] := va_S.rf
  have hl : lv_has ls 3 [(0, .ref (bb G + po q))] := hl
  unfold F_X5_starts at hF
  refine lv_iconst (v := 0) hx hb dX5_starts_0 (by decide) ?_
  refine lv_istore_n (lv' := [(1, .int (0 : Int32)), (0, .ref (bb G + po q))]) hx hb dX5_starts_1 rfl hl (by decide) rfl (fun ls hl => ?_)
  refine lv_iconst (v := 0) hx hb dX5_starts_2 (by decide) ?_
  refine lv_istore_n (lv' := [(2, .int (0 : Int32)), (1, .int (0 : Int32)), (0, .ref (bb G + po q))]) hx hb dX5_starts_3 rfl hl (by decide) rfl (fun ls hl => ?_)
  obtain ⟨o4, hit4, hG4⟩ := b1_t hF
  have hR4 : ∀ (v5 : Int32) (v6 : Int32) (C7 : Mem) (H : Heap) (locs : List Loc) (ls : Array Slot), o4 = (v5, v6, C7) → Wd G n C7 H → LW G s H locs → lv_has ls 3 [(1, .int v5)] → W p l e (rmN 0 0) s m ([.ref (bb G + po q)] : List Value).toArray below meth c H locs 0 0 (MQ below (QR G n (some (.int rR)) CR) ([.ref (bb G + po q)] : List Value).toArray s 0 0 (frA G)) (F0 m 30 ls []) := by
    intro v5 v6 C7 H locs ls hE hw hS hl
    subst hE
    have hF := u3_t (hG4)
    refine lv_iload_n hx hb dX5_starts_30 rfl (lv_at hl 0 rfl) ?_
    exact m_iret hC hr hlk hw hS dX5_starts_31 hF
  refine iter_sound (P := fun x : Int32 × Int32 × Mem => ∀ (H : Heap) (locs : List Loc) (ls : Array Slot), Wd G n x.2.2 H → LW G s H locs → lv_has ls 3 [(0, .ref (bb G + po q)), (1, .int x.1), (2, .int x.2.1)] → W p l e (rmN 0 0) s m ([.ref (bb G + po q)] : List Value).toArray below meth c H locs 0 0 (MQ below (QR G n (some (.int rR)) CR) ([.ref (bb G + po q)] : List Value).toArray s 0 0 (frA G)) (F0 m 4 ls [])) (X := fun r => r = o4) ?_ fuel ((0 : Int32), (0 : Int32), C) o4 hit4 rfl _ _ _ hw hS (lv_sub hl [2, 1, 0] rfl)
  intro x oo4 hF hk4 hX4 H locs ls hw hS hl
  obtain ⟨v1, v2, C3⟩ := x
  have hF : S_X5_starts_4 q v1 v2 C3 = some oo4 := hF
  have hw : Wd G n C3 H := hw
  have hl : lv_has ls 3 [(0, .ref (bb G + po q)), (1, .int v1), (2, .int v2)] := hl
  unfold S_X5_starts_4 at hF
  refine lv_iload_n hx hb dX5_starts_4 rfl (lv_at hl 2 rfl) ?_
  refine lv_aload_n hx hb dX5_starts_5 rfl (lv_at hl 0 rfl) ?_
  refine gX5_57 hC hw (by omega) hq dX5_starts_6 ?_
  refine lv_icmp_ge (tgt := 30) hx hb dX5_starts_9 (by decide) (fun h8 => ?_) (fun h8 => ?_)
  · have hF := it_t h8 hF
    exact hR4 _ _ _ _ _ _ (it_exit hF hX4).symm hw hS (lv_sub hl [1] rfl)
  · have hF := it_f h8 hF
    refine lv_iload_n hx hb dX5_starts_12 rfl (lv_at hl 1 rfl) ?_
    refine lv_aload_n hx hb dX5_starts_13 rfl (lv_at hl 0 rfl) ?_
    refine gX5_11 hC hw (by omega) hq dX5_starts_14 ?_
    refine lv_iload_n hx hb dX5_starts_17 rfl (lv_at hl 2 rfl) ?_
    obtain ⟨g9, hF⟩ := gi_t hF
    refine ld_barr hC hw (by omega) hq g9 dX5_starts_18 ?_
    refine gX5_125 hC hw (by omega) hq (vp_lt g9) dX5_starts_19 ?_
    refine lv_iadd hx hb dX5_starts_22 ?_
    obtain ⟨v10, ev10, hF⟩ := nm_t hF
    refine lv_nmi ev10 ?_
    refine lv_istore_n (lv' := [(1, .int v10), (0, .ref (bb G + po q)), (2, .int v2)]) hx hb dX5_starts_23 rfl hl (by decide) rfl (fun ls hl => ?_)
    obtain ⟨v11, ev11, hF⟩ := nm_t hF
    refine lv_iinc (v := v11) (lv' := [(2, .int v11), (1, .int v10), (0, .ref (bb G + po q))]) hx hb dX5_starts_24 hl (k := 2) rfl (by rw [ev11]; rfl) (by decide) rfl (fun ls hl => ?_)
    refine lv_goto (tgt := 4) hx hb dX5_starts_27 (by decide) ?_
    exact it_back hF hk4 _ _ _ hw hS (lv_sub hl [2, 1, 0] rfl)
set_option maxHeartbeats 4000000 in
set_option maxRecDepth 100000 in
theorem c_X5_hasRoomFor (l : Launch) (G : GG) (n : Nat) (hn : 244 ≤ n) (hn2 : 0 ≤ n) (q : Nat) (hq : q < 18) (q0 : Nat) (hq0 : q0 < 18) (i0 : Nat) (hi0 : i0 < 5) (C : Mem) (rR : Int32) (CR : Mem) (hF : F_X5_hasRoomFor q q0 i0 C = some (rR, CR)) : Ct l yX5_hasRoomFor cX5_hasRoomFor 3 (some .boolean) (rmN 1 24) G n C [.ref (bb G + po q), .ref (bb G + (po q0 + (8 + i0)))] (some (.int rR)) CR := by
  refine Ct.of (by decide) (Nat.le_of_ble_eq_true rfl) ?_
  intro p e s m below meth c ls hC hr hlk hw hl
  have hx := hC.1
  have hb := hC.2.1
  have hS : LW G s s.heap [] := va_S.rf
  have hl : lv_has ls 3 [(0, .ref (bb G + po q)), (1, .ref (bb G + (po q0 + (8 + i0))))] := hl
  unfold F_X5_hasRoomFor at hF
  refine lv_aload_n hx hb dX5_hasRoomFor_0 rfl (lv_at hl 0 rfl) ?_
  refine lv_aload_n hx hb dX5_hasRoomFor_1 rfl (lv_at hl 1 rfl) ?_
  refine gX5_113 hC hw (by omega) hq0 hi0 dX5_hasRoomFor_2 ?_
  obtain ⟨r1, C2, hc3, hF⟩ := b2_t hF
  refine call_Vr hC (c_X5_flueOf l G n (by omega) hn2 q hq (C q0 (30 + 7 * i0 + 1)) _ _ _ hc3) wvX5_128 ⟨rfl, rfl, by decide, by decide⟩ hw hS (by have := po_lt hq; omega) (ca_plant hq) rfl hl.1 rfl (rest := []) rfl (Nat.le_of_ble_eq_true rfl) dX5_hasRoomFor_5 ⟨by decide, by decide⟩ (fun H locs hw hS _ => ?_)
  obtain ⟨g4, hF⟩ := gn_t hF
  refine lv_astore_n (lv' := [(2, .ref (bb G + (po q + (2 + r1)))), (0, .ref (bb G + po q)), (1, .ref (bb G + (po q0 + (8 + i0))))]) hx hb dX5_hasRoomFor_8 rfl hl (by decide) rfl (fun ls hl => ?_)
  refine lv_aload_n hx hb dX5_hasRoomFor_9 rfl (lv_at hl 0 rfl) ?_
  refine gX5_132 hC hw (by omega) hq g4 dX5_hasRoomFor_10 ?_
  refine lv_if_eq (tgt := 40) hx hb dX5_hasRoomFor_13 (by decide) (fun h5 => ?_) (fun h5 => ?_)
  · have hF := it_t h5 hF
    refine lv_iconst (v := 0) hx hb dX5_hasRoomFor_40 (by decide) ?_
    exact m_zret hC hr hlk hw hS dX5_hasRoomFor_41 (by decide) hF
  · have hF := it_f h5 hF
    refine lv_aload_n hx hb dX5_hasRoomFor_16 rfl (lv_at hl 1 rfl) ?_
    refine lv_aload_n hx hb dX5_hasRoomFor_17 rfl (lv_at hl 2 rfl) ?_
    refine gX5_113 hC hw (by omega) hq0 hi0 dX5_hasRoomFor_18 ?_
    obtain ⟨r6, C7, hc8, hF⟩ := b2_t hF
    refine call_Vi hC (c_X5_useOf l G n (by omega) hn2 q hq (C2 q0 (30 + 7 * i0 + 1)) _ _ _ hc8) wvX5_136 ⟨rfl, rfl, by decide, by decide⟩ hw hS (by have := po_lt hq; omega) (ca_plant hq) rfl hl.1 rfl (rest := []) rfl (Nat.le_of_ble_eq_true rfl) dX5_hasRoomFor_21 ⟨by decide, by decide⟩ (fun H locs hw hS _ => ?_)
    refine lv_aload_n hx hb dX5_hasRoomFor_24 rfl (lv_at hl 2 rfl) ?_
    refine gX5_119 hC hw (by omega) hq0 hi0 dX5_hasRoomFor_25 ?_
    refine lv_iadd hx hb dX5_hasRoomFor_28 ?_
    refine lv_aload_n hx hb dX5_hasRoomFor_29 rfl (lv_at hl 0 rfl) ?_
    refine gX5_140 hC hw (by omega) hq g4 dX5_hasRoomFor_30 ?_
    refine lv_icmp_gt (tgt := 40) hx hb dX5_hasRoomFor_33 (by decide) (fun h9 => ?_) (fun h9 => ?_)
    · have hF := it_t h9 hF
      refine lv_iconst (v := 0) hx hb dX5_hasRoomFor_40 (by decide) ?_
      exact m_zret hC hr hlk hw hS dX5_hasRoomFor_41 (by decide) hF
    · have hF := it_f h9 hF
      refine lv_iconst (v := 1) hx hb dX5_hasRoomFor_36 (by decide) ?_
      refine lv_goto (tgt := 41) hx hb dX5_hasRoomFor_37 (by decide) ?_
      exact m_zret hC hr hlk hw hS dX5_hasRoomFor_41 (by decide) hF
set_option maxHeartbeats 4000000 in
set_option maxRecDepth 100000 in
theorem c_X5_firstToStart (l : Launch) (G : GG) (n : Nat) (hn : 244 ≤ n) (hn2 : 0 ≤ n) (q : Nat) (hq : q < 18) (C : Mem) (rR : Int32) (CR : Mem) (hF : F_X5_firstToStart q C = some (rR, CR)) : Ct l yX5_firstToStart cX5_firstToStart 5 (some .int) (rmN 2 46) G n C [.ref (bb G + po q)] (some (.int rR)) CR := by
  refine Ct.of (by decide) (Nat.le_of_ble_eq_true rfl) ?_
  intro p e s m below meth c ls hC hr hlk hw hl
  have hx := hC.1
  have hb := hC.2.1
  have hS : LW G s s.heap [] := va_S.rf
  have hl : lv_has ls 5 [(0, .ref (bb G + po q))] := hl
  unfold F_X5_firstToStart at hF
  refine lv_bipush (v := -9) hx hb dX5_firstToStart_0 (by decide) ?_
  refine lv_istore_n (lv' := [(1, .int (-9 : Int32)), (0, .ref (bb G + po q))]) hx hb dX5_firstToStart_2 rfl hl (by decide) rfl (fun ls hl => ?_)
  refine lv_iconst (v := 0) hx hb dX5_firstToStart_3 (by decide) ?_
  refine lv_istore_n (lv' := [(2, .int (0 : Int32)), (1, .int (-9 : Int32)), (0, .ref (bb G + po q))]) hx hb dX5_firstToStart_4 rfl hl (by decide) rfl (fun ls hl => ?_)
  refine lv_iconst (v := 0) hx hb dX5_firstToStart_5 (by decide) ?_
  refine lv_istore_n (lv' := [(3, .int (0 : Int32)), (2, .int (0 : Int32)), (1, .int (-9 : Int32)), (0, .ref (bb G + po q))]) hx hb dX5_firstToStart_6 rfl hl (by decide) rfl (fun ls hl => ?_)
  obtain ⟨o5, hit5, hG5⟩ := b1_t hF
  have hR5 : ∀ (v6 : Int32) (v7 : Int32) (v8 : Int32) (C9 : Mem) (H : Heap) (locs : List Loc) (ls : Array Slot), o5 = (v6, v7, v8, C9) → Wd G n C9 H → LW G s H locs → lv_has ls 5 [(1, .int v6)] → W p l e (rmN 2 46) s m ([.ref (bb G + po q)] : List Value).toArray below meth c H locs 0 0 (MQ below (QR G n (some (.int rR)) CR) ([.ref (bb G + po q)] : List Value).toArray s 0 0 (frA G)) (F0 m 69 ls []) := by
    intro v6 v7 v8 C9 H locs ls hE hw hS hl
    subst hE
    have hF := u4_t (hG5)
    refine lv_iload_n hx hb dX5_firstToStart_69 rfl (lv_at hl 0 rfl) ?_
    exact m_iret hC hr hlk hw hS dX5_firstToStart_70 hF
  refine iter_sound (P := fun x : Int32 × Int32 × Int32 × Mem => ∀ (H : Heap) (locs : List Loc) (ls : Array Slot), Wd G n x.2.2.2 H → LW G s H locs → lv_has ls 5 [(0, .ref (bb G + po q)), (1, .int x.1), (2, .int x.2.1), (3, .int x.2.2.1)] → W p l e (rmN 2 46) s m ([.ref (bb G + po q)] : List Value).toArray below meth c H locs 0 0 (MQ below (QR G n (some (.int rR)) CR) ([.ref (bb G + po q)] : List Value).toArray s 0 0 (frA G)) (F0 m 7 ls [])) (X := fun r => r = o5) ?_ fuel ((-9 : Int32), (0 : Int32), (0 : Int32), C) o5 hit5 rfl _ _ _ hw hS (lv_sub hl [3, 2, 1, 0] rfl)
  intro x oo5 hF hk5 hX5 H locs ls hw hS hl
  obtain ⟨v1, v2, v3, C4⟩ := x
  have hF : S_X5_firstToStart_7 q v1 v2 v3 C4 = some oo5 := hF
  have hw : Wd G n C4 H := hw
  have hl : lv_has ls 5 [(0, .ref (bb G + po q)), (1, .int v1), (2, .int v2), (3, .int v3)] := hl
  unfold S_X5_firstToStart_7 at hF
  refine lv_iload_n hx hb dX5_firstToStart_7 rfl (lv_at hl 3 rfl) ?_
  refine lv_aload_n hx hb dX5_firstToStart_8 rfl (lv_at hl 0 rfl) ?_
  refine gX5_57 hC hw (by omega) hq dX5_firstToStart_9 ?_
  refine lv_icmp_ge (tgt := 69) hx hb dX5_firstToStart_12 (by decide) (fun h10 => ?_) (fun h10 => ?_)
  · have hF := it_t h10 hF
    exact hR5 _ _ _ _ _ _ _ (it_exit hF hX5).symm hw hS (lv_sub hl [1] rfl)
  · have hF := it_f h10 hF
    refine lv_aload_n hx hb dX5_firstToStart_15 rfl (lv_at hl 0 rfl) ?_
    refine gX5_11 hC hw (by omega) hq dX5_firstToStart_16 ?_
    refine lv_iload_n hx hb dX5_firstToStart_19 rfl (lv_at hl 3 rfl) ?_
    obtain ⟨g11, hF⟩ := gi_t hF
    refine ld_barr hC hw (by omega) hq g11 dX5_firstToStart_20 ?_
    refine lv_astore (lv' := [(4, .ref (bb G + (po q + (8 + (v3).toNatClampNeg)))), (0, .ref (bb G + po q)), (1, .int v1), (2, .int v2), (3, .int v3)]) hx hb dX5_firstToStart_21 hl (by decide) rfl (fun ls hl => ?_)
    refine lv_aload hx hb dX5_firstToStart_23 (lv_at hl 0 rfl) ?_
    obtain ⟨r12, C13, hc14, hF⟩ := b2_t hF
    refine call_Vi hC (c_X0_waits l G n (by omega) hn2 q hq (v3).toNatClampNeg (vp_lt g11) _ _ _ hc14) wvX5_143 ⟨rfl, rfl, by decide, by decide⟩ hw hS (by have := po_lt hq; have := (vp_lt g11); omega) (ca_boiler hq (vp_lt g11)) rfl hl.1 rfl (rest := []) rfl (Nat.le_of_ble_eq_true rfl) dX5_firstToStart_25 ⟨by decide, by decide⟩ (fun H locs hw hS _ => ?_)
    refine lv_if_eq (tgt := 63) hx hb dX5_firstToStart_28 (by decide) (fun h15 => ?_) (fun h15 => ?_)
    · have hF := it_t h15 hF
      obtain ⟨v16, ev16, hF⟩ := nm_t hF
      refine lv_iinc (v := v16) (lv' := [(3, .int v16), (4, .ref (bb G + (po q + (8 + (v3).toNatClampNeg)))), (0, .ref (bb G + po q)), (1, .int v1), (2, .int v2)]) hx hb dX5_firstToStart_63 hl (k := 4) rfl (by rw [ev16]; rfl) (by decide) rfl (fun ls hl => ?_)
      refine lv_goto (tgt := 7) hx hb dX5_firstToStart_66 (by decide) ?_
      exact it_back hF hk5 _ _ _ hw hS (lv_sub hl [2, 3, 4, 0] rfl)
    · have hF := it_f h15 hF
      refine lv_iload_n hx hb dX5_firstToStart_31 rfl (lv_at hl 2 rfl) ?_
      refine lv_bipush (v := -9) hx hb dX5_firstToStart_32 (by decide) ?_
      refine lv_icmp_eq (tgt := 46) hx hb dX5_firstToStart_34 (by decide) (fun h17 => ?_) (fun h17 => ?_)
      · have hF := it_t h17 hF
        refine lv_aload_n hx hb dX5_firstToStart_46 rfl (lv_at hl 1 rfl) ?_
        refine lv_aload hx hb dX5_firstToStart_47 (lv_at hl 0 rfl) ?_
        obtain ⟨r18, C19, hc20, hF⟩ := b2_t hF
        refine call_Vi hC (c_X5_hasRoomFor l G n (by omega) hn2 q hq q hq (v3).toNatClampNeg (vp_lt g11) _ _ _ hc20) wvX5_150 ⟨rfl, rfl, by decide, by decide⟩ hw hS (by have := po_lt hq; omega) (ca_plant hq) rfl hl.1 rfl (rest := []) rfl (Nat.le_of_ble_eq_true rfl) dX5_firstToStart_49 ⟨by decide, by decide⟩ (fun H locs hw hS _ => ?_)
        refine lv_if_eq (tgt := 63) hx hb dX5_firstToStart_52 (by decide) (fun h21 => ?_) (fun h21 => ?_)
        · have hF := it_t h21 hF
          obtain ⟨v22, ev22, hF⟩ := nm_t hF
          refine lv_iinc (v := v22) (lv' := [(3, .int v22), (4, .ref (bb G + (po q + (8 + (v3).toNatClampNeg)))), (0, .ref (bb G + po q)), (1, .int v1), (2, .int v2)]) hx hb dX5_firstToStart_63 hl (k := 4) rfl (by rw [ev22]; rfl) (by decide) rfl (fun ls hl => ?_)
          refine lv_goto (tgt := 7) hx hb dX5_firstToStart_66 (by decide) ?_
          exact it_back hF hk5 _ _ _ hw hS (lv_sub hl [2, 3, 4, 0] rfl)
        · have hF := it_f h21 hF
          refine lv_iload_n hx hb dX5_firstToStart_55 rfl (lv_at hl 4 rfl) ?_
          refine lv_istore_n (lv' := [(1, .int v3), (4, .ref (bb G + (po q + (8 + (v3).toNatClampNeg)))), (0, .ref (bb G + po q)), (2, .int v2), (3, .int v3)]) hx hb dX5_firstToStart_56 rfl hl (by decide) rfl (fun ls hl => ?_)
          refine lv_aload hx hb dX5_firstToStart_57 (lv_at hl 1 rfl) ?_
          refine gX5_147 hC hw (by omega) hq (vp_lt g11) dX5_firstToStart_59 ?_
          obtain ⟨v23, ev23, hF⟩ := nm_t hF
          refine lv_nmi ev23 ?_
          refine lv_istore_n (lv' := [(2, .int v23), (1, .int v3), (4, .ref (bb G + (po q + (8 + (v3).toNatClampNeg)))), (0, .ref (bb G + po q)), (3, .int v3)]) hx hb dX5_firstToStart_62 rfl hl (by decide) rfl (fun ls hl => ?_)
          obtain ⟨v24, ev24, hF⟩ := nm_t hF
          refine lv_iinc (v := v24) (lv' := [(3, .int v24), (2, .int v23), (1, .int v3), (4, .ref (bb G + (po q + (8 + (v3).toNatClampNeg)))), (0, .ref (bb G + po q))]) hx hb dX5_firstToStart_63 hl (k := 4) rfl (by rw [ev24]; rfl) (by decide) rfl (fun ls hl => ?_)
          refine lv_goto (tgt := 7) hx hb dX5_firstToStart_66 (by decide) ?_
          exact it_back hF hk5 _ _ _ hw hS (lv_sub hl [4, 2, 1, 0] rfl)
      · have hF := it_f h17 hF
        refine lv_aload hx hb dX5_firstToStart_37 (lv_at hl 0 rfl) ?_
        refine gX5_147 hC hw (by omega) hq (vp_lt g11) dX5_firstToStart_39 ?_
        refine lv_iload_n hx hb dX5_firstToStart_42 rfl (lv_at hl 3 rfl) ?_
        refine lv_icmp_ge (tgt := 63) hx hb dX5_firstToStart_43 (by decide) (fun h25 => ?_) (fun h25 => ?_)
        · have hF := it_t h25 hF
          obtain ⟨v26, ev26, hF⟩ := nm_t hF
          refine lv_iinc (v := v26) (lv' := [(3, .int v26), (4, .ref (bb G + (po q + (8 + (v3).toNatClampNeg)))), (0, .ref (bb G + po q)), (1, .int v1), (2, .int v2)]) hx hb dX5_firstToStart_63 hl (k := 4) rfl (by rw [ev26]; rfl) (by decide) rfl (fun ls hl => ?_)
          refine lv_goto (tgt := 7) hx hb dX5_firstToStart_66 (by decide) ?_
          exact it_back hF hk5 _ _ _ hw hS (lv_sub hl [2, 3, 4, 0] rfl)
        · have hF := it_f h25 hF
          refine lv_aload_n hx hb dX5_firstToStart_46 rfl (lv_at hl 1 rfl) ?_
          refine lv_aload hx hb dX5_firstToStart_47 (lv_at hl 0 rfl) ?_
          obtain ⟨r27, C28, hc29, hF⟩ := b2_t hF
          refine call_Vi hC (c_X5_hasRoomFor l G n (by omega) hn2 q hq q hq (v3).toNatClampNeg (vp_lt g11) _ _ _ hc29) wvX5_150 ⟨rfl, rfl, by decide, by decide⟩ hw hS (by have := po_lt hq; omega) (ca_plant hq) rfl hl.1 rfl (rest := []) rfl (Nat.le_of_ble_eq_true rfl) dX5_firstToStart_49 ⟨by decide, by decide⟩ (fun H locs hw hS _ => ?_)
          refine lv_if_eq (tgt := 63) hx hb dX5_firstToStart_52 (by decide) (fun h30 => ?_) (fun h30 => ?_)
          · have hF := it_t h30 hF
            obtain ⟨v31, ev31, hF⟩ := nm_t hF
            refine lv_iinc (v := v31) (lv' := [(3, .int v31), (4, .ref (bb G + (po q + (8 + (v3).toNatClampNeg)))), (0, .ref (bb G + po q)), (1, .int v1), (2, .int v2)]) hx hb dX5_firstToStart_63 hl (k := 4) rfl (by rw [ev31]; rfl) (by decide) rfl (fun ls hl => ?_)
            refine lv_goto (tgt := 7) hx hb dX5_firstToStart_66 (by decide) ?_
            exact it_back hF hk5 _ _ _ hw hS (lv_sub hl [2, 3, 4, 0] rfl)
          · have hF := it_f h30 hF
            refine lv_iload_n hx hb dX5_firstToStart_55 rfl (lv_at hl 4 rfl) ?_
            refine lv_istore_n (lv' := [(1, .int v3), (4, .ref (bb G + (po q + (8 + (v3).toNatClampNeg)))), (0, .ref (bb G + po q)), (2, .int v2), (3, .int v3)]) hx hb dX5_firstToStart_56 rfl hl (by decide) rfl (fun ls hl => ?_)
            refine lv_aload hx hb dX5_firstToStart_57 (lv_at hl 1 rfl) ?_
            refine gX5_147 hC hw (by omega) hq (vp_lt g11) dX5_firstToStart_59 ?_
            obtain ⟨v32, ev32, hF⟩ := nm_t hF
            refine lv_nmi ev32 ?_
            refine lv_istore_n (lv' := [(2, .int v32), (1, .int v3), (4, .ref (bb G + (po q + (8 + (v3).toNatClampNeg)))), (0, .ref (bb G + po q)), (3, .int v3)]) hx hb dX5_firstToStart_62 rfl hl (by decide) rfl (fun ls hl => ?_)
            obtain ⟨v33, ev33, hF⟩ := nm_t hF
            refine lv_iinc (v := v33) (lv' := [(3, .int v33), (2, .int v32), (1, .int v3), (4, .ref (bb G + (po q + (8 + (v3).toNatClampNeg)))), (0, .ref (bb G + po q))]) hx hb dX5_firstToStart_63 hl (k := 4) rfl (by rw [ev33]; rfl) (by decide) rfl (fun ls hl => ?_)
            refine lv_goto (tgt := 7) hx hb dX5_firstToStart_66 (by decide) ?_
            exact it_back hF hk5 _ _ _ hw hS (lv_sub hl [4, 2, 1, 0] rfl)
set_option maxHeartbeats 4000000 in
set_option maxRecDepth 100000 in
theorem c_X5_firstToRest (l : Launch) (G : GG) (n : Nat) (hn : 244 ≤ n) (hn2 : 0 ≤ n) (q : Nat) (hq : q < 18) (C : Mem) (rR : Int32) (CR : Mem) (hF : F_X5_firstToRest q C = some (rR, CR)) : Ct l yX5_firstToRest cX5_firstToRest 4 (some .int) (rmN 0 0) G n C [.ref (bb G + po q)] (some (.int rR)) CR := by
  refine Ct.of (by decide) (Nat.le_of_ble_eq_true rfl) ?_
  intro p e s m below meth c ls hC hr hlk hw hl
  have hx := hC.1
  have hb := hC.2.1
  have hS : LW G s s.heap [] := va_S.rf
  have hl : lv_has ls 4 [(0, .ref (bb G + po q))] := hl
  unfold F_X5_firstToRest at hF
  refine lv_bipush (v := -9) hx hb dX5_firstToRest_0 (by decide) ?_
  refine lv_istore_n (lv' := [(1, .int (-9 : Int32)), (0, .ref (bb G + po q))]) hx hb dX5_firstToRest_2 rfl hl (by decide) rfl (fun ls hl => ?_)
  refine lv_iconst (v := 0) hx hb dX5_firstToRest_3 (by decide) ?_
  refine lv_istore_n (lv' := [(2, .int (0 : Int32)), (1, .int (-9 : Int32)), (0, .ref (bb G + po q))]) hx hb dX5_firstToRest_4 rfl hl (by decide) rfl (fun ls hl => ?_)
  refine lv_iconst (v := 0) hx hb dX5_firstToRest_5 (by decide) ?_
  refine lv_istore_n (lv' := [(3, .int (0 : Int32)), (2, .int (0 : Int32)), (1, .int (-9 : Int32)), (0, .ref (bb G + po q))]) hx hb dX5_firstToRest_6 rfl hl (by decide) rfl (fun ls hl => ?_)
  obtain ⟨o5, hit5, hG5⟩ := b1_t hF
  have hR5 : ∀ (v6 : Int32) (v7 : Int32) (v8 : Int32) (C9 : Mem) (H : Heap) (locs : List Loc) (ls : Array Slot), o5 = (v6, v7, v8, C9) → Wd G n C9 H → LW G s H locs → lv_has ls 4 [(1, .int v6)] → W p l e (rmN 0 0) s m ([.ref (bb G + po q)] : List Value).toArray below meth c H locs 0 0 (MQ below (QR G n (some (.int rR)) CR) ([.ref (bb G + po q)] : List Value).toArray s 0 0 (frA G)) (F0 m 59 ls []) := by
    intro v6 v7 v8 C9 H locs ls hE hw hS hl
    subst hE
    have hF := u4_t (hG5)
    refine lv_iload_n hx hb dX5_firstToRest_59 rfl (lv_at hl 0 rfl) ?_
    exact m_iret hC hr hlk hw hS dX5_firstToRest_60 hF
  refine iter_sound (P := fun x : Int32 × Int32 × Int32 × Mem => ∀ (H : Heap) (locs : List Loc) (ls : Array Slot), Wd G n x.2.2.2 H → LW G s H locs → lv_has ls 4 [(0, .ref (bb G + po q)), (1, .int x.1), (2, .int x.2.1), (3, .int x.2.2.1)] → W p l e (rmN 0 0) s m ([.ref (bb G + po q)] : List Value).toArray below meth c H locs 0 0 (MQ below (QR G n (some (.int rR)) CR) ([.ref (bb G + po q)] : List Value).toArray s 0 0 (frA G)) (F0 m 7 ls [])) (X := fun r => r = o5) ?_ fuel ((-9 : Int32), (0 : Int32), (0 : Int32), C) o5 hit5 rfl _ _ _ hw hS (lv_sub hl [3, 2, 1, 0] rfl)
  intro x oo5 hF hk5 hX5 H locs ls hw hS hl
  obtain ⟨v1, v2, v3, C4⟩ := x
  have hF : S_X5_firstToRest_7 q v1 v2 v3 C4 = some oo5 := hF
  have hw : Wd G n C4 H := hw
  have hl : lv_has ls 4 [(0, .ref (bb G + po q)), (1, .int v1), (2, .int v2), (3, .int v3)] := hl
  unfold S_X5_firstToRest_7 at hF
  refine lv_iload_n hx hb dX5_firstToRest_7 rfl (lv_at hl 3 rfl) ?_
  refine lv_aload_n hx hb dX5_firstToRest_8 rfl (lv_at hl 0 rfl) ?_
  refine gX5_57 hC hw (by omega) hq dX5_firstToRest_9 ?_
  refine lv_icmp_ge (tgt := 59) hx hb dX5_firstToRest_12 (by decide) (fun h10 => ?_) (fun h10 => ?_)
  · have hF := it_t h10 hF
    exact hR5 _ _ _ _ _ _ _ (it_exit hF hX5).symm hw hS (lv_sub hl [1] rfl)
  · have hF := it_f h10 hF
    refine lv_aload_n hx hb dX5_firstToRest_15 rfl (lv_at hl 0 rfl) ?_
    refine gX5_11 hC hw (by omega) hq dX5_firstToRest_16 ?_
    refine lv_iload_n hx hb dX5_firstToRest_19 rfl (lv_at hl 3 rfl) ?_
    obtain ⟨g11, hF⟩ := gi_t hF
    refine ld_barr hC hw (by omega) hq g11 dX5_firstToRest_20 ?_
    refine gX5_116 hC hw (by omega) hq (vp_lt g11) dX5_firstToRest_21 ?_
    refine lv_iconst (v := 2) hx hb dX5_firstToRest_24 (by decide) ?_
    refine lv_icmp_ne (tgt := 53) hx hb dX5_firstToRest_25 (by decide) (fun h12 => ?_) (fun h12 => ?_)
    · have hF := it_f h12 hF
      obtain ⟨v13, ev13, hF⟩ := nm_t hF
      refine lv_iinc (v := v13) (lv' := [(3, .int v13), (0, .ref (bb G + po q)), (1, .int v1), (2, .int v2)]) hx hb dX5_firstToRest_53 hl (k := 3) rfl (by rw [ev13]; rfl) (by decide) rfl (fun ls hl => ?_)
      refine lv_goto (tgt := 7) hx hb dX5_firstToRest_56 (by decide) ?_
      exact it_back hF hk5 _ _ _ hw hS (lv_sub hl [1, 2, 3, 0] rfl)
    · have hF := it_t h12 hF
      refine lv_aload_n hx hb dX5_firstToRest_28 rfl (lv_at hl 0 rfl) ?_
      refine gX5_11 hC hw (by omega) hq dX5_firstToRest_29 ?_
      refine lv_iload_n hx hb dX5_firstToRest_32 rfl (lv_at hl 3 rfl) ?_
      obtain ⟨g14, hF⟩ := gi_t hF
      refine ld_barr hC hw (by omega) hq g14 dX5_firstToRest_33 ?_
      refine gX5_147 hC hw (by omega) hq (vp_lt g14) dX5_firstToRest_34 ?_
      refine lv_iload_n hx hb dX5_firstToRest_37 rfl (lv_at hl 2 rfl) ?_
      refine lv_icmp_lt (tgt := 53) hx hb dX5_firstToRest_38 (by decide) (fun h15 => ?_) (fun h15 => ?_)
      · have hF := it_t h15 hF
        obtain ⟨v16, ev16, hF⟩ := nm_t hF
        refine lv_iinc (v := v16) (lv' := [(3, .int v16), (0, .ref (bb G + po q)), (1, .int v1), (2, .int v2)]) hx hb dX5_firstToRest_53 hl (k := 3) rfl (by rw [ev16]; rfl) (by decide) rfl (fun ls hl => ?_)
        refine lv_goto (tgt := 7) hx hb dX5_firstToRest_56 (by decide) ?_
        exact it_back hF hk5 _ _ _ hw hS (lv_sub hl [1, 2, 3, 0] rfl)
      · have hF := it_f h15 hF
        refine lv_iload_n hx hb dX5_firstToRest_41 rfl (lv_at hl 3 rfl) ?_
        refine lv_istore_n (lv' := [(1, .int v3), (0, .ref (bb G + po q)), (2, .int v2), (3, .int v3)]) hx hb dX5_firstToRest_42 rfl hl (by decide) rfl (fun ls hl => ?_)
        refine lv_aload_n hx hb dX5_firstToRest_43 rfl (lv_at hl 1 rfl) ?_
        refine gX5_11 hC hw (by omega) hq dX5_firstToRest_44 ?_
        refine lv_iload_n hx hb dX5_firstToRest_47 rfl (lv_at hl 3 rfl) ?_
        obtain ⟨g17, hF⟩ := gi_t hF
        refine ld_barr hC hw (by omega) hq g17 dX5_firstToRest_48 ?_
        refine gX5_147 hC hw (by omega) hq (vp_lt g17) dX5_firstToRest_49 ?_
        obtain ⟨v18, ev18, hF⟩ := nm_t hF
        refine lv_nmi ev18 ?_
        refine lv_istore_n (lv' := [(2, .int v18), (1, .int v3), (0, .ref (bb G + po q)), (3, .int v3)]) hx hb dX5_firstToRest_52 rfl hl (by decide) rfl (fun ls hl => ?_)
        obtain ⟨v19, ev19, hF⟩ := nm_t hF
        refine lv_iinc (v := v19) (lv' := [(3, .int v19), (2, .int v18), (1, .int v3), (0, .ref (bb G + po q))]) hx hb dX5_firstToRest_53 hl (k := 3) rfl (by rw [ev19]; rfl) (by decide) rfl (fun ls hl => ?_)
        refine lv_goto (tgt := 7) hx hb dX5_firstToRest_56 (by decide) ?_
        exact it_back hF hk5 _ _ _ hw hS (lv_sub hl [3, 2, 1, 0] rfl)
set_option maxHeartbeats 4000000 in
set_option maxRecDepth 100000 in
theorem c_X5_moveFlue (l : Launch) (G : GG) (n : Nat) (hn : 244 ≤ n) (hn2 : 0 ≤ n) (q : Nat) (hq : q < 18) (x0 : Int32) (x1 : Int32) (C : Mem) (rR : Int32) (CR : Mem) (hF : F_X5_moveFlue q x0 x1 C = some (rR, CR)) : Ct l yX5_moveFlue cX5_moveFlue 6 (some .int) (rmN 1 21) G n C [.ref (bb G + po q), .int x0, .int x1] (some (.int rR)) CR := by
  refine Ct.of (by decide) (Nat.le_of_ble_eq_true rfl) ?_
  intro p e s m below meth c ls hC hr hlk hw hl
  have hx := hC.1
  have hb := hC.2.1
  have hS : LW G s s.heap [] := va_S.rf
  have hl : lv_has ls 6 [(0, .ref (bb G + po q)), (1, .int x0), (2, .int x1)] := hl
  unfold F_X5_moveFlue at hF
  refine lv_aload_n hx hb dX5_moveFlue_0 rfl (lv_at hl 0 rfl) ?_
  refine lv_iload_n hx hb dX5_moveFlue_1 rfl (lv_at hl 1 rfl) ?_
  obtain ⟨r1, C2, hc3, hF⟩ := b2_t hF
  refine call_Vr hC (c_X5_flueOf l G n (by omega) hn2 q hq x0 _ _ _ hc3) wvX5_128 ⟨rfl, rfl, by decide, by decide⟩ hw hS (by have := po_lt hq; omega) (ca_plant hq) rfl hl.1 rfl (rest := []) rfl (Nat.le_of_ble_eq_true rfl) dX5_moveFlue_2 ⟨by decide, by decide⟩ (fun H locs hw hS _ => ?_)
  obtain ⟨g4, hF⟩ := gn_t hF
  refine lv_iload_n hx hb dX5_moveFlue_5 rfl (lv_at hl 2 rfl) ?_
  obtain ⟨g5, hF⟩ := gb_t hF
  refine pX5_132 hC hw hS (by omega) hn2 hq g4 g5 dX5_moveFlue_6 (fun H locs hw hS _ => ?_)
  obtain ⟨C6, eC6, hF⟩ := nm_t hF
  have hw := Wd.cast eC6 hw
  refine lv_iconst (v := 0) hx hb dX5_moveFlue_9 (by decide) ?_
  refine lv_istore_n (lv' := [(3, .int (0 : Int32)), (0, .ref (bb G + po q)), (1, .int x0), (2, .int x1)]) hx hb dX5_moveFlue_10 rfl hl (by decide) rfl (fun ls hl => ?_)
  refine lv_iconst (v := 0) hx hb dX5_moveFlue_11 (by decide) ?_
  refine lv_istore (lv' := [(4, .int (0 : Int32)), (3, .int (0 : Int32)), (0, .ref (bb G + po q)), (1, .int x0), (2, .int x1)]) hx hb dX5_moveFlue_12 hl (by decide) rfl (fun ls hl => ?_)
  obtain ⟨o10, hit10, hG10⟩ := b1_t hF
  have hR10 : ∀ (v11 : Int32) (v12 : Int32) (C13 : Mem) (H : Heap) (locs : List Loc) (ls : Array Slot), o10 = (v11, v12, C13) → Wd G n C13 H → LW G s H locs → lv_has ls 6 [(3, .int v11)] → W p l e (rmN 1 21) s m ([.ref (bb G + po q), .int x0, .int x1] : List Value).toArray below meth c H locs 0 0 (MQ below (QR G n (some (.int rR)) CR) ([.ref (bb G + po q), .int x0, .int x1] : List Value).toArray s 0 0 (frA G)) (F0 m 77 ls []) := by
    intro v11 v12 C13 H locs ls hE hw hS hl
    subst hE
    have hF := u3_t (hG10)
    refine lv_iload_n hx hb dX5_moveFlue_77 rfl (lv_at hl 0 rfl) ?_
    exact m_iret hC hr hlk hw hS dX5_moveFlue_78 hF
  refine iter_sound (P := fun x : Int32 × Int32 × Mem => ∀ (H : Heap) (locs : List Loc) (ls : Array Slot), Wd G n x.2.2 H → LW G s H locs → lv_has ls 6 [(0, .ref (bb G + po q)), (1, .int x0), (2, .int x1), (3, .int x.1), (4, .int x.2.1)] → W p l e (rmN 1 21) s m ([.ref (bb G + po q), .int x0, .int x1] : List Value).toArray below meth c H locs 0 0 (MQ below (QR G n (some (.int rR)) CR) ([.ref (bb G + po q), .int x0, .int x1] : List Value).toArray s 0 0 (frA G)) (F0 m 14 ls [])) (X := fun r => r = o10) ?_ fuel ((0 : Int32), (0 : Int32), C6) o10 hit10 rfl _ _ _ hw hS (lv_sub hl [2, 3, 4, 1, 0] rfl)
  intro x oo10 hF hk10 hX10 H locs ls hw hS hl
  obtain ⟨v7, v8, C9⟩ := x
  have hF : S_X5_moveFlue_14 q x0 x1 v7 v8 C9 = some oo10 := hF
  have hw : Wd G n C9 H := hw
  have hl : lv_has ls 6 [(0, .ref (bb G + po q)), (1, .int x0), (2, .int x1), (3, .int v7), (4, .int v8)] := hl
  unfold S_X5_moveFlue_14 at hF
  refine lv_iload hx hb dX5_moveFlue_14 (lv_at hl 4 rfl) ?_
  refine lv_aload_n hx hb dX5_moveFlue_16 rfl (lv_at hl 0 rfl) ?_
  refine gX5_57 hC hw (by omega) hq dX5_moveFlue_17 ?_
  refine lv_icmp_ge (tgt := 77) hx hb dX5_moveFlue_20 (by decide) (fun h14 => ?_) (fun h14 => ?_)
  · have hF := it_t h14 hF
    exact hR10 _ _ _ _ _ _ (it_exit hF hX10).symm hw hS (lv_sub hl [3] rfl)
  · have hF := it_f h14 hF
    refine lv_iload_n hx hb dX5_moveFlue_23 rfl (lv_at hl 2 rfl) ?_
    refine lv_if_ne (tgt := 77) hx hb dX5_moveFlue_24 (by decide) (fun h15 => ?_) (fun h15 => ?_)
    · have hF := it_f h15 hF
      exact hR10 _ _ _ _ _ _ (it_exit hF hX10).symm hw hS (lv_sub hl [3] rfl)
    · have hF := it_t h15 hF
      refine lv_aload_n hx hb dX5_moveFlue_27 rfl (lv_at hl 0 rfl) ?_
      refine gX5_11 hC hw (by omega) hq dX5_moveFlue_28 ?_
      refine lv_iload hx hb dX5_moveFlue_31 (lv_at hl 4 rfl) ?_
      obtain ⟨g16, hF⟩ := gi_t hF
      refine ld_barr hC hw (by omega) hq g16 dX5_moveFlue_33 ?_
      refine lv_astore (lv' := [(5, .ref (bb G + (po q + (8 + (v8).toNatClampNeg)))), (0, .ref (bb G + po q)), (1, .int x0), (2, .int x1), (3, .int v7), (4, .int v8)]) hx hb dX5_moveFlue_34 hl (by decide) rfl (fun ls hl => ?_)
      refine lv_aload hx hb dX5_moveFlue_36 (lv_at hl 0 rfl) ?_
      refine gX5_113 hC hw (by omega) hq (vp_lt g16) dX5_moveFlue_38 ?_
      refine lv_iload_n hx hb dX5_moveFlue_41 rfl (lv_at hl 2 rfl) ?_
      refine lv_icmp_ne (tgt := 71) hx hb dX5_moveFlue_42 (by decide) (fun h17 => ?_) (fun h17 => ?_)
      · have hF := it_f h17 hF
        obtain ⟨v18, ev18, hF⟩ := nm_t hF
        refine lv_iinc (v := v18) (lv' := [(4, .int v18), (5, .ref (bb G + (po q + (8 + (v8).toNatClampNeg)))), (0, .ref (bb G + po q)), (1, .int x0), (2, .int x1), (3, .int v7)]) hx hb dX5_moveFlue_71 hl (k := 5) rfl (by rw [ev18]; rfl) (by decide) rfl (fun ls hl => ?_)
        refine lv_goto (tgt := 14) hx hb dX5_moveFlue_74 (by decide) ?_
        exact it_back hF hk10 _ _ _ hw hS (lv_sub hl [2, 3, 4, 5, 0] rfl)
      · have hF := it_t h17 hF
        refine lv_aload hx hb dX5_moveFlue_45 (lv_at hl 0 rfl) ?_
        refine gX5_116 hC hw (by omega) hq (vp_lt g16) dX5_moveFlue_47 ?_
        refine lv_if_eq (tgt := 71) hx hb dX5_moveFlue_50 (by decide) (fun h19 => ?_) (fun h19 => ?_)
        · have hF := it_t h19 hF
          obtain ⟨v20, ev20, hF⟩ := nm_t hF
          refine lv_iinc (v := v20) (lv' := [(4, .int v20), (5, .ref (bb G + (po q + (8 + (v8).toNatClampNeg)))), (0, .ref (bb G + po q)), (1, .int x0), (2, .int x1), (3, .int v7)]) hx hb dX5_moveFlue_71 hl (k := 5) rfl (by rw [ev20]; rfl) (by decide) rfl (fun ls hl => ?_)
          refine lv_goto (tgt := 14) hx hb dX5_moveFlue_74 (by decide) ?_
          exact it_back hF hk10 _ _ _ hw hS (lv_sub hl [2, 3, 4, 5, 0] rfl)
        · have hF := it_f h19 hF
          refine lv_aload hx hb dX5_moveFlue_53 (lv_at hl 0 rfl) ?_
          refine gX5_116 hC hw (by omega) hq (vp_lt g16) dX5_moveFlue_55 ?_
          refine lv_iconst (v := 4) hx hb dX5_moveFlue_58 (by decide) ?_
          refine lv_icmp_eq (tgt := 71) hx hb dX5_moveFlue_59 (by decide) (fun h21 => ?_) (fun h21 => ?_)
          · have hF := it_t h21 hF
            obtain ⟨v22, ev22, hF⟩ := nm_t hF
            refine lv_iinc (v := v22) (lv' := [(4, .int v22), (5, .ref (bb G + (po q + (8 + (v8).toNatClampNeg)))), (0, .ref (bb G + po q)), (1, .int x0), (2, .int x1), (3, .int v7)]) hx hb dX5_moveFlue_71 hl (k := 5) rfl (by rw [ev22]; rfl) (by decide) rfl (fun ls hl => ?_)
            refine lv_goto (tgt := 14) hx hb dX5_moveFlue_74 (by decide) ?_
            exact it_back hF hk10 _ _ _ hw hS (lv_sub hl [2, 3, 4, 5, 0] rfl)
          · have hF := it_f h21 hF
            refine lv_aload hx hb dX5_moveFlue_62 (lv_at hl 0 rfl) ?_
            refine lv_iconst (v := 0) hx hb dX5_moveFlue_64 (by decide) ?_
            obtain ⟨r23, C24, hc25, hF⟩ := b2_t hF
            refine call_Vv hC (c_X0_leaveFor l G n (by omega) hn2 q hq (v8).toNatClampNeg (vp_lt g16) (0 : Int32) _ _ _ hc25) wvX5_154 ⟨rfl, rfl, by decide, by decide⟩ hw hS (by have := po_lt hq; have := (vp_lt g16); omega) (ca_boiler hq (vp_lt g16)) rfl hl.1 rfl (rest := []) rfl (Nat.le_of_ble_eq_true rfl) dX5_moveFlue_65 ⟨by decide, by decide⟩ (fun H locs hw hS _ => ?_)
            obtain ⟨v26, ev26, hF⟩ := nm_t hF
            refine lv_iinc (v := v26) (lv' := [(3, .int v26), (5, .ref (bb G + (po q + (8 + (v8).toNatClampNeg)))), (0, .ref (bb G + po q)), (1, .int x0), (2, .int x1), (4, .int v8)]) hx hb dX5_moveFlue_68 hl (k := 4) rfl (by rw [ev26]; rfl) (by decide) rfl (fun ls hl => ?_)
            obtain ⟨v27, ev27, hF⟩ := nm_t hF
            refine lv_iinc (v := v27) (lv' := [(4, .int v27), (3, .int v26), (5, .ref (bb G + (po q + (8 + (v8).toNatClampNeg)))), (0, .ref (bb G + po q)), (1, .int x0), (2, .int x1)]) hx hb dX5_moveFlue_71 hl (k := 5) rfl (by rw [ev27]; rfl) (by decide) rfl (fun ls hl => ?_)
            refine lv_goto (tgt := 14) hx hb dX5_moveFlue_74 (by decide) ?_
            exact it_back hF hk10 _ _ _ hw hS (lv_sub hl [3, 4, 5, 1, 0] rfl)
set_option maxHeartbeats 4000000 in
set_option maxRecDepth 100000 in
theorem c_X5_whyNoneStarts (l : Launch) (G : GG) (n : Nat) (hn : 244 ≤ n) (hn2 : 0 ≤ n) (q : Nat) (hq : q < 18) (C : Mem) (rR : Int32) (CR : Mem) (hF : F_X5_whyNoneStarts q C = some (rR, CR)) : Ct l yX5_whyNoneStarts cX5_whyNoneStarts 3 (some .int) (rmN 1 21) G n C [.ref (bb G + po q)] (some (.int rR)) CR := by
  refine Ct.of (by decide) (Nat.le_of_ble_eq_true rfl) ?_
  intro p e s m below meth c ls hC hr hlk hw hl
  have hx := hC.1
  have hb := hC.2.1
  have hS : LW G s s.heap [] := va_S.rf
  have hl : lv_has ls 3 [(0, .ref (bb G + po q))] := hl
  unfold F_X5_whyNoneStarts at hF
  refine lv_iconst (v := 3) hx hb dX5_whyNoneStarts_0 (by decide) ?_
  refine lv_istore_n (lv' := [(1, .int (3 : Int32)), (0, .ref (bb G + po q))]) hx hb dX5_whyNoneStarts_1 rfl hl (by decide) rfl (fun ls hl => ?_)
  refine lv_iconst (v := 0) hx hb dX5_whyNoneStarts_2 (by decide) ?_
  refine lv_istore_n (lv' := [(2, .int (0 : Int32)), (1, .int (3 : Int32)), (0, .ref (bb G + po q))]) hx hb dX5_whyNoneStarts_3 rfl hl (by decide) rfl (fun ls hl => ?_)
  obtain ⟨o4, hit4, hG4⟩ := b1_t hF
  have hR4 : ∀ (v5 : Int32) (v6 : Int32) (C7 : Mem) (H : Heap) (locs : List Loc) (ls : Array Slot), o4 = (v5, v6, C7) → Wd G n C7 H → LW G s H locs → lv_has ls 3 [(1, .int v5)] → W p l e (rmN 1 21) s m ([.ref (bb G + po q)] : List Value).toArray below meth c H locs 0 0 (MQ below (QR G n (some (.int rR)) CR) ([.ref (bb G + po q)] : List Value).toArray s 0 0 (frA G)) (F0 m 59 ls []) := by
    intro v5 v6 C7 H locs ls hE hw hS hl
    subst hE
    have hF := u3_t (hG4)
    refine lv_iload_n hx hb dX5_whyNoneStarts_59 rfl (lv_at hl 0 rfl) ?_
    exact m_iret hC hr hlk hw hS dX5_whyNoneStarts_60 hF
  refine iter_sound (P := fun x : Int32 × Int32 × Mem => ∀ (H : Heap) (locs : List Loc) (ls : Array Slot), Wd G n x.2.2 H → LW G s H locs → lv_has ls 3 [(0, .ref (bb G + po q)), (1, .int x.1), (2, .int x.2.1)] → W p l e (rmN 1 21) s m ([.ref (bb G + po q)] : List Value).toArray below meth c H locs 0 0 (MQ below (QR G n (some (.int rR)) CR) ([.ref (bb G + po q)] : List Value).toArray s 0 0 (frA G)) (F0 m 4 ls [])) (X := fun r => r = o4) ?_ fuel ((3 : Int32), (0 : Int32), C) o4 hit4 rfl _ _ _ hw hS (lv_sub hl [2, 1, 0] rfl)
  intro x oo4 hF hk4 hX4 H locs ls hw hS hl
  obtain ⟨v1, v2, C3⟩ := x
  have hF : S_X5_whyNoneStarts_4 q v1 v2 C3 = some oo4 := hF
  have hw : Wd G n C3 H := hw
  have hl : lv_has ls 3 [(0, .ref (bb G + po q)), (1, .int v1), (2, .int v2)] := hl
  unfold S_X5_whyNoneStarts_4 at hF
  refine lv_iload_n hx hb dX5_whyNoneStarts_4 rfl (lv_at hl 2 rfl) ?_
  refine lv_aload_n hx hb dX5_whyNoneStarts_5 rfl (lv_at hl 0 rfl) ?_
  refine gX5_57 hC hw (by omega) hq dX5_whyNoneStarts_6 ?_
  refine lv_icmp_ge (tgt := 59) hx hb dX5_whyNoneStarts_9 (by decide) (fun h8 => ?_) (fun h8 => ?_)
  · have hF := it_t h8 hF
    exact hR4 _ _ _ _ _ _ (it_exit hF hX4).symm hw hS (lv_sub hl [1] rfl)
  · have hF := it_f h8 hF
    refine lv_aload_n hx hb dX5_whyNoneStarts_12 rfl (lv_at hl 0 rfl) ?_
    refine gX5_11 hC hw (by omega) hq dX5_whyNoneStarts_13 ?_
    refine lv_iload_n hx hb dX5_whyNoneStarts_16 rfl (lv_at hl 2 rfl) ?_
    obtain ⟨g9, hF⟩ := gi_t hF
    refine ld_barr hC hw (by omega) hq g9 dX5_whyNoneStarts_17 ?_
    obtain ⟨r10, C11, hc12, hF⟩ := b2_t hF
    refine call_Vi hC (c_X0_waits l G n (by omega) hn2 q hq (v2).toNatClampNeg (vp_lt g9) _ _ _ hc12) wvX5_143 ⟨rfl, rfl, by decide, by decide⟩ hw hS (by have := po_lt hq; have := (vp_lt g9); omega) (ca_boiler hq (vp_lt g9)) rfl hl.1 rfl (rest := []) rfl (Nat.le_of_ble_eq_true rfl) dX5_whyNoneStarts_18 ⟨by decide, by decide⟩ (fun H locs hw hS _ => ?_)
    refine lv_if_eq (tgt := 53) hx hb dX5_whyNoneStarts_21 (by decide) (fun h13 => ?_) (fun h13 => ?_)
    · have hF := it_t h13 hF
      obtain ⟨v14, ev14, hF⟩ := nm_t hF
      refine lv_iinc (v := v14) (lv' := [(2, .int v14), (0, .ref (bb G + po q)), (1, .int v1)]) hx hb dX5_whyNoneStarts_53 hl (k := 2) rfl (by rw [ev14]; rfl) (by decide) rfl (fun ls hl => ?_)
      refine lv_goto (tgt := 4) hx hb dX5_whyNoneStarts_56 (by decide) ?_
      exact it_back hF hk4 _ _ _ hw hS (lv_sub hl [1, 2, 0] rfl)
    · have hF := it_f h13 hF
      refine lv_iload_n hx hb dX5_whyNoneStarts_24 rfl (lv_at hl 1 rfl) ?_
      refine lv_aload_n hx hb dX5_whyNoneStarts_25 rfl (lv_at hl 0 rfl) ?_
      refine lv_aload_n hx hb dX5_whyNoneStarts_26 rfl (lv_at hl 0 rfl) ?_
      refine gX5_11 hC hw (by omega) hq dX5_whyNoneStarts_27 ?_
      refine lv_iload_n hx hb dX5_whyNoneStarts_30 rfl (lv_at hl 2 rfl) ?_
      obtain ⟨g15, hF⟩ := gi_t hF
      refine ld_barr hC hw (by omega) hq g15 dX5_whyNoneStarts_31 ?_
      refine gX5_113 hC hw (by omega) hq (vp_lt g15) dX5_whyNoneStarts_32 ?_
      obtain ⟨r16, C17, hc18, hF⟩ := b2_t hF
      refine call_Vr hC (c_X5_flueOf l G n (by omega) hn2 q hq (C11 q (30 + 7 * (v2).toNatClampNeg + 1)) _ _ _ hc18) wvX5_128 ⟨rfl, rfl, by decide, by decide⟩ hw hS (by have := po_lt hq; omega) (ca_plant hq) rfl hl.1 rfl (rest := [.int v1]) rfl (Nat.le_of_ble_eq_true rfl) dX5_whyNoneStarts_35 ⟨by decide, by decide⟩ (fun H locs hw hS _ => ?_)
      obtain ⟨g19, hF⟩ := gn_t hF
      refine gX5_132 hC hw (by omega) hq g19 dX5_whyNoneStarts_38 ?_
      refine lv_if_eq (tgt := 48) hx hb dX5_whyNoneStarts_41 (by decide) (fun h20 => ?_) (fun h20 => ?_)
      · have hF := it_t h20 hF
        refine lv_iconst (v := 2) hx hb dX5_whyNoneStarts_48 (by decide) ?_
        refine va_mmin hx hb (hC.2.2.1.trans hl.1.symm) hC.2.2.2.1 (hC.2.2.2.2.1 _ kM_min_X5_51) (hC.2.2.2.2.1 _ kM_min.1) (hC.2.2.2.2.1 _ kM_min.2.1) (hC.2.2.2.2.1 _ kM_min.2.2) (by decide) (Nat.le_of_ble_eq_true rfl) (by decide) (by decide) dX5_whyNoneStarts_49 ?_
        obtain ⟨v21, ev21, hF⟩ := nm_t hF
        refine lv_nmi ev21 ?_
        refine lv_istore_n (lv' := [(1, .int v21), (0, .ref (bb G + po q)), (2, .int v2)]) hx hb dX5_whyNoneStarts_52 rfl hl (by decide) rfl (fun ls hl => ?_)
        obtain ⟨v22, ev22, hF⟩ := nm_t hF
        refine lv_iinc (v := v22) (lv' := [(2, .int v22), (1, .int v21), (0, .ref (bb G + po q))]) hx hb dX5_whyNoneStarts_53 hl (k := 2) rfl (by rw [ev22]; rfl) (by decide) rfl (fun ls hl => ?_)
        refine lv_goto (tgt := 4) hx hb dX5_whyNoneStarts_56 (by decide) ?_
        exact it_back hF hk4 _ _ _ hw hS (lv_sub hl [2, 1, 0] rfl)
      · have hF := it_f h20 hF
        refine lv_iconst (v := 1) hx hb dX5_whyNoneStarts_44 (by decide) ?_
        refine lv_goto (tgt := 49) hx hb dX5_whyNoneStarts_45 (by decide) ?_
        refine va_mmin hx hb (hC.2.2.1.trans hl.1.symm) hC.2.2.2.1 (hC.2.2.2.2.1 _ kM_min_X5_51) (hC.2.2.2.2.1 _ kM_min.1) (hC.2.2.2.2.1 _ kM_min.2.1) (hC.2.2.2.2.1 _ kM_min.2.2) (by decide) (Nat.le_of_ble_eq_true rfl) (by decide) (by decide) dX5_whyNoneStarts_49 ?_
        obtain ⟨v23, ev23, hF⟩ := nm_t hF
        refine lv_nmi ev23 ?_
        refine lv_istore_n (lv' := [(1, .int v23), (0, .ref (bb G + po q)), (2, .int v2)]) hx hb dX5_whyNoneStarts_52 rfl hl (by decide) rfl (fun ls hl => ?_)
        obtain ⟨v24, ev24, hF⟩ := nm_t hF
        refine lv_iinc (v := v24) (lv' := [(2, .int v24), (1, .int v23), (0, .ref (bb G + po q))]) hx hb dX5_whyNoneStarts_53 hl (k := 2) rfl (by rw [ev24]; rfl) (by decide) rfl (fun ls hl => ?_)
        refine lv_goto (tgt := 4) hx hb dX5_whyNoneStarts_56 (by decide) ?_
        exact it_back hF hk4 _ _ _ hw hS (lv_sub hl [2, 1, 0] rfl)
set_option maxHeartbeats 4000000 in
set_option maxRecDepth 100000 in
theorem c_X5_control (l : Launch) (G : GG) (n : Nat) (hn : 244 ≤ n) (hn2 : 0 ≤ n) (q : Nat) (hq : q < 18) (x0 : Int32) (C : Mem) (rR : Int32) (CR : Mem) (hF : F_X5_control q x0 C = some (rR, CR)) : Ct l yX5_control cX5_control 4 none (rmN 3 70) G n C [.ref (bb G + po q), .int x0] none CR := by
  refine Ct.of (by decide) (Nat.le_of_ble_eq_true rfl) ?_
  intro p e s m below meth c ls hC hr hlk hw hl
  have hx := hC.1
  have hb := hC.2.1
  have hS : LW G s s.heap [] := va_S.rf
  have hl : lv_has ls 4 [(0, .ref (bb G + po q)), (1, .int x0)] := hl
  unfold F_X5_control at hF
  refine lv_aload_n hx hb dX5_control_0 rfl (lv_at hl 0 rfl) ?_
  refine gX5_34 hC hw (by omega) hq dX5_control_1 ?_
  obtain ⟨r1, C2, hc3, hF⟩ := b2_t hF
  refine call_Vi hC (c_X7_mean l G n (by omega) hn2 q hq _ _ _ hc3) wvX5_186 ⟨rfl, rfl, by decide, by decide⟩ hw hS (by have := po_lt hq; omega) (ca_tank hq) rfl hl.1 rfl (rest := []) rfl (Nat.le_of_ble_eq_true rfl) dX5_control_4 ⟨by decide, by decide⟩ (fun H locs hw hS _ => ?_)
  refine lv_istore_n (lv' := [(2, .int r1), (0, .ref (bb G + po q)), (1, .int x0)]) hx hb dX5_control_7 rfl hl (by decide) rfl (fun ls hl => ?_)
  refine lv_aload_n hx hb dX5_control_8 rfl (lv_at hl 1 rfl) ?_
  refine lv_iconst (v := 0) hx hb dX5_control_9 (by decide) ?_
  refine pX5_97 hC hw hS (by omega) hn2 hq dX5_control_10 (fun H locs hw hS _ => ?_)
  obtain ⟨C4, eC4, hF⟩ := nm_t hF
  have hw := Wd.cast eC4 hw
  refine lv_iload_n hx hb dX5_control_13 rfl (lv_at hl 0 rfl) ?_
  refine lv_iload_n hx hb dX5_control_14 rfl (lv_at hl 2 rfl) ?_
  refine lv_aload_n hx hb dX5_control_15 rfl (lv_at hl 1 rfl) ?_
  refine gX5_27 hC hw (by omega) hq dX5_control_16 ?_
  refine lv_iconst (v := 1) hx hb dX5_control_19 (by decide) ?_
  refine ld_sett hC hw (by omega) hq (show vp_in (1 : Int32) 6 by unfold vp_in; decide) dX5_control_20 ?_
  refine lv_isub hx hb dX5_control_21 ?_
  refine lv_icmp_ge (tgt := 67) hx hb dX5_control_22 (by decide) (fun h5 => ?_) (fun h5 => ?_)
  · have hF := it_t h5 hF
    refine lv_iload_n hx hb dX5_control_67 rfl (lv_at hl 0 rfl) ?_
    refine lv_iload_n hx hb dX5_control_68 rfl (lv_at hl 2 rfl) ?_
    refine lv_aload_n hx hb dX5_control_69 rfl (lv_at hl 1 rfl) ?_
    refine gX5_27 hC hw (by omega) hq dX5_control_70 ?_
    refine lv_iconst (v := 1) hx hb dX5_control_73 (by decide) ?_
    refine ld_sett hC hw (by omega) hq (show vp_in (1 : Int32) 6 by unfold vp_in; decide) dX5_control_74 ?_
    refine lv_iadd hx hb dX5_control_75 ?_
    refine lv_icmp_le (tgt := 102) hx hb dX5_control_76 (by decide) (fun h6 => ?_) (fun h6 => ?_)
    · have hF := it_t h6 hF
      exact m_vret hC hr hlk hw hS dX5_control_102 hF
    · have hF := it_f h6 hF
      refine lv_aload_n hx hb dX5_control_79 rfl (lv_at hl 1 rfl) ?_
      obtain ⟨r7, C8, hc9, hF⟩ := b2_t hF
      refine call_Vi hC (c_X5_firstToRest l G n (by omega) hn2 q hq _ _ _ hc9) wvX5_202 ⟨rfl, rfl, by decide, by decide⟩ hw hS (by have := po_lt hq; omega) (ca_plant hq) rfl hl.1 rfl (rest := []) rfl (Nat.le_of_ble_eq_true rfl) dX5_control_80 ⟨by decide, by decide⟩ (fun H locs hw hS _ => ?_)
      refine lv_istore_n (lv' := [(3, .int r7), (2, .int r1), (0, .ref (bb G + po q)), (1, .int x0)]) hx hb dX5_control_83 rfl hl (by decide) rfl (fun ls hl => ?_)
      refine lv_aload_n hx hb dX5_control_84 rfl (lv_at hl 2 rfl) ?_
      refine lv_iload_n hx hb dX5_control_85 rfl (lv_at hl 0 rfl) ?_
      obtain ⟨r10, C11, hc12, hF⟩ := b2_t hF
      refine call_Vi hC (c_X5_hasBoiler l G n (by omega) hn2 q hq r7 _ _ _ hc12) wvX5_192 ⟨rfl, rfl, by decide, by decide⟩ hw hS (by have := po_lt hq; omega) (ca_plant hq) rfl hl.1 rfl (rest := []) rfl (Nat.le_of_ble_eq_true rfl) dX5_control_86 ⟨by decide, by decide⟩ (fun H locs hw hS _ => ?_)
      refine lv_if_eq (tgt := 102) hx hb dX5_control_89 (by decide) (fun h13 => ?_) (fun h13 => ?_)
      · have hF := it_t h13 hF
        exact m_vret hC hr hlk hw hS dX5_control_102 hF
      · have hF := it_f h13 hF
        refine lv_aload_n hx hb dX5_control_92 rfl (lv_at hl 2 rfl) ?_
        refine gX5_11 hC hw (by omega) hq dX5_control_93 ?_
        refine lv_iload_n hx hb dX5_control_96 rfl (lv_at hl 0 rfl) ?_
        obtain ⟨g14, hF⟩ := gi_t hF
        refine ld_barr hC hw (by omega) hq g14 dX5_control_97 ?_
        refine lv_iconst (v := 3) hx hb dX5_control_98 (by decide) ?_
        obtain ⟨r15, C16, hc17, hF⟩ := b2_t hF
        refine call_Vv hC (c_X0_leaveFor l G n (by omega) hn2 q hq (r7).toNatClampNeg (vp_lt g14) (3 : Int32) _ _ _ hc17) wvX5_154 ⟨rfl, rfl, by decide, by decide⟩ hw hS (by have := po_lt hq; have := (vp_lt g14); omega) (ca_boiler hq (vp_lt g14)) rfl hl.1 rfl (rest := []) rfl (Nat.le_of_ble_eq_true rfl) dX5_control_99 ⟨by decide, by decide⟩ (fun H locs hw hS _ => ?_)
        exact m_vret hC hr hlk hw hS dX5_control_102 hF
  · have hF := it_f h5 hF
    refine lv_aload_n hx hb dX5_control_25 rfl (lv_at hl 1 rfl) ?_
    obtain ⟨r18, C19, hc20, hF⟩ := b2_t hF
    refine call_Vi hC (c_X5_firstToStart l G n (by omega) hn2 q hq _ _ _ hc20) wvX5_189 ⟨rfl, rfl, by decide, by decide⟩ hw hS (by have := po_lt hq; omega) (ca_plant hq) rfl hl.1 rfl (rest := []) rfl (Nat.le_of_ble_eq_true rfl) dX5_control_26 ⟨by decide, by decide⟩ (fun H locs hw hS _ => ?_)
    refine lv_istore_n (lv' := [(3, .int r18), (2, .int r1), (0, .ref (bb G + po q)), (1, .int x0)]) hx hb dX5_control_29 rfl hl (by decide) rfl (fun ls hl => ?_)
    refine lv_aload_n hx hb dX5_control_30 rfl (lv_at hl 2 rfl) ?_
    refine lv_iload_n hx hb dX5_control_31 rfl (lv_at hl 0 rfl) ?_
    obtain ⟨r21, C22, hc23, hF⟩ := b2_t hF
    refine call_Vi hC (c_X5_hasBoiler l G n (by omega) hn2 q hq r18 _ _ _ hc23) wvX5_192 ⟨rfl, rfl, by decide, by decide⟩ hw hS (by have := po_lt hq; omega) (ca_plant hq) rfl hl.1 rfl (rest := []) rfl (Nat.le_of_ble_eq_true rfl) dX5_control_32 ⟨by decide, by decide⟩ (fun H locs hw hS _ => ?_)
    refine lv_if_eq (tgt := 56) hx hb dX5_control_35 (by decide) (fun h24 => ?_) (fun h24 => ?_)
    · have hF := it_t h24 hF
      refine lv_aload_n hx hb dX5_control_56 rfl (lv_at hl 2 rfl) ?_
      refine lv_aload_n hx hb dX5_control_57 rfl (lv_at hl 2 rfl) ?_
      obtain ⟨r25, C26, hc27, hF⟩ := b2_t hF
      refine call_Vi hC (c_X5_whyNoneStarts l G n (by omega) hn2 q hq _ _ _ hc27) wvX5_199 ⟨rfl, rfl, by decide, by decide⟩ hw hS (by have := po_lt hq; omega) (ca_plant hq) rfl hl.1 rfl (rest := [.ref (bb G + po q)]) rfl (Nat.le_of_ble_eq_true rfl) dX5_control_58 ⟨by decide, by decide⟩ (fun H locs hw hS _ => ?_)
      refine pX5_97 hC hw hS (by omega) hn2 hq dX5_control_61 (fun H locs hw hS _ => ?_)
      obtain ⟨C28, eC28, hF⟩ := nm_t hF
      have hw := Wd.cast eC28 hw
      refine lv_goto (tgt := 102) hx hb dX5_control_64 (by decide) ?_
      exact m_vret hC hr hlk hw hS dX5_control_102 hF
    · have hF := it_f h24 hF
      refine lv_aload_n hx hb dX5_control_38 rfl (lv_at hl 2 rfl) ?_
      refine gX5_11 hC hw (by omega) hq dX5_control_39 ?_
      refine lv_iload_n hx hb dX5_control_42 rfl (lv_at hl 0 rfl) ?_
      obtain ⟨g29, hF⟩ := gi_t hF
      refine ld_barr hC hw (by omega) hq g29 dX5_control_43 ?_
      refine lv_aload_n hx hb dX5_control_44 rfl (lv_at hl 2 rfl) ?_
      refine gX5_27 hC hw (by omega) hq dX5_control_45 ?_
      refine lv_iconst (v := 2) hx hb dX5_control_48 (by decide) ?_
      refine ld_sett hC hw (by omega) hq (show vp_in (2 : Int32) 6 by unfold vp_in; decide) dX5_control_49 ?_
      obtain ⟨r30, C31, hc32, hF⟩ := b2_t hF
      refine call_Vv hC (c_X0_start l G n (by omega) hn2 q hq (r18).toNatClampNeg (vp_lt g29) (C22 q ((2 : Int32)).toNatClampNeg) _ _ _ hc32) wvX5_196 ⟨rfl, rfl, by decide, by decide⟩ hw hS (by have := po_lt hq; have := (vp_lt g29); omega) (ca_boiler hq (vp_lt g29)) rfl hl.1 rfl (rest := []) rfl (Nat.le_of_ble_eq_true rfl) dX5_control_50 ⟨by decide, by decide⟩ (fun H locs hw hS _ => ?_)
      refine lv_goto (tgt := 64) hx hb dX5_control_53 (by decide) ?_
      refine lv_goto (tgt := 102) hx hb dX5_control_64 (by decide) ?_
      exact m_vret hC hr hlk hw hS dX5_control_102 hF
set_option maxHeartbeats 4000000 in
set_option maxRecDepth 100000 in
theorem c_X5_passTicks (l : Launch) (G : GG) (n : Nat) (hn : 244 ≤ n) (hn2 : 0 ≤ n) (q : Nat) (hq : q < 18) (x0 : Int32) (x1 : Int32) (C : Mem) (rR : Int32) (CR : Mem) (hF : F_X5_passTicks q x0 x1 C = some (rR, CR)) : Ct l yX5_passTicks cX5_passTicks 5 none (rmN 4 93) G n C [.ref (bb G + po q), .int x0, .int x1] none CR := by
  refine Ct.of (by decide) (Nat.le_of_ble_eq_true rfl) ?_
  intro p e s m below meth c ls hC hr hlk hw hl
  have hx := hC.1
  have hb := hC.2.1
  have hS : LW G s s.heap [] := va_S.rf
  have hl : lv_has ls 5 [(0, .ref (bb G + po q)), (1, .int x0), (2, .int x1)] := hl
  unfold F_X5_passTicks at hF
  refine lv_iconst (v := 0) hx hb dX5_passTicks_0 (by decide) ?_
  refine lv_istore_n (lv' := [(3, .int (0 : Int32)), (0, .ref (bb G + po q)), (1, .int x0), (2, .int x1)]) hx hb dX5_passTicks_1 rfl hl (by decide) rfl (fun ls hl => ?_)
  obtain ⟨o3, hit3, hG3⟩ := b1_t hF
  have hR3 : ∀ (v4 : Int32) (C5 : Mem) (H : Heap) (locs : List Loc) (ls : Array Slot), o3 = (v4, C5) → Wd G n C5 H → LW G s H locs → lv_has ls 5 [] → W p l e (rmN 4 93) s m ([.ref (bb G + po q), .int x0, .int x1] : List Value).toArray below meth c H locs 0 0 (MQ below (QR G n none CR) ([.ref (bb G + po q), .int x0, .int x1] : List Value).toArray s 0 0 (frA G)) (F0 m 168 ls []) := by
    intro v4 C5 H locs ls hE hw hS hl
    subst hE
    have hF := u2_t (hG3)
    exact m_vret hC hr hlk hw hS dX5_passTicks_168 hF
  refine iter_sound (P := fun x : Int32 × Mem => ∀ (H : Heap) (locs : List Loc) (ls : Array Slot), Wd G n x.2 H → LW G s H locs → lv_has ls 5 [(0, .ref (bb G + po q)), (1, .int x0), (2, .int x1), (3, .int x.1)] → W p l e (rmN 4 93) s m ([.ref (bb G + po q), .int x0, .int x1] : List Value).toArray below meth c H locs 0 0 (MQ below (QR G n none CR) ([.ref (bb G + po q), .int x0, .int x1] : List Value).toArray s 0 0 (frA G)) (F0 m 2 ls [])) (X := fun r => r = o3) ?_ fuel ((0 : Int32), C) o3 hit3 rfl _ _ _ hw hS (lv_sub hl [1, 2, 3, 0] rfl)
  intro x oo3 hF hk3 hX3 H locs ls hw hS hl
  obtain ⟨v1, C2⟩ := x
  have hF : S_X5_passTicks_2 q x0 x1 v1 C2 = some oo3 := hF
  have hw : Wd G n C2 H := hw
  have hl : lv_has ls 5 [(0, .ref (bb G + po q)), (1, .int x0), (2, .int x1), (3, .int v1)] := hl
  unfold S_X5_passTicks_2 at hF
  refine lv_iload_n hx hb dX5_passTicks_2 rfl (lv_at hl 3 rfl) ?_
  refine lv_iload_n hx hb dX5_passTicks_3 rfl (lv_at hl 1 rfl) ?_
  refine lv_icmp_ge (tgt := 168) hx hb dX5_passTicks_4 (by decide) (fun h6 => ?_) (fun h6 => ?_)
  · have hF := it_t h6 hF
    exact hR3 _ _ _ _ _ (it_exit hF hX3).symm hw hS (lv_sub hl [] rfl)
  · have hF := it_f h6 hF
    refine lv_aload_n hx hb dX5_passTicks_7 rfl (lv_at hl 0 rfl) ?_
    refine gX5_34 hC hw (by omega) hq dX5_passTicks_8 ?_
    refine lv_iload_n hx hb dX5_passTicks_11 rfl (lv_at hl 2 rfl) ?_
    obtain ⟨r7, C8, hc9, hF⟩ := b2_t hF
    refine call_Vi hC (c_X7_deliver l G n (by omega) hn2 q hq x1 _ _ _ hc9) wvX5_157 ⟨rfl, rfl, by decide, by decide⟩ hw hS (by have := po_lt hq; omega) (ca_tank hq) rfl hl.1 rfl (rest := []) rfl (Nat.le_of_ble_eq_true rfl) dX5_passTicks_12 ⟨by decide, by decide⟩ (fun H locs hw hS _ => ?_)
    refine lv_pop hx hb dX5_passTicks_15 rfl ?_
    refine lv_aload_n hx hb dX5_passTicks_16 rfl (lv_at hl 0 rfl) ?_
    refine gX5_94 hC hw (by omega) hq dX5_passTicks_17 ?_
    refine lv_bipush (v := 24) hx hb dX5_passTicks_20 (by decide) ?_
    refine lv_irem hx hb dX5_passTicks_22 (by decide) ?_
    refine lv_aload_n hx hb dX5_passTicks_23 rfl (lv_at hl 0 rfl) ?_
    refine gX5_27 hC hw (by omega) hq dX5_passTicks_24 ?_
    refine lv_iconst (v := 5) hx hb dX5_passTicks_27 (by decide) ?_
    refine ld_sett hC hw (by omega) hq (show vp_in (5 : Int32) 6 by unfold vp_in; decide) dX5_passTicks_28 ?_
    have hJ40 : ∀ (C11 : Mem) (H : Heap) (locs : List Loc) (ls : Array Slot), J_X5_passTicks_40 q v1 C11 = some oo3 → Wd G n C11 H → LW G s H locs → lv_has ls 5 [(0, .ref (bb G + po q)), (1, .int x0), (2, .int x1), (3, .int v1)] → W p l e (rmN 4 93) s m ([.ref (bb G + po q), .int x0, .int x1] : List Value).toArray below meth c H locs 0 0 (MQ below (QR G n none CR) ([.ref (bb G + po q), .int x0, .int x1] : List Value).toArray s 0 0 (frA G)) (F0 m 40 ls []) := by
      intro C11 H locs ls hF hw hS hl
      unfold J_X5_passTicks_40 at hF
      refine lv_aload_n hx hb dX5_passTicks_40 rfl (lv_at hl 0 rfl) ?_
      refine lv_aload_n hx hb dX5_passTicks_41 rfl (lv_at hl 0 rfl) ?_
      refine gX5_41 hC hw (by omega) hq dX5_passTicks_42 ?_
      refine gX5_160 hC hw (by omega) hq dX5_passTicks_45 ?_
      have hJ66 : ∀ (v13 : Int32) (H : Heap) (locs : List Loc) (ls : Array Slot), J_X5_passTicks_66 q v1 C11 v13 = some oo3 → Wd G n C11 H → LW G s H locs → lv_has ls 5 [(0, .ref (bb G + po q)), (1, .int x0), (2, .int x1), (3, .int v1)] → W p l e (rmN 4 93) s m ([.ref (bb G + po q), .int x0, .int x1] : List Value).toArray below meth c H locs 0 0 (MQ below (QR G n none CR) ([.ref (bb G + po q), .int x0, .int x1] : List Value).toArray s 0 0 (frA G)) (F0 m 66 ls [.int v13, .ref (bb G + po q)]) := by
        intro v13 H locs ls hF hw hS hl
        unfold J_X5_passTicks_66 at hF
        obtain ⟨r14, C15, hc16, hF⟩ := b2_t hF
        refine call_Vv hC (c_X5_control l G n (by omega) hn2 q hq v13 _ _ _ hc16) wvX5_163 ⟨rfl, rfl, by decide, by decide⟩ hw hS (by have := po_lt hq; omega) (ca_plant hq) rfl hl.1 rfl (rest := []) rfl (Nat.le_of_ble_eq_true rfl) dX5_passTicks_66 ⟨by decide, by decide⟩ (fun H locs hw hS _ => ?_)
        refine lv_iconst (v := 0) hx hb dX5_passTicks_69 (by decide) ?_
        refine lv_istore (lv' := [(4, .int (0 : Int32)), (0, .ref (bb G + po q)), (1, .int x0), (2, .int x1), (3, .int v1)]) hx hb dX5_passTicks_70 hl (by decide) rfl (fun ls hl => ?_)
        obtain ⟨o19, hit19, hG19⟩ := b1_t hF
        have hR19 : ∀ (v20 : Int32) (C21 : Mem) (H : Heap) (locs : List Loc) (ls : Array Slot), o19 = (v20, C21) → Wd G n C21 H → LW G s H locs → lv_has ls 5 [(0, .ref (bb G + po q)), (1, .int x0), (2, .int x1), (3, .int v1)] → W p l e (rmN 4 93) s m ([.ref (bb G + po q), .int x0, .int x1] : List Value).toArray below meth c H locs 0 0 (MQ below (QR G n none CR) ([.ref (bb G + po q), .int x0, .int x1] : List Value).toArray s 0 0 (frA G)) (F0 m 104 ls []) := by
          intro v20 C21 H locs ls hE hw hS hl
          subst hE
          have hF := u2_t (hG19)
          refine lv_aload_n hx hb dX5_passTicks_104 rfl (lv_at hl 0 rfl) ?_
          refine gX5_34 hC hw (by omega) hq dX5_passTicks_105 ?_
          obtain ⟨r31, C32, hc33, hF⟩ := b2_t hF
          refine call_Vv hC (c_X7_cool l G n (by omega) hn2 q hq _ _ _ hc33) wvX5_173 ⟨rfl, rfl, by decide, by decide⟩ hw hS (by have := po_lt hq; omega) (ca_tank hq) rfl hl.1 rfl (rest := []) rfl (Nat.le_of_ble_eq_true rfl) dX5_passTicks_108 ⟨by decide, by decide⟩ (fun H locs hw hS _ => ?_)
          refine lv_aload_n hx hb dX5_passTicks_111 rfl (lv_at hl 0 rfl) ?_
          refine gX5_34 hC hw (by omega) hq dX5_passTicks_112 ?_
          obtain ⟨r34, C35, hc36, hF⟩ := b2_t hF
          refine call_Vv hC (c_X7_putInOrder l G n (by omega) hn2 q hq _ _ _ hc36) wvX5_176 ⟨rfl, rfl, by decide, by decide⟩ hw hS (by have := po_lt hq; omega) (ca_tank hq) rfl hl.1 rfl (rest := []) rfl (Nat.le_of_ble_eq_true rfl) dX5_passTicks_115 ⟨by decide, by decide⟩ (fun H locs hw hS _ => ?_)
          refine lv_aload_n hx hb dX5_passTicks_118 rfl (lv_at hl 0 rfl) ?_
          refine gX5_41 hC hw (by omega) hq dX5_passTicks_119 ?_
          refine lv_aload_n hx hb dX5_passTicks_122 rfl (lv_at hl 0 rfl) ?_
          refine gX5_34 hC hw (by omega) hq dX5_passTicks_123 ?_
          obtain ⟨r37, C38, hc39, hF⟩ := b2_t hF
          refine call_Vi hC (c_X7_coldest l G n (by omega) hn2 q hq _ _ _ hc39) wvX5_179 ⟨rfl, rfl, by decide, by decide⟩ hw hS (by have := po_lt hq; omega) (ca_tank hq) rfl hl.1 rfl (rest := [.ref (bb G + (po q + 7))]) rfl (Nat.le_of_ble_eq_true rfl) dX5_passTicks_126 ⟨by decide, by decide⟩ (fun H locs hw hS _ => ?_)
          refine lv_aload_n hx hb dX5_passTicks_129 rfl (lv_at hl 0 rfl) ?_
          refine gX5_27 hC hw (by omega) hq dX5_passTicks_130 ?_
          refine lv_iconst (v := 3) hx hb dX5_passTicks_133 (by decide) ?_
          refine ld_sett hC hw (by omega) hq (show vp_in (3 : Int32) 6 by unfold vp_in; decide) dX5_passTicks_134 ?_
          have hJ143 : ∀ (v41 : Int32) (H : Heap) (locs : List Loc) (ls : Array Slot), J_X5_passTicks_143 q v1 C38 v41 = some oo3 → Wd G n C38 H → LW G s H locs → lv_has ls 5 [(0, .ref (bb G + po q)), (1, .int x0), (2, .int x1), (3, .int v1)] → W p l e (rmN 4 93) s m ([.ref (bb G + po q), .int x0, .int x1] : List Value).toArray below meth c H locs 0 0 (MQ below (QR G n none CR) ([.ref (bb G + po q), .int x0, .int x1] : List Value).toArray s 0 0 (frA G)) (F0 m 143 ls [.int v41, .ref (bb G + (po q + 7))]) := by
            intro v41 H locs ls hF hw hS hl
            unfold J_X5_passTicks_143 at hF
            refine lv_aload_n hx hb dX5_passTicks_143 rfl (lv_at hl 0 rfl) ?_
            refine gX5_27 hC hw (by omega) hq dX5_passTicks_144 ?_
            refine lv_iconst (v := 4) hx hb dX5_passTicks_147 (by decide) ?_
            refine ld_sett hC hw (by omega) hq (show vp_in (4 : Int32) 6 by unfold vp_in; decide) dX5_passTicks_148 ?_
            obtain ⟨r42, C43, hc44, hF⟩ := b2_t hF
            refine call_Vv hC (c_X3_countTick l G n (by omega) hn2 q hq v41 (C38 q ((4 : Int32)).toNatClampNeg) _ _ _ hc44) wvX5_182 ⟨rfl, rfl, by decide, by decide⟩ hw hS (by have := po_lt hq; omega) (ca_kill hq) rfl hl.1 rfl (rest := []) rfl (Nat.le_of_ble_eq_true rfl) dX5_passTicks_149 ⟨by decide, by decide⟩ (fun H locs hw hS _ => ?_)
            refine lv_aload_n hx hb dX5_passTicks_152 rfl (lv_at hl 0 rfl) ?_
            refine lv_dup hx hb dX5_passTicks_153 rfl ?_
            refine gX5_94 hC hw (by omega) hq dX5_passTicks_154 ?_
            refine lv_iconst (v := 1) hx hb dX5_passTicks_157 (by decide) ?_
            refine lv_iadd hx hb dX5_passTicks_158 ?_
            refine pX5_94 hC hw hS (by omega) hn2 hq dX5_passTicks_159 (fun H locs hw hS _ => ?_)
            obtain ⟨C45, eC45, hF⟩ := nm_t hF
            have hw := Wd.cast eC45 hw
            obtain ⟨v46, ev46, hF⟩ := nm_t hF
            refine lv_iinc (v := v46) (lv' := [(3, .int v46), (0, .ref (bb G + po q)), (1, .int x0), (2, .int x1)]) hx hb dX5_passTicks_162 hl (k := 3) rfl (by rw [ev46]; rfl) (by decide) rfl (fun ls hl => ?_)
            refine lv_goto (tgt := 2) hx hb dX5_passTicks_165 (by decide) ?_
            exact it_back hF hk3 _ _ _ hw hS (lv_sub hl [1, 2, 3, 0] rfl)
          refine lv_icmp_lt (tgt := 142) hx hb dX5_passTicks_135 (by decide) (fun h40 => ?_) (fun h40 => ?_)
          · have hF := it_t h40 hF
            refine lv_iconst (v := 0) hx hb dX5_passTicks_142 (by decide) ?_
            exact hJ143 (0 : Int32) _ _ _ hF hw hS (lv_sub hl [0, 1, 2, 3] rfl)
          · have hF := it_f h40 hF
            refine lv_iconst (v := 1) hx hb dX5_passTicks_138 (by decide) ?_
            refine lv_goto (tgt := 143) hx hb dX5_passTicks_139 (by decide) ?_
            exact hJ143 (1 : Int32) _ _ _ hF hw hS (lv_sub hl [0, 1, 2, 3] rfl)
        refine iter_sound (P := fun x : Int32 × Mem => ∀ (H : Heap) (locs : List Loc) (ls : Array Slot), Wd G n x.2 H → LW G s H locs → lv_has ls 5 [(0, .ref (bb G + po q)), (1, .int x0), (2, .int x1), (3, .int v1), (4, .int x.1)] → W p l e (rmN 4 93) s m ([.ref (bb G + po q), .int x0, .int x1] : List Value).toArray below meth c H locs 0 0 (MQ below (QR G n none CR) ([.ref (bb G + po q), .int x0, .int x1] : List Value).toArray s 0 0 (frA G)) (F0 m 72 ls [])) (X := fun r => r = o19) ?_ fuel ((0 : Int32), C15) o19 hit19 rfl _ _ _ hw hS (lv_sub hl [1, 2, 3, 4, 0] rfl)
        intro x oo19 hF hk19 hX19 H locs ls hw hS hl
        obtain ⟨v17, C18⟩ := x
        have hF : S_X5_passTicks_72 q v17 C18 = some oo19 := hF
        have hw : Wd G n C18 H := hw
        have hl : lv_has ls 5 [(0, .ref (bb G + po q)), (1, .int x0), (2, .int x1), (3, .int v1), (4, .int v17)] := hl
        unfold S_X5_passTicks_72 at hF
        refine lv_iload hx hb dX5_passTicks_72 (lv_at hl 4 rfl) ?_
        refine lv_aload_n hx hb dX5_passTicks_74 rfl (lv_at hl 0 rfl) ?_
        refine gX5_57 hC hw (by omega) hq dX5_passTicks_75 ?_
        refine lv_icmp_ge (tgt := 104) hx hb dX5_passTicks_78 (by decide) (fun h22 => ?_) (fun h22 => ?_)
        · have hF := it_t h22 hF
          exact hR19 _ _ _ _ _ (it_exit hF hX19).symm hw hS (lv_sub hl [0, 1, 2, 3] rfl)
        · have hF := it_f h22 hF
          refine lv_aload_n hx hb dX5_passTicks_81 rfl (lv_at hl 0 rfl) ?_
          refine gX5_34 hC hw (by omega) hq dX5_passTicks_82 ?_
          refine lv_aload_n hx hb dX5_passTicks_85 rfl (lv_at hl 0 rfl) ?_
          refine gX5_11 hC hw (by omega) hq dX5_passTicks_86 ?_
          refine lv_iload hx hb dX5_passTicks_89 (lv_at hl 4 rfl) ?_
          obtain ⟨g23, hF⟩ := gi_t hF
          refine ld_barr hC hw (by omega) hq g23 dX5_passTicks_91 ?_
          obtain ⟨r24, C25, hc26, hF⟩ := b2_t hF
          refine call_Vi hC (c_X0_work l G n (by omega) hn2 q hq (v17).toNatClampNeg (vp_lt g23) _ _ _ hc26) wvX5_166 ⟨rfl, rfl, by decide, by decide⟩ hw hS (by have := po_lt hq; have := (vp_lt g23); omega) (ca_boiler hq (vp_lt g23)) rfl hl.1 rfl (rest := [.ref (bb G + (po q + 5))]) rfl (Nat.le_of_ble_eq_true rfl) dX5_passTicks_92 ⟨by decide, by decide⟩ (fun H locs hw hS _ => ?_)
          obtain ⟨r27, C28, hc29, hF⟩ := b2_t hF
          refine call_Vv hC (c_X7_warm l G n (by omega) hn2 q hq r24 _ _ _ hc29) wvX5_170 ⟨rfl, rfl, by decide, by decide⟩ hw hS (by have := po_lt hq; omega) (ca_tank hq) rfl hl.1 rfl (rest := []) rfl (Nat.le_of_ble_eq_true rfl) dX5_passTicks_95 ⟨by decide, by decide⟩ (fun H locs hw hS _ => ?_)
          obtain ⟨v30, ev30, hF⟩ := nm_t hF
          refine lv_iinc (v := v30) (lv' := [(4, .int v30), (0, .ref (bb G + po q)), (1, .int x0), (2, .int x1), (3, .int v1)]) hx hb dX5_passTicks_98 hl (k := 4) rfl (by rw [ev30]; rfl) (by decide) rfl (fun ls hl => ?_)
          refine lv_goto (tgt := 72) hx hb dX5_passTicks_101 (by decide) ?_
          exact it_back hF hk19 _ _ _ hw hS (lv_sub hl [1, 2, 3, 4, 0] rfl)
      refine lv_if_eq (tgt := 60) hx hb dX5_passTicks_48 (by decide) (fun h12 => ?_) (fun h12 => ?_)
      · have hF := it_t h12 hF
        refine lv_aload_n hx hb dX5_passTicks_60 rfl (lv_at hl 0 rfl) ?_
        refine gX5_27 hC hw (by omega) hq dX5_passTicks_61 ?_
        refine lv_iconst (v := 0) hx hb dX5_passTicks_64 (by decide) ?_
        refine ld_sett hC hw (by omega) hq (show vp_in (0 : Int32) 6 by unfold vp_in; decide) dX5_passTicks_65 ?_
        exact hJ66 (C11 q ((0 : Int32)).toNatClampNeg) _ _ _ hF hw hS (lv_sub hl [0, 1, 2, 3] rfl)
      · have hF := it_f h12 hF
        refine lv_aload_n hx hb dX5_passTicks_51 rfl (lv_at hl 0 rfl) ?_
        refine gX5_27 hC hw (by omega) hq dX5_passTicks_52 ?_
        refine lv_iconst (v := 3) hx hb dX5_passTicks_55 (by decide) ?_
        refine ld_sett hC hw (by omega) hq (show vp_in (3 : Int32) 6 by unfold vp_in; decide) dX5_passTicks_56 ?_
        refine lv_goto (tgt := 66) hx hb dX5_passTicks_57 (by decide) ?_
        exact hJ66 (C11 q ((3 : Int32)).toNatClampNeg) _ _ _ hF hw hS (lv_sub hl [0, 1, 2, 3] rfl)
    refine lv_icmp_ne (tgt := 40) hx hb dX5_passTicks_29 (by decide) (fun h10 => ?_) (fun h10 => ?_)
    · have hF := it_f h10 hF
      exact hJ40 C8 _ _ _ hF hw hS (lv_sub hl [0, 1, 2, 3] rfl)
    · have hF := it_t h10 hF
      refine lv_aload_n hx hb dX5_passTicks_32 rfl (lv_at hl 0 rfl) ?_
      refine gX5_41 hC hw (by omega) hq dX5_passTicks_33 ?_
      refine lv_iconst (v := 1) hx hb dX5_passTicks_36 (by decide) ?_
      refine pX5_160 hC hw hS (by omega) hn2 hq (by decide) dX5_passTicks_37 (fun H locs hw hS _ => ?_)
      obtain ⟨C47, eC47, hF⟩ := nm_t hF
      have hw := Wd.cast eC47 hw
      exact hJ40 C47 _ _ _ hF hw hS (lv_sub hl [0, 1, 2, 3] rfl)
