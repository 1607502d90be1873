/-! contracts, by program out of the bytecode -/
set_option maxHeartbeats 4000000 in
set_option maxRecDepth 100000 in
theorem c_X5_powerAt (l : Launch) (G : GG) (n : Nat) (hn : 244 ≤ n) (hn2 : 0 ≤ n) (q : Nat) (hq : q < 18) (x0 : Int32) (x1 : Int32) (C : Mem) (rR : Int32) (CR : Mem) (hF : F_X5_powerAt q x0 x1 C = some (rR, CR)) : Ct l yX5_powerAt cX5_powerAt 5 (some .int) (rmN 0 0) G n C [.ref (bb G + po q), .int x0, .int x1] (some (.int rR)) CR := by
  refine Ct.of (by decide) (Nat.le_of_ble_eq_true rfl) ?_
  intro p e s m below meth c ls hC hr hlk hw hl
  have hx := hC.1
  have hb := hC.2.1
  have hS : LW G s s.heap [] := va_S.rf
  have hl : lv_has ls 5 [(0, .ref (bb G + po q)), (1, .int x0), (2, .int x1)] := hl
  unfold F_X5_powerAt at hF
  refine lv_iconst (v := 0) hx hb dX5_powerAt_0 (by decide) ?_
  refine lv_istore_n (lv' := [(3, .int (0 : Int32)), (0, .ref (bb G + po q)), (1, .int x0), (2, .int x1)]) hx hb dX5_powerAt_1 rfl hl (by decide) rfl (fun ls hl => ?_)
  refine lv_iconst (v := 0) hx hb dX5_powerAt_2 (by decide) ?_
  refine lv_istore (lv' := [(4, .int (0 : Int32)), (3, .int (0 : Int32)), (0, .ref (bb G + po q)), (1, .int x0), (2, .int x1)]) hx hb dX5_powerAt_3 hl (by decide) rfl (fun ls hl => ?_)
  obtain ⟨o4, hit4, hG4⟩ := b1_t hF
  have hR4 : ∀ (v5 : Int32) (v6 : Int32) (C7 : Mem) (H : Heap) (locs : List Loc) (ls : Array Slot), o4 = (v5, v6, C7) → Wd G n C7 H → LW G s H locs → lv_has ls 5 [(3, .int v5)] → W p l e (rmN 0 0) s m ([.ref (bb G + po q), .int x0, .int x1] : List Value).toArray below meth c H locs 0 0 (MQ below (QR G n (some (.int rR)) CR) ([.ref (bb G + po q), .int x0, .int x1] : List Value).toArray s 0 0 (frA G)) (F0 m 57 ls []) := by
    intro v5 v6 C7 H locs ls hE hw hS hl
    subst hE
    have hF := u3_t (hG4)
    refine lv_iload_n hx hb dX5_powerAt_57 rfl (lv_at hl 0 rfl) ?_
    exact m_iret hC hr hlk hw hS dX5_powerAt_58 hF
  refine iter_sound (P := fun x : Int32 × Int32 × Mem => ∀ (H : Heap) (locs : List Loc) (ls : Array Slot), Wd G n x.2.2 H → LW G s H locs → lv_has ls 5 [(0, .ref (bb G + po q)), (1, .int x0), (2, .int x1), (3, .int x.1), (4, .int x.2.1)] → W p l e (rmN 0 0) s m ([.ref (bb G + po q), .int x0, .int x1] : List Value).toArray below meth c H locs 0 0 (MQ below (QR G n (some (.int rR)) CR) ([.ref (bb G + po q), .int x0, .int x1] : List Value).toArray s 0 0 (frA G)) (F0 m 5 ls [])) (X := fun r => r = o4) ?_ fuel ((0 : Int32), (0 : Int32), C) o4 hit4 rfl _ _ _ hw hS (lv_sub hl [2, 3, 4, 1, 0] rfl)
  intro x oo4 hF hk4 hX4 H locs ls hw hS hl
  obtain ⟨v1, v2, C3⟩ := x
  have hF : S_X5_powerAt_5 q x0 x1 v1 v2 C3 = some oo4 := hF
  have hw : Wd G n C3 H := hw
  have hl : lv_has ls 5 [(0, .ref (bb G + po q)), (1, .int x0), (2, .int x1), (3, .int v1), (4, .int v2)] := hl
  unfold S_X5_powerAt_5 at hF
  refine lv_iload hx hb dX5_powerAt_5 (lv_at hl 4 rfl) ?_
  refine lv_aload_n hx hb dX5_powerAt_7 rfl (lv_at hl 0 rfl) ?_
  refine gX5_57 hC hw (by omega) hq dX5_powerAt_8 ?_
  refine lv_icmp_ge (tgt := 57) hx hb dX5_powerAt_11 (by decide) (fun h8 => ?_) (fun h8 => ?_)
  · have hF := it_t h8 hF
    exact hR4 _ _ _ _ _ _ (it_exit hF hX4).symm hw hS (lv_sub hl [3] rfl)
  · have hF := it_f h8 hF
    refine lv_iload_n hx hb dX5_powerAt_14 rfl (lv_at hl 2 rfl) ?_
    refine lv_iload hx hb dX5_powerAt_15 (lv_at hl 4 rfl) ?_
    refine lv_ishr hx hb dX5_powerAt_17 ?_
    refine lv_iconst (v := 1) hx hb dX5_powerAt_18 (by decide) ?_
    refine lv_iand hx hb dX5_powerAt_19 ?_
    refine lv_iconst (v := 1) hx hb dX5_powerAt_20 (by decide) ?_
    refine lv_icmp_ne (tgt := 51) hx hb dX5_powerAt_21 (by decide) (fun h9 => ?_) (fun h9 => ?_)
    · have hF := it_f h9 hF
      obtain ⟨v10, ev10, hF⟩ := nm_t hF
      refine lv_iinc (v := v10) (lv' := [(4, .int v10), (0, .ref (bb G + po q)), (1, .int x0), (2, .int x1), (3, .int v1)]) hx hb dX5_powerAt_51 hl (k := 4) rfl (by rw [ev10]; rfl) (by decide) rfl (fun ls hl => ?_)
      refine lv_goto (tgt := 5) hx hb dX5_powerAt_54 (by decide) ?_
      exact it_back hF hk4 _ _ _ hw hS (lv_sub hl [1, 2, 3, 4, 0] rfl)
    · have hF := it_t h9 hF
      refine lv_aload_n hx hb dX5_powerAt_24 rfl (lv_at hl 0 rfl) ?_
      refine gX5_11 hC hw (by omega) hq dX5_powerAt_25 ?_
      refine lv_iload hx hb dX5_powerAt_28 (lv_at hl 4 rfl) ?_
      obtain ⟨g11, hF⟩ := gi_t hF
      refine ld_barr hC hw (by omega) hq g11 dX5_powerAt_30 ?_
      refine gX5_113 hC hw (by omega) hq (vp_lt g11) dX5_powerAt_31 ?_
      refine lv_iload_n hx hb dX5_powerAt_34 rfl (lv_at hl 1 rfl) ?_
      refine lv_icmp_ne (tgt := 51) hx hb dX5_powerAt_35 (by decide) (fun h12 => ?_) (fun h12 => ?_)
      · have hF := it_f h12 hF
        obtain ⟨v13, ev13, hF⟩ := nm_t hF
        refine lv_iinc (v := v13) (lv' := [(4, .int v13), (0, .ref (bb G + po q)), (1, .int x0), (2, .int x1), (3, .int v1)]) hx hb dX5_powerAt_51 hl (k := 4) rfl (by rw [ev13]; rfl) (by decide) rfl (fun ls hl => ?_)
        refine lv_goto (tgt := 5) hx hb dX5_powerAt_54 (by decide) ?_
        exact it_back hF hk4 _ _ _ hw hS (lv_sub hl [1, 2, 3, 4, 0] rfl)
      · have hF := it_t h12 hF
        refine lv_iload_n hx hb dX5_powerAt_38 rfl (lv_at hl 3 rfl) ?_
        refine lv_aload_n hx hb dX5_powerAt_39 rfl (lv_at hl 0 rfl) ?_
        refine gX5_11 hC hw (by omega) hq dX5_powerAt_40 ?_
        refine lv_iload hx hb dX5_powerAt_43 (lv_at hl 4 rfl) ?_
        obtain ⟨g14, hF⟩ := gi_t hF
        refine ld_barr hC hw (by omega) hq g14 dX5_powerAt_45 ?_
        refine gX5_119 hC hw (by omega) hq (vp_lt g14) dX5_powerAt_46 ?_
        refine lv_iadd hx hb dX5_powerAt_49 ?_
        obtain ⟨v15, ev15, hF⟩ := nm_t hF
        refine lv_nmi ev15 ?_
        refine lv_istore_n (lv' := [(3, .int v15), (0, .ref (bb G + po q)), (1, .int x0), (2, .int x1), (4, .int v2)]) hx hb dX5_powerAt_50 rfl hl (by decide) rfl (fun ls hl => ?_)
        obtain ⟨v16, ev16, hF⟩ := nm_t hF
        refine lv_iinc (v := v16) (lv' := [(4, .int v16), (3, .int v15), (0, .ref (bb G + po q)), (1, .int x0), (2, .int x1)]) hx hb dX5_powerAt_51 hl (k := 4) rfl (by rw [ev16]; rfl) (by decide) rfl (fun ls hl => ?_)
        refine lv_goto (tgt := 5) hx hb dX5_powerAt_54 (by decide) ?_
        exact it_back hF hk4 _ _ _ hw hS (lv_sub hl [2, 3, 4, 1, 0] rfl)
set_option maxHeartbeats 4000000 in
set_option maxRecDepth 100000 in
theorem c_X5_powerOf (l : Launch) (G : GG) (n : Nat) (hn : 244 ≤ n) (hn2 : 0 ≤ n) (q : Nat) (hq : q < 18) (x0 : Int32) (C : Mem) (rR : Int32) (CR : Mem) (hF : F_X5_powerOf q x0 C = some (rR, CR)) : Ct l yX5_powerOf cX5_powerOf 2 (some .int) (rmN 1 24) G n C [.ref (bb G + po q), .int x0] (some (.int rR)) CR := by
  refine Ct.of (by decide) (Nat.le_of_ble_eq_true rfl) ?_
  intro p e s m below meth c ls hC hr hlk hw hl
  have hx := hC.1
  have hb := hC.2.1
  have hS : LW G s s.heap [] := va_S.rf
  have hl : lv_has ls 2 [(0, .ref (bb G + po q)), (1, .int x0)] := hl
  unfold F_X5_powerOf at hF
  refine lv_aload_n hx hb dX5_powerOf_0 rfl (lv_at hl 0 rfl) ?_
  refine lv_iconst (v := 0) hx hb dX5_powerOf_1 (by decide) ?_
  refine lv_iload_n hx hb dX5_powerOf_2 rfl (lv_at hl 1 rfl) ?_
  obtain ⟨r1, C2, hc3, hF⟩ := b2_t hF
  refine call_Vi hC (c_X5_powerAt l G n (by omega) hn2 q hq (0 : Int32) x0 _ _ _ hc3) wvX5_205 ⟨rfl, rfl, by decide, by decide⟩ hw hS (by have := po_lt hq; omega) (ca_plant hq) rfl hl.1 rfl (rest := []) rfl (Nat.le_of_ble_eq_true rfl) dX5_powerOf_3 ⟨by decide, by decide⟩ (fun H locs hw hS _ => ?_)
  refine lv_aload_n hx hb dX5_powerOf_6 rfl (lv_at hl 0 rfl) ?_
  refine lv_iconst (v := 1) hx hb dX5_powerOf_7 (by decide) ?_
  refine lv_iload_n hx hb dX5_powerOf_8 rfl (lv_at hl 1 rfl) ?_
  obtain ⟨r4, C5, hc6, hF⟩ := b2_t hF
  refine call_Vi hC (c_X5_powerAt l G n (by omega) hn2 q hq (1 : Int32) x0 _ _ _ hc6) wvX5_205 ⟨rfl, rfl, by decide, by decide⟩ hw hS (by have := po_lt hq; omega) (ca_plant hq) rfl hl.1 rfl (rest := [.int r1]) rfl (Nat.le_of_ble_eq_true rfl) dX5_powerOf_9 ⟨by decide, by decide⟩ (fun H locs hw hS _ => ?_)
  refine lv_iadd hx hb dX5_powerOf_12 ?_
  exact m_iret hC hr hlk hw hS dX5_powerOf_13 hF
set_option maxHeartbeats 4000000 in
set_option maxRecDepth 100000 in
theorem c_X5_fitsDrafts (l : Launch) (G : GG) (n : Nat) (hn : 244 ≤ n) (hn2 : 0 ≤ n) (q : Nat) (hq : q < 18) (x0 : Int32) (C : Mem) (rR : Int32) (CR : Mem) (hF : F_X5_fitsDrafts q x0 C = some (rR, CR)) : Ct l yX5_fitsDrafts cX5_fitsDrafts 2 (some .boolean) (rmN 1 24) G n C [.ref (bb G + po q), .int x0] (some (.int rR)) CR := by
  refine Ct.of (by decide) (Nat.le_of_ble_eq_true rfl) ?_
  intro p e s m below meth c ls hC hr hlk hw hl
  have hx := hC.1
  have hb := hC.2.1
  have hS : LW G s s.heap [] := va_S.rf
  have hl : lv_has ls 2 [(0, .ref (bb G + po q)), (1, .int x0)] := hl
  unfold F_X5_fitsDrafts at hF
  refine lv_aload_n hx hb dX5_fitsDrafts_0 rfl (lv_at hl 0 rfl) ?_
  refine lv_iconst (v := 0) hx hb dX5_fitsDrafts_1 (by decide) ?_
  refine lv_iload_n hx hb dX5_fitsDrafts_2 rfl (lv_at hl 1 rfl) ?_
  obtain ⟨r1, C2, hc3, hF⟩ := b2_t hF
  refine call_Vi hC (c_X5_powerAt l G n (by omega) hn2 q hq (0 : Int32) x0 _ _ _ hc3) wvX5_205 ⟨rfl, rfl, by decide, by decide⟩ hw hS (by have := po_lt hq; omega) (ca_plant hq) rfl hl.1 rfl (rest := []) rfl (Nat.le_of_ble_eq_true rfl) dX5_fitsDrafts_3 ⟨by decide, by decide⟩ (fun H locs hw hS _ => ?_)
  refine lv_aload_n hx hb dX5_fitsDrafts_6 rfl (lv_at hl 0 rfl) ?_
  refine gX5_20 hC hw (by omega) hq dX5_fitsDrafts_7 ?_
  refine gX5_140 hC hw (by omega) hq (show 0 < 2 by decide) dX5_fitsDrafts_10 ?_
  refine lv_icmp_gt (tgt := 36) hx hb dX5_fitsDrafts_13 (by decide) (fun h4 => ?_) (fun h4 => ?_)
  · have hF := it_t h4 hF
    refine lv_iconst (v := 0) hx hb dX5_fitsDrafts_36 (by decide) ?_
    exact m_zret hC hr hlk hw hS dX5_fitsDrafts_37 (by decide) hF
  · have hF := it_f h4 hF
    refine lv_aload_n hx hb dX5_fitsDrafts_16 rfl (lv_at hl 0 rfl) ?_
    refine lv_iconst (v := 1) hx hb dX5_fitsDrafts_17 (by decide) ?_
    refine lv_iload_n hx hb dX5_fitsDrafts_18 rfl (lv_at hl 1 rfl) ?_
    obtain ⟨r5, C6, hc7, hF⟩ := b2_t hF
    refine call_Vi hC (c_X5_powerAt l G n (by omega) hn2 q hq (1 : Int32) x0 _ _ _ hc7) wvX5_205 ⟨rfl, rfl, by decide, by decide⟩ hw hS (by have := po_lt hq; omega) (ca_plant hq) rfl hl.1 rfl (rest := []) rfl (Nat.le_of_ble_eq_true rfl) dX5_fitsDrafts_19 ⟨by decide, by decide⟩ (fun H locs hw hS _ => ?_)
    refine lv_aload_n hx hb dX5_fitsDrafts_22 rfl (lv_at hl 0 rfl) ?_
    refine gX5_24 hC hw (by omega) hq dX5_fitsDrafts_23 ?_
    refine gX5_140 hC hw (by omega) hq (show 1 < 2 by decide) dX5_fitsDrafts_26 ?_
    refine lv_icmp_gt (tgt := 36) hx hb dX5_fitsDrafts_29 (by decide) (fun h8 => ?_) (fun h8 => ?_)
    · have hF := it_t h8 hF
      refine lv_iconst (v := 0) hx hb dX5_fitsDrafts_36 (by decide) ?_
      exact m_zret hC hr hlk hw hS dX5_fitsDrafts_37 (by decide) hF
    · have hF := it_f h8 hF
      refine lv_iconst (v := 1) hx hb dX5_fitsDrafts_32 (by decide) ?_
      refine lv_goto (tgt := 37) hx hb dX5_fitsDrafts_33 (by decide) ?_
      exact m_zret hC hr hlk hw hS dX5_fitsDrafts_37 (by decide) hF
set_option maxHeartbeats 4000000 in
set_option maxRecDepth 100000 in
theorem c_X5_isSmallerSet (l : Launch) (G : GG) (n : Nat) (hn : 244 ≤ n) (hn2 : 0 ≤ n) (q : Nat) (hq : q < 18) (x0 : Int32) (x1 : Int32) (C : Mem) (rR : Int32) (CR : Mem) (hF : F_X5_isSmallerSet q x0 x1 C = some (rR, CR)) : Ct l yX5_isSmallerSet cX5_isSmallerSet 5 (some .boolean) (rmN 2 45) G n C [.ref (bb G + po q), .int x0, .int x1] (some (.int rR)) CR := by
  refine Ct.of (by decide) (Nat.le_of_ble_eq_true rfl) ?_
  intro p e s m below meth c ls hC hr hlk hw hl
  have hx := hC.1
  have hb := hC.2.1
  have hS : LW G s s.heap [] := va_S.rf
  have hl : lv_has ls 5 [(0, .ref (bb G + po q)), (1, .int x0), (2, .int x1)] := hl
  unfold F_X5_isSmallerSet at hF
  refine lv_iload_n hx hb dX5_isSmallerSet_0 rfl (lv_at hl 1 rfl) ?_
  obtain ⟨r1, C2, hc3, hF⟩ := b2_t hF
  refine call_Si hC (c_J6_bitCount_0f7a4 l G n (by omega) hn2 x0 _ _ _ hc3) wsX5_208 ⟨rfl, rfl, by decide, by decide⟩ hw hS hl.1 rfl (rest := []) rfl (Nat.le_of_ble_eq_true rfl) dX5_isSmallerSet_1 ⟨by decide, by decide⟩ (fun H locs hw hS _ => ?_)
  refine lv_istore_n (lv' := [(3, .int r1), (0, .ref (bb G + po q)), (1, .int x0), (2, .int x1)]) hx hb dX5_isSmallerSet_4 rfl hl (by decide) rfl (fun ls hl => ?_)
  refine lv_iload_n hx hb dX5_isSmallerSet_5 rfl (lv_at hl 3 rfl) ?_
  obtain ⟨r4, C5, hc6, hF⟩ := b2_t hF
  refine call_Si hC (c_J6_bitCount_0f7a4 l G n (by omega) hn2 x1 _ _ _ hc6) wsX5_208 ⟨rfl, rfl, by decide, by decide⟩ hw hS hl.1 rfl (rest := []) rfl (Nat.le_of_ble_eq_true rfl) dX5_isSmallerSet_6 ⟨by decide, by decide⟩ (fun H locs hw hS _ => ?_)
  refine lv_istore (lv' := [(4, .int r4), (3, .int r1), (0, .ref (bb G + po q)), (1, .int x0), (2, .int x1)]) hx hb dX5_isSmallerSet_9 hl (by decide) rfl (fun ls hl => ?_)
  refine lv_iload_n hx hb dX5_isSmallerSet_11 rfl (lv_at hl 1 rfl) ?_
  refine lv_iload hx hb dX5_isSmallerSet_12 (lv_at hl 0 rfl) ?_
  refine lv_icmp_lt (tgt := 36) hx hb dX5_isSmallerSet_14 (by decide) (fun h7 => ?_) (fun h7 => ?_)
  · have hF := it_t h7 hF
    refine lv_iconst (v := 1) hx hb dX5_isSmallerSet_36 (by decide) ?_
    refine lv_goto (tgt := 41) hx hb dX5_isSmallerSet_37 (by decide) ?_
    exact m_zret hC hr hlk hw hS dX5_isSmallerSet_41 (by decide) hF
  · have hF := it_f h7 hF
    refine lv_iload_n hx hb dX5_isSmallerSet_17 rfl (lv_at hl 1 rfl) ?_
    refine lv_iload hx hb dX5_isSmallerSet_18 (lv_at hl 0 rfl) ?_
    refine lv_icmp_ne (tgt := 40) hx hb dX5_isSmallerSet_20 (by decide) (fun h8 => ?_) (fun h8 => ?_)
    · have hF := it_f h8 hF
      refine lv_iconst (v := 0) hx hb dX5_isSmallerSet_40 (by decide) ?_
      exact m_zret hC hr hlk hw hS dX5_isSmallerSet_41 (by decide) hF
    · have hF := it_t h8 hF
      refine lv_aload_n hx hb dX5_isSmallerSet_23 rfl (lv_at hl 2 rfl) ?_
      refine lv_iload_n hx hb dX5_isSmallerSet_24 rfl (lv_at hl 3 rfl) ?_
      obtain ⟨r9, C10, hc11, hF⟩ := b2_t hF
      refine call_Vi hC (c_X5_powerOf l G n (by omega) hn2 q hq x0 _ _ _ hc11) wvX5_213 ⟨rfl, rfl, by decide, by decide⟩ hw hS (by have := po_lt hq; omega) (ca_plant hq) rfl hl.1 rfl (rest := []) rfl (Nat.le_of_ble_eq_true rfl) dX5_isSmallerSet_25 ⟨by decide, by decide⟩ (fun H locs hw hS _ => ?_)
      refine lv_aload_n hx hb dX5_isSmallerSet_28 rfl (lv_at hl 2 rfl) ?_
      refine lv_iload_n hx hb dX5_isSmallerSet_29 rfl (lv_at hl 4 rfl) ?_
      obtain ⟨r12, C13, hc14, hF⟩ := b2_t hF
      refine call_Vi hC (c_X5_powerOf l G n (by omega) hn2 q hq x1 _ _ _ hc14) wvX5_213 ⟨rfl, rfl, by decide, by decide⟩ hw hS (by have := po_lt hq; omega) (ca_plant hq) rfl hl.1 rfl (rest := [.int r9]) rfl (Nat.le_of_ble_eq_true rfl) dX5_isSmallerSet_30 ⟨by decide, by decide⟩ (fun H locs hw hS _ => ?_)
      refine lv_icmp_ge (tgt := 40) hx hb dX5_isSmallerSet_33 (by decide) (fun h15 => ?_) (fun h15 => ?_)
      · have hF := it_t h15 hF
        refine lv_iconst (v := 0) hx hb dX5_isSmallerSet_40 (by decide) ?_
        exact m_zret hC hr hlk hw hS dX5_isSmallerSet_41 (by decide) hF
      · have hF := it_f h15 hF
        refine lv_iconst (v := 1) hx hb dX5_isSmallerSet_36 (by decide) ?_
        refine lv_goto (tgt := 41) hx hb dX5_isSmallerSet_37 (by decide) ?_
        exact m_zret hC hr hlk hw hS dX5_isSmallerSet_41 (by decide) hF
set_option maxHeartbeats 4000000 in
set_option maxRecDepth 100000 in
theorem c_X2_forgetAll (l : Launch) (G : GG) (n : Nat) (hn : 244 ≤ n) (hn2 : 0 ≤ n)  (C : Mem) (rR : Int32) (CR : Mem) (hF : F_X2_forgetAll  C = some (rR, CR)) : Ct l yX2_forgetAll cX2_forgetAll 1 none (rmN 0 0) G n C [.ref (bb G + 32)] none CR := by
  refine Ct.of (by decide) (Nat.le_of_ble_eq_true rfl) ?_
  intro p e s m below meth c ls hC hr hlk hw hl
  have hx := hC.1
  have hb := hC.2.1
  have hS : LW G s s.heap [] := va_S.rf
  have hl : lv_has ls 1 [(0, .ref (bb G + 32))] := hl
  unfold F_X2_forgetAll at hF
  refine lv_aload_n hx hb dX2_forgetAll_0 rfl (lv_at hl 0 rfl) ?_
  refine lv_iconst (v := 0) hx hb dX2_forgetAll_1 (by decide) ?_
  refine pX2_18 hC hw hS (by omega) hn2  dX2_forgetAll_2 (fun H locs hw hS _ => ?_)
  obtain ⟨C1, eC1, hF⟩ := nm_t hF
  have hw := Wd.cast eC1 hw
  exact m_vret hC hr hlk hw hS dX2_forgetAll_5 hF
set_option maxHeartbeats 4000000 in
set_option maxRecDepth 100000 in
theorem c_X2_remember (l : Launch) (G : GG) (n : Nat) (hn : 244 ≤ n) (hn2 : 0 ≤ n) (q0 : Nat) (hq0 : q0 < 18) (C : Mem) (rR : Int32) (CR : Mem) (hF : F_X2_remember q0 C = some (rR, CR)) : Ct l yX2_remember cX2_remember 2 none (rmN 2 44) G n C [.ref (bb G + 32), .ref (bb G + po q0)] none CR := by
  refine Ct.of (by decide) (Nat.le_of_ble_eq_true rfl) ?_
  intro p e s m below meth c ls hC hr hlk hw hl
  have hx := hC.1
  have hb := hC.2.1
  have hS : LW G s s.heap [] := va_S.rf
  have hl : lv_has ls 2 [(0, .ref (bb G + 32)), (1, .ref (bb G + po q0))] := hl
  unfold F_X2_remember at hF
  refine lv_aload_n hx hb dX2_remember_0 rfl (lv_at hl 0 rfl) ?_
  refine gX2_22 hC hw (by omega)  dX2_remember_1 ?_
  refine lv_aload_n hx hb dX2_remember_4 rfl (lv_at hl 0 rfl) ?_
  refine gX2_11 hC hw (by omega)  dX2_remember_5 ?_
  refine m_alen hC hw (t0 := 3) (by omega) ca_states rfl (v := 14) rfl dX2_remember_8 ?_
  have hJ17 : ∀ (C2 : Mem) (H : Heap) (locs : List Loc) (ls : Array Slot), J_X2_remember_17 q0 C2 = some (rR, CR) → Wd G n C2 H → LW G s H locs → lv_has ls 2 [(0, .ref (bb G + 32)), (1, .ref (bb G + po q0))] → W p l e (rmN 2 44) s m ([.ref (bb G + 32), .ref (bb G + po q0)] : List Value).toArray below meth c H locs 0 0 (MQ below (QR G n none CR) ([.ref (bb G + 32), .ref (bb G + po q0)] : List Value).toArray s 0 0 (frA G)) (F0 m 17 ls []) := by
    intro C2 H locs ls hF hw hS hl
    unfold J_X2_remember_17 at hF
    refine lv_aload_n hx hb dX2_remember_17 rfl (lv_at hl 0 rfl) ?_
    refine gX2_11 hC hw (by omega)  dX2_remember_18 ?_
    refine lv_aload_n hx hb dX2_remember_21 rfl (lv_at hl 0 rfl) ?_
    refine gX2_22 hC hw (by omega)  dX2_remember_22 ?_
    obtain ⟨g3, hF⟩ := gi_t hF
    refine ld_states hC hw (by omega) g3 dX2_remember_25 ?_
    refine lv_aload_n hx hb dX2_remember_26 rfl (lv_at hl 1 rfl) ?_
    obtain ⟨r4, C5, hc6, hF⟩ := b2_t hF
    refine call_Vv hC (c_X5_copyFrom l G n (by omega) hn2 (2 + ((C2 23 1)).toNatClampNeg) (show 2 + ((C2 23 1)).toNatClampNeg < 18 by have := vp_lt g3; omega) q0 hq0 _ _ _ hc6) wvX2_25 ⟨rfl, rfl, by decide, by decide⟩ hw hS (by have := po_lt (show 2 + ((C2 23 1)).toNatClampNeg < 18 by have := vp_lt g3; omega); omega) (ca_plant (show 2 + ((C2 23 1)).toNatClampNeg < 18 by have := vp_lt g3; omega)) rfl hl.1 rfl (rest := []) rfl (Nat.le_of_ble_eq_true rfl) dX2_remember_27 ⟨by decide, by decide⟩ (fun H locs hw hS _ => ?_)
    refine lv_aload_n hx hb dX2_remember_30 rfl (lv_at hl 0 rfl) ?_
    refine lv_dup hx hb dX2_remember_31 rfl ?_
    refine gX2_22 hC hw (by omega)  dX2_remember_32 ?_
    refine lv_iconst (v := 1) hx hb dX2_remember_35 (by decide) ?_
    refine lv_iadd hx hb dX2_remember_36 ?_
    refine pX2_22 hC hw hS (by omega) hn2  dX2_remember_37 (fun H locs hw hS _ => ?_)
    obtain ⟨C7, eC7, hF⟩ := nm_t hF
    have hw := Wd.cast eC7 hw
    refine lv_aload_n hx hb dX2_remember_40 rfl (lv_at hl 0 rfl) ?_
    refine lv_aload_n hx hb dX2_remember_41 rfl (lv_at hl 0 rfl) ?_
    refine gX2_18 hC hw (by omega)  dX2_remember_42 ?_
    refine lv_iconst (v := 1) hx hb dX2_remember_45 (by decide) ?_
    refine lv_iadd hx hb dX2_remember_46 ?_
    refine lv_aload_n hx hb dX2_remember_47 rfl (lv_at hl 0 rfl) ?_
    refine gX2_11 hC hw (by omega)  dX2_remember_48 ?_
    refine m_alen hC hw (t0 := 3) (by omega) ca_states rfl (v := 14) rfl dX2_remember_51 ?_
    refine va_mmin hx hb (hC.2.2.1.trans hl.1.symm) hC.2.2.2.1 (hC.2.2.2.2.1 _ kM_min_X2_29) (hC.2.2.2.2.1 _ kM_min.1) (hC.2.2.2.2.1 _ kM_min.2.1) (hC.2.2.2.2.1 _ kM_min.2.2) (by decide) (Nat.le_of_ble_eq_true rfl) (by decide) (by decide) dX2_remember_52 ?_
    refine pX2_18 hC hw hS (by omega) hn2  dX2_remember_55 (fun H locs hw hS _ => ?_)
    obtain ⟨C8, eC8, hF⟩ := nm_t hF
    have hw := Wd.cast eC8 hw
    exact m_vret hC hr hlk hw hS dX2_remember_58 hF
  refine lv_icmp_lt (tgt := 17) hx hb dX2_remember_9 (by decide) (fun h1 => ?_) (fun h1 => ?_)
  · have hF := it_t h1 hF
    exact hJ17 C _ _ _ hF hw hS (lv_sub hl [0, 1] rfl)
  · have hF := it_f h1 hF
    refine lv_aload_n hx hb dX2_remember_12 rfl (lv_at hl 0 rfl) ?_
    refine lv_iconst (v := 0) hx hb dX2_remember_13 (by decide) ?_
    refine pX2_22 hC hw hS (by omega) hn2  dX2_remember_14 (fun H locs hw hS _ => ?_)
    obtain ⟨C9, eC9, hF⟩ := nm_t hF
    have hw := Wd.cast eC9 hw
    exact hJ17 C9 _ _ _ hF hw hS (lv_sub hl [0, 1] rfl)
set_option maxHeartbeats 4000000 in
set_option maxRecDepth 100000 in
theorem c_X2_takeBackInto (l : Launch) (G : GG) (n : Nat) (hn : 244 ≤ n) (hn2 : 0 ≤ n) (q0 : Nat) (hq0 : q0 < 18) (C : Mem) (rR : Int32) (CR : Mem) (hF : F_X2_takeBackInto q0 C = some (rR, CR)) : Ct l yX2_takeBackInto cX2_takeBackInto 2 (some .boolean) (rmN 2 44) G n C [.ref (bb G + 32), .ref (bb G + po q0)] (some (.int rR)) CR := by
  refine Ct.of (by decide) (Nat.le_of_ble_eq_true rfl) ?_
  intro p e s m below meth c ls hC hr hlk hw hl
  have hx := hC.1
  have hb := hC.2.1
  have hS : LW G s s.heap [] := va_S.rf
  have hl : lv_has ls 2 [(0, .ref (bb G + 32)), (1, .ref (bb G + po q0))] := hl
  unfold F_X2_takeBackInto at hF
  refine lv_aload_n hx hb dX2_takeBackInto_0 rfl (lv_at hl 0 rfl) ?_
  refine gX2_18 hC hw (by omega)  dX2_takeBackInto_1 ?_
  refine lv_if_gt (tgt := 9) hx hb dX2_takeBackInto_4 (by decide) (fun h1 => ?_) (fun h1 => ?_)
  · have hF := it_t h1 hF
    refine lv_aload_n hx hb dX2_takeBackInto_9 rfl (lv_at hl 0 rfl) ?_
    refine lv_aload_n hx hb dX2_takeBackInto_10 rfl (lv_at hl 0 rfl) ?_
    refine gX2_22 hC hw (by omega)  dX2_takeBackInto_11 ?_
    have hJ33 : ∀ (v3 : Int32) (H : Heap) (locs : List Loc) (ls : Array Slot), J_X2_takeBackInto_33 q0 C v3 = some (rR, CR) → Wd G n C H → LW G s H locs → lv_has ls 2 [(0, .ref (bb G + 32)), (1, .ref (bb G + po q0))] → W p l e (rmN 2 44) s m ([.ref (bb G + 32), .ref (bb G + po q0)] : List Value).toArray below meth c H locs 0 0 (MQ below (QR G n (some (.int rR)) CR) ([.ref (bb G + 32), .ref (bb G + po q0)] : List Value).toArray s 0 0 (frA G)) (F0 m 33 ls [.int v3, .ref (bb G + 32)]) := by
      intro v3 H locs ls hF hw hS hl
      unfold J_X2_takeBackInto_33 at hF
      refine pX2_22 hC hw hS (by omega) hn2  dX2_takeBackInto_33 (fun H locs hw hS _ => ?_)
      obtain ⟨C4, eC4, hF⟩ := nm_t hF
      have hw := Wd.cast eC4 hw
      refine lv_aload_n hx hb dX2_takeBackInto_36 rfl (lv_at hl 1 rfl) ?_
      refine lv_aload_n hx hb dX2_takeBackInto_37 rfl (lv_at hl 0 rfl) ?_
      refine gX2_11 hC hw (by omega)  dX2_takeBackInto_38 ?_
      refine lv_aload_n hx hb dX2_takeBackInto_41 rfl (lv_at hl 0 rfl) ?_
      refine gX2_22 hC hw (by omega)  dX2_takeBackInto_42 ?_
      obtain ⟨g5, hF⟩ := gi_t hF
      refine ld_states hC hw (by omega) g5 dX2_takeBackInto_45 ?_
      obtain ⟨r6, C7, hc8, hF⟩ := b2_t hF
      refine call_Vv hC (c_X5_copyFrom l G n (by omega) hn2 q0 hq0 (2 + ((C4 23 1)).toNatClampNeg) (show 2 + ((C4 23 1)).toNatClampNeg < 18 by have := vp_lt g5; omega) _ _ _ hc8) wvX2_25 ⟨rfl, rfl, by decide, by decide⟩ hw hS (by have := po_lt hq0; omega) (ca_plant hq0) rfl hl.1 rfl (rest := []) rfl (Nat.le_of_ble_eq_true rfl) dX2_takeBackInto_46 ⟨by decide, by decide⟩ (fun H locs hw hS _ => ?_)
      refine lv_aload_n hx hb dX2_takeBackInto_49 rfl (lv_at hl 0 rfl) ?_
      refine lv_dup hx hb dX2_takeBackInto_50 rfl ?_
      refine gX2_18 hC hw (by omega)  dX2_takeBackInto_51 ?_
      refine lv_iconst (v := 1) hx hb dX2_takeBackInto_54 (by decide) ?_
      refine lv_isub hx hb dX2_takeBackInto_55 ?_
      refine pX2_18 hC hw hS (by omega) hn2  dX2_takeBackInto_56 (fun H locs hw hS _ => ?_)
      obtain ⟨C9, eC9, hF⟩ := nm_t hF
      have hw := Wd.cast eC9 hw
      refine lv_iconst (v := 1) hx hb dX2_takeBackInto_59 (by decide) ?_
      exact m_zret hC hr hlk hw hS dX2_takeBackInto_60 (by decide) hF
    refine lv_if_le (tgt := 26) hx hb dX2_takeBackInto_14 (by decide) (fun h2 => ?_) (fun h2 => ?_)
    · have hF := it_t h2 hF
      refine lv_aload_n hx hb dX2_takeBackInto_26 rfl (lv_at hl 0 rfl) ?_
      refine gX2_11 hC hw (by omega)  dX2_takeBackInto_27 ?_
      refine m_alen hC hw (t0 := 3) (by omega) ca_states rfl (v := 14) rfl dX2_takeBackInto_30 ?_
      refine lv_iconst (v := 1) hx hb dX2_takeBackInto_31 (by decide) ?_
      refine lv_isub hx hb dX2_takeBackInto_32 ?_
      exact hJ33 ((14 : Int32) - (1 : Int32)) _ _ _ hF hw hS (lv_sub hl [0, 1] rfl)
    · have hF := it_f h2 hF
      refine lv_aload_n hx hb dX2_takeBackInto_17 rfl (lv_at hl 0 rfl) ?_
      refine gX2_22 hC hw (by omega)  dX2_takeBackInto_18 ?_
      refine lv_iconst (v := 1) hx hb dX2_takeBackInto_21 (by decide) ?_
      refine lv_isub hx hb dX2_takeBackInto_22 ?_
      refine lv_goto (tgt := 33) hx hb dX2_takeBackInto_23 (by decide) ?_
      exact hJ33 ((C 23 1) - (1 : Int32)) _ _ _ hF hw hS (lv_sub hl [0, 1] rfl)
  · have hF := it_f h1 hF
    refine lv_iconst (v := 0) hx hb dX2_takeBackInto_7 (by decide) ?_
    exact m_zret hC hr hlk hw hS dX2_takeBackInto_8 (by decide) hF
set_option maxHeartbeats 4000000 in
set_option maxRecDepth 100000 in
theorem c_X8_requireWithin (l : Launch) (G : GG) (n : Nat) (hn : 244 ≤ n) (hn2 : 0 ≤ n) (hfl : l.stackTraces = false) (x0 : Int32) (x1 : Int32) (x2 : Int32) (C : Mem) (rR : Rs) (CR : Mem) (hF : F_X8_requireWithin x0 x1 x2 C = some (rR, CR)) : CtX l yX8_requireWithin cX8_requireWithin 3 none (rmX 6 86 1 6) 1 6 G n C [.int x0, .int x1, .int x2] (fun _ => none) rR CR := by
  refine CtX.of (by decide) (Nat.le_of_ble_eq_true rfl) ?_
  intro p e s m below meth c ls hC hr hlk ht hw hl
  have hx := hC.1
  have hb := hC.2.1
  have hS : LW G s s.heap [] := va_S.rf
  have hl : lv_has ls 3 [(0, .int x0), (1, .int x1), (2, .int x2)] := hl
  unfold F_X8_requireWithin at hF
  refine lv_iload_n hx hb dX8_requireWithin_0 rfl (lv_at hl 0 rfl) ?_
  refine lv_iload_n hx hb dX8_requireWithin_1 rfl (lv_at hl 1 rfl) ?_
  refine lv_icmp_lt (tgt := 10) hx hb dX8_requireWithin_2 (by decide) (fun h1 => ?_) (fun h1 => ?_)
  · have hF := it_t h1 hF
    exact m_throwSW hC hfl hlk ht hw hS xat_1 (by decide +kernel : (315, "an argument is out of its range") ∈ strs) hl.1 dX8_requireWithin_10 dX8_requireWithin_13 dX8_requireWithin_14 dX8_requireWithin_17 dX8_requireWithin_20 (by decide) (by decide) (by decide) (by decide) (by decide) (by decide) hF
  · have hF := it_f h1 hF
    refine lv_iload_n hx hb dX8_requireWithin_5 rfl (lv_at hl 0 rfl) ?_
    refine lv_iload_n hx hb dX8_requireWithin_6 rfl (lv_at hl 2 rfl) ?_
    refine lv_icmp_le (tgt := 21) hx hb dX8_requireWithin_7 (by decide) (fun h2 => ?_) (fun h2 => ?_)
    · have hF := it_t h2 hF
      exact m_vretX hC hr hlk hw hS (by decide) (by decide) dX8_requireWithin_21 hF
    · have hF := it_f h2 hF
      exact m_throwSW hC hfl hlk ht hw hS xat_1 (by decide +kernel : (315, "an argument is out of its range") ∈ strs) hl.1 dX8_requireWithin_10 dX8_requireWithin_13 dX8_requireWithin_14 dX8_requireWithin_17 dX8_requireWithin_20 (by decide) (by decide) (by decide) (by decide) (by decide) (by decide) hF
set_option maxHeartbeats 4000000 in
set_option maxRecDepth 100000 in
theorem c_X8_append (l : Launch) (G : GG) (n : Nat) (hn : 244 ≤ n) (hn2 : 0 ≤ n) (hfl : l.stackTraces = false) (x0 : Int32) (C : Mem) (rR : Rs) (CR : Mem) (hF : F_X8_append x0 C = some (rR, CR)) : CtX l yX8_append cX8_append 2 (some .int) (rmX 7 108 2 12) 2 12 G n C [.ref (bb G + 0), .int x0] (fun v => some (.int v)) rR CR := by
  refine CtX.of (by decide) (Nat.le_of_ble_eq_true rfl) ?_
  intro p e s m below meth c ls hC hr hlk ht hw hl
  have hx := hC.1
  have hb := hC.2.1
  have hS : LW G s s.heap [] := va_S.rf
  have hl : lv_has ls 2 [(0, .ref (bb G + 0)), (1, .int x0)] := hl
  unfold F_X8_append at hF
  refine lv_iload_n hx hb dX8_append_0 rfl (lv_at hl 1 rfl) ?_
  refine lv_iconst (v := 0) hx hb dX8_append_1 (by decide) ?_
  refine lv_sipush (v := 255) hx hb dX8_append_2 (by decide) ?_
  obtain ⟨r1, C2, hc3, hF⟩ := b2_t hF
  refine call_SXv hC (c_X8_requireWithin l G n (by omega) hn2 hfl x0 (0 : Int32) (255 : Int32) _ _ _ hc3) wsX8_47 ⟨rfl, rfl, by decide, by decide⟩ hw hS hl.1 rfl (rest := []) rfl (Nat.le_of_ble_eq_true rfl) dX8_append_5 ⟨by decide, by decide⟩ (fun k ce q9 H locs h5 b1 b2 hw hS hce hcv hcl => m_out hC hlk ht hw hS b1 b2 hce hcv hcl (by decide) (by decide) (se_x h5 hF)) (fun v4 H locs h5 hw hS => ?_)
  have hF := se_l h5 hF
  refine lv_aload_n hx hb dX8_append_8 rfl (lv_at hl 0 rfl) ?_
  refine gX8_10 hC hw (by omega)  dX8_append_9 ?_
  refine lv_iload_n hx hb dX8_append_12 rfl (lv_at hl 1 rfl) ?_
  obtain ⟨r6, C7, hc8, hF⟩ := b2_t hF
  refine call_Vi hC (c_X4_add l G n (by omega) hn2 x0 _ _ _ hc8) wvX8_51 ⟨rfl, rfl, by decide, by decide⟩ hw hS (by omega) ca_plan rfl hl.1 rfl (rest := []) rfl (Nat.le_of_ble_eq_true rfl) dX8_append_13 ⟨by decide, by decide⟩ (fun H locs hw hS _ => ?_)
  refine lv_if_ne (tgt := 29) hx hb dX8_append_16 (by decide) (fun h9 => ?_) (fun h9 => ?_)
  · have hF := it_f h9 hF
    refine lv_aload_n hx hb dX8_append_29 rfl (lv_at hl 0 rfl) ?_
    refine gX8_10 hC hw (by omega)  dX8_append_30 ?_
    refine gX8_62 hC hw (by omega)  dX8_append_33 ?_
    exact m_iretX hC hr hlk hw hS (by decide) (by decide) dX8_append_36 hF
  · have hF := it_t h9 hF
    exact m_throwS hC hfl hlk ht hw hS xat_2 (by decide +kernel : (57, "the text is full") ∈ strs) hl.1 dX8_append_19 dX8_append_22 dX8_append_23 dX8_append_25 dX8_append_28 (by decide) (by decide) (by decide) (by decide) (by decide) (by decide) hF
set_option maxHeartbeats 4000000 in
set_option maxRecDepth 100000 in
theorem c_X8_clearText (l : Launch) (G : GG) (n : Nat) (hn : 244 ≤ n) (hn2 : 0 ≤ n)  (C : Mem) (rR : Int32) (CR : Mem) (hF : F_X8_clearText  C = some (rR, CR)) : Ct l yX8_clearText cX8_clearText 2 (some .int) (rmN 0 0) G n C [.ref (bb G + 0)] (some (.int rR)) CR := by
  refine Ct.of (by decide) (Nat.le_of_ble_eq_true rfl) ?_
  intro p e s m below meth c ls hC hr hlk hw hl
  have hx := hC.1
  have hb := hC.2.1
  have hS : LW G s s.heap [] := va_S.rf
  have hl : lv_has ls 2 [(0, .ref (bb G + 0))] := hl
  unfold F_X8_clearText at hF
  refine lv_aload_n hx hb dX8_clearText_0 rfl (lv_at hl 0 rfl) ?_
  refine gX8_10 hC hw (by omega)  dX8_clearText_1 ?_
  refine gX8_62 hC hw (by omega)  dX8_clearText_4 ?_
  obtain ⟨v1, ev1, hF⟩ := nm_t hF
  refine lv_nmi ev1 ?_
  refine lv_istore_n (lv' := [(1, .int v1), (0, .ref (bb G + 0))]) hx hb dX8_clearText_7 rfl hl (by decide) rfl (fun ls hl => ?_)
  refine lv_aload_n hx hb dX8_clearText_8 rfl (lv_at hl 1 rfl) ?_
  refine gX8_10 hC hw (by omega)  dX8_clearText_9 ?_
  refine lv_iconst (v := 0) hx hb dX8_clearText_12 (by decide) ?_
  refine pX8_62 hC hw hS (by omega) hn2  dX8_clearText_13 (fun H locs hw hS _ => ?_)
  obtain ⟨C2, eC2, hF⟩ := nm_t hF
  have hw := Wd.cast eC2 hw
  refine lv_iload_n hx hb dX8_clearText_16 rfl (lv_at hl 0 rfl) ?_
  exact m_iret hC hr hlk hw hS dX8_clearText_17 hF
set_option maxHeartbeats 4000000 in
set_option maxRecDepth 100000 in
theorem c_X8_errorPosition (l : Launch) (G : GG) (n : Nat) (hn : 244 ≤ n) (hn2 : 0 ≤ n)  (C : Mem) (rR : Int32) (CR : Mem) (hF : F_X8_errorPosition  C = some (rR, CR)) : Ct l yX8_errorPosition cX8_errorPosition 1 (some .int) (rmN 5 110) G n C [.ref (bb G + 0)] (some (.int rR)) CR := by
  refine Ct.of (by decide) (Nat.le_of_ble_eq_true rfl) ?_
  intro p e s m below meth c ls hC hr hlk hw hl
  have hx := hC.1
  have hb := hC.2.1
  have hS : LW G s s.heap [] := va_S.rf
  have hl : lv_has ls 1 [(0, .ref (bb G + 0))] := hl
  unfold F_X8_errorPosition at hF
  refine lv_aload_n hx hb dX8_errorPosition_0 rfl (lv_at hl 0 rfl) ?_
  refine gX8_10 hC hw (by omega)  dX8_errorPosition_1 ?_
  obtain ⟨r1, C2, hc3, hF⟩ := b2_t hF
  refine call_Vi hC (c_X4_read l G n (by omega) hn2  _ _ _ hc3) wvX8_66 ⟨rfl, rfl, by decide, by decide⟩ hw hS (by omega) ca_plan rfl hl.1 rfl (rest := []) rfl (Nat.le_of_ble_eq_true rfl) dX8_errorPosition_4 ⟨by decide, by decide⟩ (fun H locs hw hS _ => ?_)
  exact m_iret hC hr hlk hw hS dX8_errorPosition_7 hF
set_option maxHeartbeats 4000000 in
set_option maxRecDepth 100000 in
theorem c_X8_load (l : Launch) (G : GG) (n : Nat) (hn : 244 ≤ n) (hn2 : 0 ≤ n) (hfl : l.stackTraces = false)  (C : Mem) (rR : Rs) (CR : Mem) (hF : F_X8_load  C = some (rR, CR)) : CtX l yX8_load cX8_load 1 (some .int) (rmX 6 110 1 6) 1 6 G n C [.ref (bb G + 0)] (fun v => some (.int v)) rR CR := by
  refine CtX.of (by decide) (Nat.le_of_ble_eq_true rfl) ?_
  intro p e s m below meth c ls hC hr hlk ht hw hl
  have hx := hC.1
  have hb := hC.2.1
  have hS : LW G s s.heap [] := va_S.rf
  have hl : lv_has ls 1 [(0, .ref (bb G + 0))] := hl
  unfold F_X8_load at hF
  refine lv_aload_n hx hb dX8_load_0 rfl (lv_at hl 0 rfl) ?_
  refine gX8_10 hC hw (by omega)  dX8_load_1 ?_
  obtain ⟨r1, C2, hc3, hF⟩ := b2_t hF
  refine call_Vi hC (c_X4_read l G n (by omega) hn2  _ _ _ hc3) wvX8_66 ⟨rfl, rfl, by decide, by decide⟩ hw hS (by omega) ca_plan rfl hl.1 rfl (rest := []) rfl (Nat.le_of_ble_eq_true rfl) dX8_load_4 ⟨by decide, by decide⟩ (fun H locs hw hS _ => ?_)
  refine lv_bipush (v := -9) hx hb dX8_load_7 (by decide) ?_
  refine lv_icmp_eq (tgt := 22) hx hb dX8_load_9 (by decide) (fun h4 => ?_) (fun h4 => ?_)
  · have hF := it_t h4 hF
    refine lv_aload_n hx hb dX8_load_22 rfl (lv_at hl 0 rfl) ?_
    refine gX8_19 hC hw (by omega)  dX8_load_23 ?_
    refine lv_aload_n hx hb dX8_load_26 rfl (lv_at hl 0 rfl) ?_
    refine gX8_10 hC hw (by omega)  dX8_load_27 ?_
    obtain ⟨r5, C6, hc7, hF⟩ := b2_t hF
    refine call_Vv hC (c_X5_beginAs l G n (by omega) hn2 0 (show 0 < 18 by decide) _ _ _ hc7) wvX8_43 ⟨rfl, rfl, by decide, by decide⟩ hw hS (by have := po_lt (show 0 < 18 by decide); omega) (ca_plant (show 0 < 18 by decide)) rfl hl.1 rfl (rest := []) rfl (Nat.le_of_ble_eq_true rfl) dX8_load_30 ⟨by decide, by decide⟩ (fun H locs hw hS _ => ?_)
    refine lv_aload_n hx hb dX8_load_33 rfl (lv_at hl 0 rfl) ?_
    refine gX8_29 hC hw (by omega)  dX8_load_34 ?_
    obtain ⟨r8, C9, hc10, hF⟩ := b2_t hF
    refine call_Vv hC (c_X2_forgetAll l G n (by omega) hn2  _ _ _ hc10) wvX8_72 ⟨rfl, rfl, by decide, by decide⟩ hw hS (by omega) ca_hist rfl hl.1 rfl (rest := []) rfl (Nat.le_of_ble_eq_true rfl) dX8_load_37 ⟨by decide, by decide⟩ (fun H locs hw hS _ => ?_)
    refine lv_aload_n hx hb dX8_load_40 rfl (lv_at hl 0 rfl) ?_
    refine gX8_36 hC hw (by omega)  dX8_load_41 ?_
    refine lv_iconst (v := 0) hx hb dX8_load_44 (by decide) ?_
    refine pX8_75 hC hw hS (by omega) hn2 (show 0 < 2 by decide) (by decide) dX8_load_45 (fun H locs hw hS _ => ?_)
    obtain ⟨C11, eC11, hF⟩ := nm_t hF
    have hw := Wd.cast eC11 hw
    refine lv_aload_n hx hb dX8_load_48 rfl (lv_at hl 0 rfl) ?_
    refine gX8_40 hC hw (by omega)  dX8_load_49 ?_
    refine lv_iconst (v := 0) hx hb dX8_load_52 (by decide) ?_
    refine pX8_75 hC hw hS (by omega) hn2 (show 1 < 2 by decide) (by decide) dX8_load_53 (fun H locs hw hS _ => ?_)
    obtain ⟨C12, eC12, hF⟩ := nm_t hF
    have hw := Wd.cast eC12 hw
    refine lv_aload_n hx hb dX8_load_56 rfl (lv_at hl 0 rfl) ?_
    refine gX8_19 hC hw (by omega)  dX8_load_57 ?_
    refine gX8_79 hC hw (by omega) (show 0 < 18 by decide) dX8_load_60 ?_
    exact m_iretX hC hr hlk hw hS (by decide) (by decide) dX8_load_63 hF
  · have hF := it_f h4 hF
    exact m_throwS hC hfl hlk ht hw hS xat_2 (by decide +kernel : (70, "the text tells no cascade") ∈ strs) hl.1 dX8_load_12 dX8_load_15 dX8_load_16 dX8_load_18 dX8_load_21 (by decide) (by decide) (by decide) (by decide) (by decide) (by decide) hF
set_option maxHeartbeats 4000000 in
set_option maxRecDepth 100000 in
theorem c_X8_about (l : Launch) (G : GG) (n : Nat) (hn : 244 ≤ n) (hn2 : 0 ≤ n) (hfl : l.stackTraces = false) (x0 : Int32) (C : Mem) (rR : Rs) (CR : Mem) (hF : F_X8_about x0 C = some (rR, CR)) : CtX l yX8_about cX8_about 2 (some .int) (rmX 7 108 1 6) 1 6 G n C [.ref (bb G + 0), .int x0] (fun v => some (.int v)) rR CR := by
  refine CtX.of (by decide) (Nat.le_of_ble_eq_true rfl) ?_
  intro p e s m below meth c ls hC hr hlk ht hw hl
  have hx := hC.1
  have hb := hC.2.1
  have hS : LW G s s.heap [] := va_S.rf
  have hl : lv_has ls 2 [(0, .ref (bb G + 0)), (1, .int x0)] := hl
  unfold F_X8_about at hF
  refine lv_iload_n hx hb dX8_about_0 rfl (lv_at hl 1 rfl) ?_
  refine lv_iconst (v := 0) hx hb dX8_about_1 (by decide) ?_
  refine lv_bipush (v := 16) hx hb dX8_about_2 (by decide) ?_
  obtain ⟨r1, C2, hc3, hF⟩ := b2_t hF
  refine call_SXv hC (c_X8_requireWithin l G n (by omega) hn2 hfl x0 (0 : Int32) (16 : Int32) _ _ _ hc3) wsX8_47 ⟨rfl, rfl, by decide, by decide⟩ hw hS hl.1 rfl (rest := []) rfl (Nat.le_of_ble_eq_true rfl) dX8_about_4 ⟨by decide, by decide⟩ (fun k ce q9 H locs h5 b1 b2 hw hS hce hcv hcl => m_out hC hlk ht hw hS b1 b2 hce hcv hcl (by decide) (by decide) (se_x h5 hF)) (fun v4 H locs h5 hw hS => ?_)
  have hF := se_l h5 hF
  refine lv_iload_n hx hb dX8_about_7 rfl (lv_at hl 1 rfl) ?_
  refine lv_bipush (v := 6) hx hb dX8_about_8 (by decide) ?_
  refine lv_icmp_ge (tgt := 23) hx hb dX8_about_10 (by decide) (fun h6 => ?_) (fun h6 => ?_)
  · have hF := it_t h6 hF
    refine lv_iload_n hx hb dX8_about_23 rfl (lv_at hl 1 rfl) ?_
    by_cases h7 : x0 = (6 : Int32)
    · have hF := it_t h7 hF
      refine lv_tableIn (tgt := 80) (off := 56) hx hb dX8_about_24 (by rw [h7]; decide) (by rw [h7]; decide) (by rw [h7]; rfl) (by decide) ?_
      refine lv_aload_n hx hb dX8_about_80 rfl (lv_at hl 0 rfl) ?_
      refine gX8_19 hC hw (by omega)  dX8_about_81 ?_
      refine gX8_79 hC hw (by omega) (show 0 < 18 by decide) dX8_about_84 ?_
      exact m_iretX hC hr hlk hw hS (by decide) (by decide) dX8_about_87 hF
    have hF := it_f h7 hF
    by_cases h8 : x0 = (7 : Int32)
    · have hF := it_t h8 hF
      refine lv_tableIn (tgt := 88) (off := 64) hx hb dX8_about_24 (by rw [h8]; decide) (by rw [h8]; decide) (by rw [h8]; rfl) (by decide) ?_
      refine lv_aload_n hx hb dX8_about_88 rfl (lv_at hl 0 rfl) ?_
      refine gX8_19 hC hw (by omega)  dX8_about_89 ?_
      refine gX8_86 hC hw (by omega) (show 0 < 18 by decide) dX8_about_92 ?_
      refine gX8_90 hC hw (by omega) (show 0 < 18 by decide) dX8_about_95 ?_
      exact m_iretX hC hr hlk hw hS (by decide) (by decide) dX8_about_98 hF
    have hF := it_f h8 hF
    by_cases h9 : x0 = (8 : Int32)
    · have hF := it_t h9 hF
      refine lv_tableIn (tgt := 99) (off := 75) hx hb dX8_about_24 (by rw [h9]; decide) (by rw [h9]; decide) (by rw [h9]; rfl) (by decide) ?_
      refine lv_aload_n hx hb dX8_about_99 rfl (lv_at hl 0 rfl) ?_
      refine gX8_19 hC hw (by omega)  dX8_about_100 ?_
      refine gX8_95 hC hw (by omega) (show 0 < 18 by decide) dX8_about_103 ?_
      exact m_iretX hC hr hlk hw hS (by decide) (by decide) dX8_about_106 hF
    have hF := it_f h9 hF
    by_cases h10 : x0 = (9 : Int32)
    · have hF := it_t h10 hF
      refine lv_tableIn (tgt := 107) (off := 83) hx hb dX8_about_24 (by rw [h10]; decide) (by rw [h10]; decide) (by rw [h10]; rfl) (by decide) ?_
      refine lv_aload_n hx hb dX8_about_107 rfl (lv_at hl 0 rfl) ?_
      refine gX8_19 hC hw (by omega)  dX8_about_108 ?_
      refine gX8_86 hC hw (by omega) (show 0 < 18 by decide) dX8_about_111 ?_
      obtain ⟨r17, C18, hc19, hF⟩ := b2_t hF
      refine call_Vi hC (c_X7_mean l G n (by omega) hn2 0 (show 0 < 18 by decide) _ _ _ hc19) wvX8_98 ⟨rfl, rfl, by decide, by decide⟩ hw hS (by have := po_lt (show 0 < 18 by decide); omega) (ca_tank (show 0 < 18 by decide)) rfl hl.1 rfl (rest := []) rfl (Nat.le_of_ble_eq_true rfl) dX8_about_114 ⟨by decide, by decide⟩ (fun H locs hw hS _ => ?_)
      exact m_iretX hC hr hlk hw hS (by decide) (by decide) dX8_about_117 hF
    have hF := it_f h10 hF
    by_cases h11 : x0 = (10 : Int32)
    · have hF := it_t h11 hF
      refine lv_tableIn (tgt := 118) (off := 94) hx hb dX8_about_24 (by rw [h11]; decide) (by rw [h11]; decide) (by rw [h11]; rfl) (by decide) ?_
      refine lv_aload_n hx hb dX8_about_118 rfl (lv_at hl 0 rfl) ?_
      refine gX8_19 hC hw (by omega)  dX8_about_119 ?_
      refine gX8_101 hC hw (by omega) (show 0 < 18 by decide) dX8_about_122 ?_
      exact m_iretX hC hr hlk hw hS (by decide) (by decide) dX8_about_125 hF
    have hF := it_f h11 hF
    by_cases h12 : x0 = (11 : Int32)
    · have hF := it_t h12 hF
      refine lv_tableIn (tgt := 126) (off := 102) hx hb dX8_about_24 (by rw [h12]; decide) (by rw [h12]; decide) (by rw [h12]; rfl) (by decide) ?_
      refine lv_aload_n hx hb dX8_about_126 rfl (lv_at hl 0 rfl) ?_
      refine gX8_19 hC hw (by omega)  dX8_about_127 ?_
      refine gX8_104 hC hw (by omega) (show 0 < 18 by decide) dX8_about_130 ?_
      refine gX8_108 hC hw (by omega) (show 0 < 18 by decide) dX8_about_133 ?_
      refine lv_if_eq (tgt := 143) hx hb dX8_about_136 (by decide) (fun h20 => ?_) (fun h20 => ?_)
      · have hF := it_t h20 hF
        refine lv_iconst (v := 0) hx hb dX8_about_143 (by decide) ?_
        exact m_iretX hC hr hlk hw hS (by decide) (by decide) dX8_about_144 hF
      · have hF := it_f h20 hF
        refine lv_iconst (v := 1) hx hb dX8_about_139 (by decide) ?_
        refine lv_goto (tgt := 144) hx hb dX8_about_140 (by decide) ?_
        exact m_iretX hC hr hlk hw hS (by decide) (by decide) dX8_about_144 hF
    have hF := it_f h12 hF
    by_cases h13 : x0 = (12 : Int32)
    · have hF := it_t h13 hF
      refine lv_tableIn (tgt := 145) (off := 121) hx hb dX8_about_24 (by rw [h13]; decide) (by rw [h13]; decide) (by rw [h13]; rfl) (by decide) ?_
      refine lv_aload_n hx hb dX8_about_145 rfl (lv_at hl 0 rfl) ?_
      refine gX8_19 hC hw (by omega)  dX8_about_146 ?_
      refine gX8_104 hC hw (by omega) (show 0 < 18 by decide) dX8_about_149 ?_
      refine gX8_113 hC hw (by omega) (show 0 < 18 by decide) dX8_about_152 ?_
      exact m_iretX hC hr hlk hw hS (by decide) (by decide) dX8_about_155 hF
    have hF := it_f h13 hF
    by_cases h14 : x0 = (13 : Int32)
    · have hF := it_t h14 hF
      refine lv_tableIn (tgt := 156) (off := 132) hx hb dX8_about_24 (by rw [h14]; decide) (by rw [h14]; decide) (by rw [h14]; rfl) (by decide) ?_
      refine lv_aload_n hx hb dX8_about_156 rfl (lv_at hl 0 rfl) ?_
      refine gX8_19 hC hw (by omega)  dX8_about_157 ?_
      refine gX8_104 hC hw (by omega) (show 0 < 18 by decide) dX8_about_160 ?_
      refine gX8_116 hC hw (by omega) (show 0 < 18 by decide) dX8_about_163 ?_
      exact m_iretX hC hr hlk hw hS (by decide) (by decide) dX8_about_166 hF
    have hF := it_f h14 hF
    by_cases h15 : x0 = (14 : Int32)
    · have hF := it_t h15 hF
      refine lv_tableIn (tgt := 167) (off := 143) hx hb dX8_about_24 (by rw [h15]; decide) (by rw [h15]; decide) (by rw [h15]; rfl) (by decide) ?_
      refine lv_aload_n hx hb dX8_about_167 rfl (lv_at hl 0 rfl) ?_
      refine gX8_19 hC hw (by omega)  dX8_about_168 ?_
      refine gX8_104 hC hw (by omega) (show 0 < 18 by decide) dX8_about_171 ?_
      refine gX8_119 hC hw (by omega) (show 0 < 18 by decide) dX8_about_174 ?_
      exact m_iretX hC hr hlk hw hS (by decide) (by decide) dX8_about_177 hF
    have hF := it_f h15 hF
    by_cases h16 : x0 = (15 : Int32)
    · have hF := it_t h16 hF
      refine lv_tableIn (tgt := 178) (off := 154) hx hb dX8_about_24 (by rw [h16]; decide) (by rw [h16]; decide) (by rw [h16]; rfl) (by decide) ?_
      refine lv_aload_n hx hb dX8_about_178 rfl (lv_at hl 0 rfl) ?_
      refine gX8_19 hC hw (by omega)  dX8_about_179 ?_
      refine gX8_104 hC hw (by omega) (show 0 < 18 by decide) dX8_about_182 ?_
      refine gX8_122 hC hw (by omega) (show 0 < 18 by decide) dX8_about_185 ?_
      exact m_iretX hC hr hlk hw hS (by decide) (by decide) dX8_about_188 hF
    have hF := it_f h16 hF
    refine lv_tableOut (tgt := 189) hx hb dX8_about_24 (sw_out (fun k ka kb kc => by (have kd : k = 6 ∨ k = 7 ∨ k = 8 ∨ k = 9 ∨ k = 10 ∨ k = 11 ∨ k = 12 ∨ k = 13 ∨ k = 14 ∨ k = 15 := by omega); exact kd.elim (fun kd => by subst kd; exact lv_neT h7 (by decide) kc) (fun kd => kd.elim (fun kd => by subst kd; exact lv_neT h8 (by decide) kc) (fun kd => kd.elim (fun kd => by subst kd; exact lv_neT h9 (by decide) kc) (fun kd => kd.elim (fun kd => by subst kd; exact lv_neT h10 (by decide) kc) (fun kd => kd.elim (fun kd => by subst kd; exact lv_neT h11 (by decide) kc) (fun kd => kd.elim (fun kd => by subst kd; exact lv_neT h12 (by decide) kc) (fun kd => kd.elim (fun kd => by subst kd; exact lv_neT h13 (by decide) kc) (fun kd => kd.elim (fun kd => by subst kd; exact lv_neT h14 (by decide) kc) (fun kd => kd.elim (fun kd => by subst kd; exact lv_neT h15 (by decide) kc) (fun kd => (by subst kd; exact lv_neT h16 (by decide) kc)))))))))))) (by decide) ?_
    refine lv_aload_n hx hb dX8_about_189 rfl (lv_at hl 0 rfl) ?_
    refine gX8_19 hC hw (by omega)  dX8_about_190 ?_
    refine lv_iconst (v := 2) hx hb dX8_about_193 (by decide) ?_
    obtain ⟨r21, C22, hc23, hF⟩ := b2_t hF
    refine call_Vi hC (c_X5_countInState l G n (by omega) hn2 0 (show 0 < 18 by decide) (2 : Int32) _ _ _ hc23) wvX8_125 ⟨rfl, rfl, by decide, by decide⟩ hw hS (by have := po_lt (show 0 < 18 by decide); omega) (ca_plant (show 0 < 18 by decide)) rfl hl.1 rfl (rest := []) rfl (Nat.le_of_ble_eq_true rfl) dX8_about_194 ⟨by decide, by decide⟩ (fun H locs hw hS _ => ?_)
    exact m_iretX hC hr hlk hw hS (by decide) (by decide) dX8_about_197 hF
  · have hF := it_f h6 hF
    refine lv_aload_n hx hb dX8_about_13 rfl (lv_at hl 0 rfl) ?_
    refine gX8_19 hC hw (by omega)  dX8_about_14 ?_
    refine gX8_82 hC hw (by omega) (show 0 < 18 by decide) dX8_about_17 ?_
    refine lv_iload_n hx hb dX8_about_20 rfl (lv_at hl 1 rfl) ?_
    obtain ⟨g24, hF⟩ := gi_t hF
    refine ld_sett hC hw (by omega) (show 0 < 18 by decide) g24 dX8_about_21 ?_
    exact m_iretX hC hr hlk hw hS (by decide) (by decide) dX8_about_22 hF
set_option maxHeartbeats 4000000 in
set_option maxRecDepth 100000 in
theorem c_X8_requireBoiler (l : Launch) (G : GG) (n : Nat) (hn : 244 ≤ n) (hn2 : 0 ≤ n) (hfl : l.stackTraces = false) (x0 : Int32) (C : Mem) (rR : Rs) (CR : Mem) (hF : F_X8_requireBoiler x0 C = some (rR, CR)) : CtX l yX8_requireBoiler cX8_requireBoiler 2 none (rmX 6 86 1 6) 1 6 G n C [.ref (bb G + 0), .int x0] (fun _ => none) rR CR := by
  refine CtX.of (by decide) (Nat.le_of_ble_eq_true rfl) ?_
  intro p e s m below meth c ls hC hr hlk ht hw hl
  have hx := hC.1
  have hb := hC.2.1
  have hS : LW G s s.heap [] := va_S.rf
  have hl : lv_has ls 2 [(0, .ref (bb G + 0)), (1, .int x0)] := hl
  unfold F_X8_requireBoiler at hF
  refine lv_aload_n hx hb dX8_requireBoiler_0 rfl (lv_at hl 0 rfl) ?_
  refine gX8_19 hC hw (by omega)  dX8_requireBoiler_1 ?_
  refine lv_iload_n hx hb dX8_requireBoiler_4 rfl (lv_at hl 1 rfl) ?_
  obtain ⟨r1, C2, hc3, hF⟩ := b2_t hF
  refine call_Vi hC (c_X5_hasBoiler l G n (by omega) hn2 0 (show 0 < 18 by decide) x0 _ _ _ hc3) wvX8_321 ⟨rfl, rfl, by decide, by decide⟩ hw hS (by have := po_lt (show 0 < 18 by decide); omega) (ca_plant (show 0 < 18 by decide)) rfl hl.1 rfl (rest := []) rfl (Nat.le_of_ble_eq_true rfl) dX8_requireBoiler_5 ⟨by decide, by decide⟩ (fun H locs hw hS _ => ?_)
  refine lv_if_ne (tgt := 22) hx hb dX8_requireBoiler_8 (by decide) (fun h4 => ?_) (fun h4 => ?_)
  · have hF := it_f h4 hF
    exact m_vretX hC hr hlk hw hS (by decide) (by decide) dX8_requireBoiler_22 hF
  · have hF := it_t h4 hF
    exact m_throwSW hC hfl hlk ht hw hS xat_3 (by decide +kernel : (324, "there is no such boiler") ∈ strs) hl.1 dX8_requireBoiler_11 dX8_requireBoiler_14 dX8_requireBoiler_15 dX8_requireBoiler_18 dX8_requireBoiler_21 (by decide) (by decide) (by decide) (by decide) (by decide) (by decide) hF
set_option maxHeartbeats 4000000 in
set_option maxRecDepth 100000 in
theorem c_X8_boiler (l : Launch) (G : GG) (n : Nat) (hn : 244 ≤ n) (hn2 : 0 ≤ n) (hfl : l.stackTraces = false) (x0 : Int32) (x1 : Int32) (C : Mem) (rR : Rs) (CR : Mem) (hF : F_X8_boiler x0 x1 C = some (rR, CR)) : CtX l yX8_boiler cX8_boiler 4 (some .int) (rmX 7 108 2 12) 2 12 G n C [.ref (bb G + 0), .int x0, .int x1] (fun v => some (.int v)) rR CR := by
  refine CtX.of (by decide) (Nat.le_of_ble_eq_true rfl) ?_
  intro p e s m below meth c ls hC hr hlk ht hw hl
  have hx := hC.1
  have hb := hC.2.1
  have hS : LW G s s.heap [] := va_S.rf
  have hl : lv_has ls 4 [(0, .ref (bb G + 0)), (1, .int x0), (2, .int x1)] := hl
  unfold F_X8_boiler at hF
  refine lv_aload_n hx hb dX8_boiler_0 rfl (lv_at hl 0 rfl) ?_
  refine lv_iload_n hx hb dX8_boiler_1 rfl (lv_at hl 1 rfl) ?_
  obtain ⟨r1, C2, hc3, hF⟩ := b2_t hF
  refine call_VXv hC (c_X8_requireBoiler l G n (by omega) hn2 hfl x0 _ _ _ hc3) wvX8_129 ⟨rfl, rfl, by decide, by decide⟩ hw hS (by omega) ca_casc rfl hl.1 rfl (rest := []) rfl (Nat.le_of_ble_eq_true rfl) dX8_boiler_2 ⟨by decide, by decide⟩ (fun k ce q9 H locs h5 b1 b2 hw hS hce hcv hcl => m_out hC hlk ht hw hS b1 b2 hce hcv hcl (by decide) (by decide) (se_x h5 hF)) (fun v4 H locs h5 hw hS => ?_)
  have hF := se_l h5 hF
  refine lv_iload_n hx hb dX8_boiler_5 rfl (lv_at hl 2 rfl) ?_
  refine lv_iconst (v := 0) hx hb dX8_boiler_6 (by decide) ?_
  refine lv_bipush (v := 7) hx hb dX8_boiler_7 (by decide) ?_
  obtain ⟨r6, C7, hc8, hF⟩ := b2_t hF
  refine call_SXv hC (c_X8_requireWithin l G n (by omega) hn2 hfl x1 (0 : Int32) (7 : Int32) _ _ _ hc8) wsX8_47 ⟨rfl, rfl, by decide, by decide⟩ hw hS hl.1 rfl (rest := []) rfl (Nat.le_of_ble_eq_true rfl) dX8_boiler_9 ⟨by decide, by decide⟩ (fun k ce q9 H locs h10 b1 b2 hw hS hce hcv hcl => m_out hC hlk ht hw hS b1 b2 hce hcv hcl (by decide) (by decide) (se_x h10 hF)) (fun v9 H locs h10 hw hS => ?_)
  have hF := se_l h10 hF
  refine lv_aload_n hx hb dX8_boiler_12 rfl (lv_at hl 0 rfl) ?_
  refine gX8_19 hC hw (by omega)  dX8_boiler_13 ?_
  refine gX8_133 hC hw (by omega) (show 0 < 18 by decide) dX8_boiler_16 ?_
  refine lv_iload_n hx hb dX8_boiler_19 rfl (lv_at hl 1 rfl) ?_
  obtain ⟨g11, hF⟩ := gi_t hF
  refine ld_barr hC hw (by omega) (show 0 < 18 by decide) g11 dX8_boiler_20 ?_
  refine lv_astore_n (lv' := [(3, .ref (bb G + (po 0 + (8 + (x0).toNatClampNeg)))), (0, .ref (bb G + 0)), (1, .int x0), (2, .int x1)]) hx hb dX8_boiler_21 rfl hl (by decide) rfl (fun ls hl => ?_)
  refine lv_iload_n hx hb dX8_boiler_22 rfl (lv_at hl 3 rfl) ?_
  by_cases h12 : x1 = (0 : Int32)
  · have hF := it_t h12 hF
    refine lv_tableIn (tgt := 64) (off := 41) hx hb dX8_boiler_23 (by rw [h12]; decide) (by rw [h12]; decide) (by rw [h12]; rfl) (by decide) ?_
    refine lv_aload_n hx hb dX8_boiler_64 rfl (lv_at hl 0 rfl) ?_
    refine gX8_137 hC hw (by omega) (show 0 < 18 by decide) (vp_lt g11) dX8_boiler_65 ?_
    exact m_iretX hC hr hlk hw hS (by decide) (by decide) dX8_boiler_68 hF
  have hF := it_f h12 hF
  by_cases h13 : x1 = (1 : Int32)
  · have hF := it_t h13 hF
    refine lv_tableIn (tgt := 69) (off := 46) hx hb dX8_boiler_23 (by rw [h13]; decide) (by rw [h13]; decide) (by rw [h13]; rfl) (by decide) ?_
    refine lv_aload_n hx hb dX8_boiler_69 rfl (lv_at hl 0 rfl) ?_
    refine gX8_142 hC hw (by omega) (show 0 < 18 by decide) (vp_lt g11) dX8_boiler_70 ?_
    exact m_iretX hC hr hlk hw hS (by decide) (by decide) dX8_boiler_73 hF
  have hF := it_f h13 hF
  by_cases h14 : x1 = (2 : Int32)
  · have hF := it_t h14 hF
    refine lv_tableIn (tgt := 74) (off := 51) hx hb dX8_boiler_23 (by rw [h14]; decide) (by rw [h14]; decide) (by rw [h14]; rfl) (by decide) ?_
    refine lv_aload_n hx hb dX8_boiler_74 rfl (lv_at hl 0 rfl) ?_
    refine gX8_145 hC hw (by omega) (show 0 < 18 by decide) (vp_lt g11) dX8_boiler_75 ?_
    exact m_iretX hC hr hlk hw hS (by decide) (by decide) dX8_boiler_78 hF
  have hF := it_f h14 hF
  by_cases h15 : x1 = (3 : Int32)
  · have hF := it_t h15 hF
    refine lv_tableIn (tgt := 79) (off := 56) hx hb dX8_boiler_23 (by rw [h15]; decide) (by rw [h15]; decide) (by rw [h15]; rfl) (by decide) ?_
    refine lv_aload_n hx hb dX8_boiler_79 rfl (lv_at hl 0 rfl) ?_
    refine gX8_148 hC hw (by omega) (show 0 < 18 by decide) (vp_lt g11) dX8_boiler_80 ?_
    exact m_iretX hC hr hlk hw hS (by decide) (by decide) dX8_boiler_83 hF
  have hF := it_f h15 hF
  by_cases h16 : x1 = (4 : Int32)
  · have hF := it_t h16 hF
    refine lv_tableIn (tgt := 84) (off := 61) hx hb dX8_boiler_23 (by rw [h16]; decide) (by rw [h16]; decide) (by rw [h16]; rfl) (by decide) ?_
    refine lv_aload_n hx hb dX8_boiler_84 rfl (lv_at hl 0 rfl) ?_
    refine gX8_151 hC hw (by omega) (show 0 < 18 by decide) (vp_lt g11) dX8_boiler_85 ?_
    exact m_iretX hC hr hlk hw hS (by decide) (by decide) dX8_boiler_88 hF
  have hF := it_f h16 hF
  by_cases h17 : x1 = (5 : Int32)
  · have hF := it_t h17 hF
    refine lv_tableIn (tgt := 89) (off := 66) hx hb dX8_boiler_23 (by rw [h17]; decide) (by rw [h17]; decide) (by rw [h17]; rfl) (by decide) ?_
    refine lv_aload_n hx hb dX8_boiler_89 rfl (lv_at hl 0 rfl) ?_
    refine gX8_154 hC hw (by omega) (show 0 < 18 by decide) (vp_lt g11) dX8_boiler_90 ?_
    exact m_iretX hC hr hlk hw hS (by decide) (by decide) dX8_boiler_93 hF
  have hF := it_f h17 hF
  by_cases h18 : x1 = (6 : Int32)
  · have hF := it_t h18 hF
    refine lv_tableIn (tgt := 94) (off := 71) hx hb dX8_boiler_23 (by rw [h18]; decide) (by rw [h18]; decide) (by rw [h18]; rfl) (by decide) ?_
    refine lv_aload_n hx hb dX8_boiler_94 rfl (lv_at hl 0 rfl) ?_
    refine gX8_157 hC hw (by omega) (show 0 < 18 by decide) (vp_lt g11) dX8_boiler_95 ?_
    exact m_iretX hC hr hlk hw hS (by decide) (by decide) dX8_boiler_98 hF
  have hF := it_f h18 hF
  refine lv_tableOut (tgt := 99) hx hb dX8_boiler_23 (sw_out (fun k ka kb kc => by (have kd : k = 0 ∨ k = 1 ∨ k = 2 ∨ k = 3 ∨ k = 4 ∨ k = 5 ∨ k = 6 := by omega); exact kd.elim (fun kd => by subst kd; exact lv_neT h12 (by decide) kc) (fun kd => kd.elim (fun kd => by subst kd; exact lv_neT h13 (by decide) kc) (fun kd => kd.elim (fun kd => by subst kd; exact lv_neT h14 (by decide) kc) (fun kd => kd.elim (fun kd => by subst kd; exact lv_neT h15 (by decide) kc) (fun kd => kd.elim (fun kd => by subst kd; exact lv_neT h16 (by decide) kc) (fun kd => kd.elim (fun kd => by subst kd; exact lv_neT h17 (by decide) kc) (fun kd => (by subst kd; exact lv_neT h18 (by decide) kc))))))))) (by decide) ?_
  refine lv_aload_n hx hb dX8_boiler_99 rfl (lv_at hl 1 rfl) ?_
  refine gX8_19 hC hw (by omega)  dX8_boiler_100 ?_
  refine lv_aload_n hx hb dX8_boiler_103 rfl (lv_at hl 0 rfl) ?_
  obtain ⟨r19, C20, hc21, hF⟩ := b2_t hF
  refine call_Vi hC (c_X5_hasRoomFor l G n (by omega) hn2 0 (show 0 < 18 by decide) 0 (show 0 < 18 by decide) (x0).toNatClampNeg (vp_lt g11) _ _ _ hc21) wvX8_160 ⟨rfl, rfl, by decide, by decide⟩ hw hS (by have := po_lt (show 0 < 18 by decide); omega) (ca_plant (show 0 < 18 by decide)) rfl hl.1 rfl (rest := []) rfl (Nat.le_of_ble_eq_true rfl) dX8_boiler_104 ⟨by decide, by decide⟩ (fun H locs hw hS _ => ?_)
  refine lv_if_eq (tgt := 114) hx hb dX8_boiler_107 (by decide) (fun h22 => ?_) (fun h22 => ?_)
  · have hF := it_t h22 hF
    refine lv_iconst (v := 0) hx hb dX8_boiler_114 (by decide) ?_
    exact m_iretX hC hr hlk hw hS (by decide) (by decide) dX8_boiler_115 hF
  · have hF := it_f h22 hF
    refine lv_iconst (v := 1) hx hb dX8_boiler_110 (by decide) ?_
    refine lv_goto (tgt := 115) hx hb dX8_boiler_111 (by decide) ?_
    exact m_iretX hC hr hlk hw hS (by decide) (by decide) dX8_boiler_115 hF
set_option maxHeartbeats 4000000 in
set_option maxRecDepth 100000 in
theorem c_X8_requireFlue (l : Launch) (G : GG) (n : Nat) (hn : 244 ≤ n) (hn2 : 0 ≤ n) (hfl : l.stackTraces = false) (x0 : Int32) (C : Mem) (rR : Rs) (CR : Mem) (hF : F_X8_requireFlue x0 C = some (rR, CR)) : CtX l yX8_requireFlue cX8_requireFlue 1 none (rmX 6 86 1 6) 1 6 G n C [.int x0] (fun _ => none) rR CR := by
  refine CtX.of (by decide) (Nat.le_of_ble_eq_true rfl) ?_
  intro p e s m below meth c ls hC hr hlk ht hw hl
  have hx := hC.1
  have hb := hC.2.1
  have hS : LW G s s.heap [] := va_S.rf
  have hl : lv_has ls 1 [(0, .int x0)] := hl
  unfold F_X8_requireFlue at hF
  refine lv_iload_n hx hb dX8_requireFlue_0 rfl (lv_at hl 0 rfl) ?_
  refine lv_if_lt (tgt := 9) hx hb dX8_requireFlue_1 (by decide) (fun h1 => ?_) (fun h1 => ?_)
  · have hF := it_t h1 hF
    exact m_throwSW hC hfl hlk ht hw hS xat_3 (by decide +kernel : (317, "there is no such flue") ∈ strs) hl.1 dX8_requireFlue_9 dX8_requireFlue_12 dX8_requireFlue_13 dX8_requireFlue_16 dX8_requireFlue_19 (by decide) (by decide) (by decide) (by decide) (by decide) (by decide) hF
  · have hF := it_f h1 hF
    refine lv_iload_n hx hb dX8_requireFlue_4 rfl (lv_at hl 0 rfl) ?_
    refine lv_iconst (v := 2) hx hb dX8_requireFlue_5 (by decide) ?_
    refine lv_icmp_lt (tgt := 20) hx hb dX8_requireFlue_6 (by decide) (fun h2 => ?_) (fun h2 => ?_)
    · have hF := it_t h2 hF
      exact m_vretX hC hr hlk hw hS (by decide) (by decide) dX8_requireFlue_20 hF
    · have hF := it_f h2 hF
      exact m_throwSW hC hfl hlk ht hw hS xat_3 (by decide +kernel : (317, "there is no such flue") ∈ strs) hl.1 dX8_requireFlue_9 dX8_requireFlue_12 dX8_requireFlue_13 dX8_requireFlue_16 dX8_requireFlue_19 (by decide) (by decide) (by decide) (by decide) (by decide) (by decide) hF
set_option maxHeartbeats 4000000 in
set_option maxRecDepth 100000 in
theorem c_X8_flue (l : Launch) (G : GG) (n : Nat) (hn : 244 ≤ n) (hn2 : 0 ≤ n) (hfl : l.stackTraces = false) (x0 : Int32) (x1 : Int32) (C : Mem) (rR : Rs) (CR : Mem) (hF : F_X8_flue x0 x1 C = some (rR, CR)) : CtX l yX8_flue cX8_flue 4 (some .int) (rmX 7 108 2 12) 2 12 G n C [.ref (bb G + 0), .int x0, .int x1] (fun v => some (.int v)) rR CR := by
  refine CtX.of (by decide) (Nat.le_of_ble_eq_true rfl) ?_
  intro p e s m below meth c ls hC hr hlk ht hw hl
  have hx := hC.1
  have hb := hC.2.1
  have hS : LW G s s.heap [] := va_S.rf
  have hl : lv_has ls 4 [(0, .ref (bb G + 0)), (1, .int x0), (2, .int x1)] := hl
  unfold F_X8_flue at hF
  refine lv_iload_n hx hb dX8_flue_0 rfl (lv_at hl 1 rfl) ?_
  obtain ⟨r1, C2, hc3, hF⟩ := b2_t hF
  refine call_SXv hC (c_X8_requireFlue l G n (by omega) hn2 hfl x0 _ _ _ hc3) wsX8_164 ⟨rfl, rfl, by decide, by decide⟩ hw hS hl.1 rfl (rest := []) rfl (Nat.le_of_ble_eq_true rfl) dX8_flue_1 ⟨by decide, by decide⟩ (fun k ce q9 H locs h5 b1 b2 hw hS hce hcv hcl => m_out hC hlk ht hw hS b1 b2 hce hcv hcl (by decide) (by decide) (se_x h5 hF)) (fun v4 H locs h5 hw hS => ?_)
  have hF := se_l h5 hF
  refine lv_iload_n hx hb dX8_flue_4 rfl (lv_at hl 2 rfl) ?_
  refine lv_iconst (v := 0) hx hb dX8_flue_5 (by decide) ?_
  refine lv_iconst (v := 3) hx hb dX8_flue_6 (by decide) ?_
  obtain ⟨r6, C7, hc8, hF⟩ := b2_t hF
  refine call_SXv hC (c_X8_requireWithin l G n (by omega) hn2 hfl x1 (0 : Int32) (3 : Int32) _ _ _ hc8) wsX8_47 ⟨rfl, rfl, by decide, by decide⟩ hw hS hl.1 rfl (rest := []) rfl (Nat.le_of_ble_eq_true rfl) dX8_flue_7 ⟨by decide, by decide⟩ (fun k ce q9 H locs h10 b1 b2 hw hS hce hcv hcl => m_out hC hlk ht hw hS b1 b2 hce hcv hcl (by decide) (by decide) (se_x h10 hF)) (fun v9 H locs h10 hw hS => ?_)
  have hF := se_l h10 hF
  refine lv_aload_n hx hb dX8_flue_10 rfl (lv_at hl 0 rfl) ?_
  refine gX8_19 hC hw (by omega)  dX8_flue_11 ?_
  refine lv_iload_n hx hb dX8_flue_14 rfl (lv_at hl 1 rfl) ?_
  obtain ⟨r11, C12, hc13, hF⟩ := b2_t hF
  refine call_Vr hC (c_X5_flueOf l G n (by omega) hn2 0 (show 0 < 18 by decide) x0 _ _ _ hc13) wvX8_167 ⟨rfl, rfl, by decide, by decide⟩ hw hS (by have := po_lt (show 0 < 18 by decide); omega) (ca_plant (show 0 < 18 by decide)) rfl hl.1 rfl (rest := []) rfl (Nat.le_of_ble_eq_true rfl) dX8_flue_15 ⟨by decide, by decide⟩ (fun H locs hw hS _ => ?_)
  obtain ⟨g14, hF⟩ := gn_t hF
  refine lv_astore_n (lv' := [(3, .ref (bb G + (po 0 + (2 + r11)))), (0, .ref (bb G + 0)), (1, .int x0), (2, .int x1)]) hx hb dX8_flue_18 rfl hl (by decide) rfl (fun ls hl => ?_)
  refine lv_iload_n hx hb dX8_flue_19 rfl (lv_at hl 3 rfl) ?_
  by_cases h15 : x1 = (0 : Int32)
  · have hF := it_t h15 hF
    refine lv_tableIn (tgt := 48) (off := 28) hx hb dX8_flue_20 (by rw [h15]; decide) (by rw [h15]; decide) (by rw [h15]; rfl) (by decide) ?_
    refine lv_aload_n hx hb dX8_flue_48 rfl (lv_at hl 0 rfl) ?_
    refine gX8_171 hC hw (by omega) (show 0 < 18 by decide) g14 dX8_flue_49 ?_
    exact m_iretX hC hr hlk hw hS (by decide) (by decide) dX8_flue_52 hF
  have hF := it_f h15 hF
  by_cases h16 : x1 = (1 : Int32)
  · have hF := it_t h16 hF
    refine lv_tableIn (tgt := 53) (off := 33) hx hb dX8_flue_20 (by rw [h16]; decide) (by rw [h16]; decide) (by rw [h16]; rfl) (by decide) ?_
    refine lv_aload_n hx hb dX8_flue_53 rfl (lv_at hl 1 rfl) ?_
    refine gX8_19 hC hw (by omega)  dX8_flue_54 ?_
    refine lv_iload_n hx hb dX8_flue_57 rfl (lv_at hl 2 rfl) ?_
    obtain ⟨r18, C19, hc20, hF⟩ := b2_t hF
    refine call_Vi hC (c_X5_useOf l G n (by omega) hn2 0 (show 0 < 18 by decide) x0 _ _ _ hc20) wvX8_176 ⟨rfl, rfl, by decide, by decide⟩ hw hS (by have := po_lt (show 0 < 18 by decide); omega) (ca_plant (show 0 < 18 by decide)) rfl hl.1 rfl (rest := []) rfl (Nat.le_of_ble_eq_true rfl) dX8_flue_58 ⟨by decide, by decide⟩ (fun H locs hw hS _ => ?_)
    exact m_iretX hC hr hlk hw hS (by decide) (by decide) dX8_flue_61 hF
  have hF := it_f h16 hF
  by_cases h17 : x1 = (2 : Int32)
  · have hF := it_t h17 hF
    refine lv_tableIn (tgt := 62) (off := 42) hx hb dX8_flue_20 (by rw [h17]; decide) (by rw [h17]; decide) (by rw [h17]; rfl) (by decide) ?_
    refine lv_aload_n hx hb dX8_flue_62 rfl (lv_at hl 0 rfl) ?_
    refine gX8_179 hC hw (by omega) (show 0 < 18 by decide) g14 dX8_flue_63 ?_
    refine lv_if_eq (tgt := 73) hx hb dX8_flue_66 (by decide) (fun h21 => ?_) (fun h21 => ?_)
    · have hF := it_t h21 hF
      refine lv_iconst (v := 0) hx hb dX8_flue_73 (by decide) ?_
      exact m_iretX hC hr hlk hw hS (by decide) (by decide) dX8_flue_74 hF
    · have hF := it_f h21 hF
      refine lv_iconst (v := 1) hx hb dX8_flue_69 (by decide) ?_
      refine lv_goto (tgt := 74) hx hb dX8_flue_70 (by decide) ?_
      exact m_iretX hC hr hlk hw hS (by decide) (by decide) dX8_flue_74 hF
  have hF := it_f h17 hF
  refine lv_tableOut (tgt := 75) hx hb dX8_flue_20 (sw_out (fun k ka kb kc => by (have kd : k = 0 ∨ k = 1 ∨ k = 2 := by omega); exact kd.elim (fun kd => by subst kd; exact lv_neT h15 (by decide) kc) (fun kd => kd.elim (fun kd => by subst kd; exact lv_neT h16 (by decide) kc) (fun kd => (by subst kd; exact lv_neT h17 (by decide) kc))))) (by decide) ?_
  refine lv_aload_n hx hb dX8_flue_75 rfl (lv_at hl 1 rfl) ?_
  refine gX8_19 hC hw (by omega)  dX8_flue_76 ?_
  refine lv_iload_n hx hb dX8_flue_79 rfl (lv_at hl 2 rfl) ?_
  obtain ⟨r22, C23, hc24, hF⟩ := b2_t hF
  refine call_Vi hC (c_X5_countAtFlue l G n (by omega) hn2 0 (show 0 < 18 by decide) x0 _ _ _ hc24) wvX8_182 ⟨rfl, rfl, by decide, by decide⟩ hw hS (by have := po_lt (show 0 < 18 by decide); omega) (ca_plant (show 0 < 18 by decide)) rfl hl.1 rfl (rest := []) rfl (Nat.le_of_ble_eq_true rfl) dX8_flue_80 ⟨by decide, by decide⟩ (fun H locs hw hS _ => ?_)
  exact m_iretX hC hr hlk hw hS (by decide) (by decide) dX8_flue_83 hF
set_option maxHeartbeats 4000000 in
set_option maxRecDepth 100000 in
theorem c_X8_layer (l : Launch) (G : GG) (n : Nat) (hn : 244 ≤ n) (hn2 : 0 ≤ n) (hfl : l.stackTraces = false) (x0 : Int32) (C : Mem) (rR : Rs) (CR : Mem) (hF : F_X8_layer x0 C = some (rR, CR)) : CtX l yX8_layer cX8_layer 2 (some .int) (rmX 6 86 1 6) 1 6 G n C [.ref (bb G + 0), .int x0] (fun v => some (.int v)) rR CR := by
  refine CtX.of (by decide) (Nat.le_of_ble_eq_true rfl) ?_
  intro p e s m below meth c ls hC hr hlk ht hw hl
  have hx := hC.1
  have hb := hC.2.1
  have hS : LW G s s.heap [] := va_S.rf
  have hl : lv_has ls 2 [(0, .ref (bb G + 0)), (1, .int x0)] := hl
  unfold F_X8_layer at hF
  refine lv_iload_n hx hb dX8_layer_0 rfl (lv_at hl 1 rfl) ?_
  refine lv_if_lt (tgt := 18) hx hb dX8_layer_1 (by decide) (fun h1 => ?_) (fun h1 => ?_)
  · have hF := it_t h1 hF
    exact m_throwS hC hfl hlk ht hw hS xat_3 (by decide +kernel : (187, "there is no such layer") ∈ strs) hl.1 dX8_layer_18 dX8_layer_21 dX8_layer_22 dX8_layer_24 dX8_layer_27 (by decide) (by decide) (by decide) (by decide) (by decide) (by decide) hF
  · have hF := it_f h1 hF
    refine lv_iload_n hx hb dX8_layer_4 rfl (lv_at hl 1 rfl) ?_
    refine lv_aload_n hx hb dX8_layer_5 rfl (lv_at hl 0 rfl) ?_
    refine gX8_19 hC hw (by omega)  dX8_layer_6 ?_
    refine gX8_86 hC hw (by omega) (show 0 < 18 by decide) dX8_layer_9 ?_
    refine gX8_90 hC hw (by omega) (show 0 < 18 by decide) dX8_layer_12 ?_
    refine lv_icmp_lt (tgt := 28) hx hb dX8_layer_15 (by decide) (fun h2 => ?_) (fun h2 => ?_)
    · have hF := it_t h2 hF
      refine lv_aload_n hx hb dX8_layer_28 rfl (lv_at hl 0 rfl) ?_
      refine gX8_19 hC hw (by omega)  dX8_layer_29 ?_
      refine gX8_86 hC hw (by omega) (show 0 < 18 by decide) dX8_layer_32 ?_
      refine gX8_190 hC hw (by omega) (show 0 < 18 by decide) dX8_layer_35 ?_
      refine lv_iload_n hx hb dX8_layer_38 rfl (lv_at hl 1 rfl) ?_
      obtain ⟨g3, hF⟩ := gi_t hF
      refine ld_temps hC hw (by omega) (show 0 < 18 by decide) g3 dX8_layer_39 ?_
      exact m_iretX hC hr hlk hw hS (by decide) (by decide) dX8_layer_40 hF
    · have hF := it_f h2 hF
      exact m_throwS hC hfl hlk ht hw hS xat_3 (by decide +kernel : (187, "there is no such layer") ∈ strs) hl.1 dX8_layer_18 dX8_layer_21 dX8_layer_22 dX8_layer_24 dX8_layer_27 (by decide) (by decide) (by decide) (by decide) (by decide) (by decide) hF
set_option maxHeartbeats 4000000 in
set_option maxRecDepth 100000 in
theorem c_X8_account (l : Launch) (G : GG) (n : Nat) (hn : 244 ≤ n) (hn2 : 0 ≤ n) (hfl : l.stackTraces = false) (x0 : Int32) (C : Mem) (rR : Rs) (CR : Mem) (hF : F_X8_account x0 C = some (rR, CR)) : CtX l yX8_account cX8_account 2 (some .int) (rmX 7 108 1 6) 1 6 G n C [.ref (bb G + 0), .int x0] (fun v => some (.int v)) rR CR := by
  refine CtX.of (by decide) (Nat.le_of_ble_eq_true rfl) ?_
  intro p e s m below meth c ls hC hr hlk ht hw hl
  have hx := hC.1
  have hb := hC.2.1
  have hS : LW G s s.heap [] := va_S.rf
  have hl : lv_has ls 2 [(0, .ref (bb G + 0)), (1, .int x0)] := hl
  unfold F_X8_account at hF
  refine lv_iload_n hx hb dX8_account_0 rfl (lv_at hl 1 rfl) ?_
  refine lv_iconst (v := 0) hx hb dX8_account_1 (by decide) ?_
  refine lv_iconst (v := 5) hx hb dX8_account_2 (by decide) ?_
  obtain ⟨r1, C2, hc3, hF⟩ := b2_t hF
  refine call_SXv hC (c_X8_requireWithin l G n (by omega) hn2 hfl x0 (0 : Int32) (5 : Int32) _ _ _ hc3) wsX8_47 ⟨rfl, rfl, by decide, by decide⟩ hw hS hl.1 rfl (rest := []) rfl (Nat.le_of_ble_eq_true rfl) dX8_account_3 ⟨by decide, by decide⟩ (fun k ce q9 H locs h5 b1 b2 hw hS hce hcv hcl => m_out hC hlk ht hw hS b1 b2 hce hcv hcl (by decide) (by decide) (se_x h5 hF)) (fun v4 H locs h5 hw hS => ?_)
  have hF := se_l h5 hF
  refine lv_iload_n hx hb dX8_account_6 rfl (lv_at hl 1 rfl) ?_
  by_cases h6 : x0 = (0 : Int32)
  · have hF := it_t h6 hF
    refine lv_tableIn (tgt := 40) (off := 33) hx hb dX8_account_7 (by rw [h6]; decide) (by rw [h6]; decide) (by rw [h6]; rfl) (by decide) ?_
    refine lv_aload_n hx hb dX8_account_40 rfl (lv_at hl 0 rfl) ?_
    refine gX8_19 hC hw (by omega)  dX8_account_41 ?_
    refine gX8_86 hC hw (by omega) (show 0 < 18 by decide) dX8_account_44 ?_
    refine gX8_193 hC hw (by omega) (show 0 < 18 by decide) dX8_account_47 ?_
    exact m_iretX hC hr hlk hw hS (by decide) (by decide) dX8_account_50 hF
  have hF := it_f h6 hF
  by_cases h7 : x0 = (1 : Int32)
  · have hF := it_t h7 hF
    refine lv_tableIn (tgt := 51) (off := 44) hx hb dX8_account_7 (by rw [h7]; decide) (by rw [h7]; decide) (by rw [h7]; rfl) (by decide) ?_
    refine lv_aload_n hx hb dX8_account_51 rfl (lv_at hl 0 rfl) ?_
    refine gX8_19 hC hw (by omega)  dX8_account_52 ?_
    refine gX8_86 hC hw (by omega) (show 0 < 18 by decide) dX8_account_55 ?_
    refine gX8_196 hC hw (by omega) (show 0 < 18 by decide) dX8_account_58 ?_
    exact m_iretX hC hr hlk hw hS (by decide) (by decide) dX8_account_61 hF
  have hF := it_f h7 hF
  by_cases h8 : x0 = (2 : Int32)
  · have hF := it_t h8 hF
    refine lv_tableIn (tgt := 62) (off := 55) hx hb dX8_account_7 (by rw [h8]; decide) (by rw [h8]; decide) (by rw [h8]; rfl) (by decide) ?_
    refine lv_aload_n hx hb dX8_account_62 rfl (lv_at hl 0 rfl) ?_
    refine gX8_19 hC hw (by omega)  dX8_account_63 ?_
    refine gX8_86 hC hw (by omega) (show 0 < 18 by decide) dX8_account_66 ?_
    refine gX8_199 hC hw (by omega) (show 0 < 18 by decide) dX8_account_69 ?_
    exact m_iretX hC hr hlk hw hS (by decide) (by decide) dX8_account_72 hF
  have hF := it_f h8 hF
  by_cases h9 : x0 = (3 : Int32)
  · have hF := it_t h9 hF
    refine lv_tableIn (tgt := 73) (off := 66) hx hb dX8_account_7 (by rw [h9]; decide) (by rw [h9]; decide) (by rw [h9]; rfl) (by decide) ?_
    refine lv_aload_n hx hb dX8_account_73 rfl (lv_at hl 0 rfl) ?_
    refine gX8_19 hC hw (by omega)  dX8_account_74 ?_
    refine gX8_86 hC hw (by omega) (show 0 < 18 by decide) dX8_account_77 ?_
    refine gX8_202 hC hw (by omega) (show 0 < 18 by decide) dX8_account_80 ?_
    exact m_iretX hC hr hlk hw hS (by decide) (by decide) dX8_account_83 hF
  have hF := it_f h9 hF
  by_cases h10 : x0 = (4 : Int32)
  · have hF := it_t h10 hF
    refine lv_tableIn (tgt := 84) (off := 77) hx hb dX8_account_7 (by rw [h10]; decide) (by rw [h10]; decide) (by rw [h10]; rfl) (by decide) ?_
    refine lv_aload_n hx hb dX8_account_84 rfl (lv_at hl 0 rfl) ?_
    refine gX8_19 hC hw (by omega)  dX8_account_85 ?_
    obtain ⟨r11, C12, hc13, hF⟩ := b2_t hF
    refine call_Vi hC (c_X5_fuel l G n (by omega) hn2 0 (show 0 < 18 by decide) _ _ _ hc13) wvX8_205 ⟨rfl, rfl, by decide, by decide⟩ hw hS (by have := po_lt (show 0 < 18 by decide); omega) (ca_plant (show 0 < 18 by decide)) rfl hl.1 rfl (rest := []) rfl (Nat.le_of_ble_eq_true rfl) dX8_account_88 ⟨by decide, by decide⟩ (fun H locs hw hS _ => ?_)
    exact m_iretX hC hr hlk hw hS (by decide) (by decide) dX8_account_91 hF
  have hF := it_f h10 hF
  refine lv_tableOut (tgt := 92) hx hb dX8_account_7 (sw_out (fun k ka kb kc => by (have kd : k = 0 ∨ k = 1 ∨ k = 2 ∨ k = 3 ∨ k = 4 := by omega); exact kd.elim (fun kd => by subst kd; exact lv_neT h6 (by decide) kc) (fun kd => kd.elim (fun kd => by subst kd; exact lv_neT h7 (by decide) kc) (fun kd => kd.elim (fun kd => by subst kd; exact lv_neT h8 (by decide) kc) (fun kd => kd.elim (fun kd => by subst kd; exact lv_neT h9 (by decide) kc) (fun kd => (by subst kd; exact lv_neT h10 (by decide) kc))))))) (by decide) ?_
  refine lv_aload_n hx hb dX8_account_92 rfl (lv_at hl 0 rfl) ?_
  refine gX8_19 hC hw (by omega)  dX8_account_93 ?_
  refine gX8_86 hC hw (by omega) (show 0 < 18 by decide) dX8_account_96 ?_
  refine gX8_207 hC hw (by omega) (show 0 < 18 by decide) dX8_account_99 ?_
  exact m_iretX hC hr hlk hw hS (by decide) (by decide) dX8_account_102 hF
set_option maxHeartbeats 4000000 in
set_option maxRecDepth 100000 in
theorem c_X8_requireTicks (l : Launch) (G : GG) (n : Nat) (hn : 244 ≤ n) (hn2 : 0 ≤ n) (hfl : l.stackTraces = false) (x0 : Int32) (x1 : Int32) (C : Mem) (rR : Rs) (CR : Mem) (hF : F_X8_requireTicks x0 x1 C = some (rR, CR)) : CtX l yX8_requireTicks cX8_requireTicks 2 none (rmX 7 108 2 12) 2 12 G n C [.int x0, .int x1] (fun _ => none) rR CR := by
  refine CtX.of (by decide) (Nat.le_of_ble_eq_true rfl) ?_
  intro p e s m below meth c ls hC hr hlk ht hw hl
  have hx := hC.1
  have hb := hC.2.1
  have hS : LW G s s.heap [] := va_S.rf
  have hl : lv_has ls 2 [(0, .int x0), (1, .int x1)] := hl
  unfold F_X8_requireTicks at hF
  refine lv_iload_n hx hb dX8_requireTicks_0 rfl (lv_at hl 0 rfl) ?_
  refine lv_iconst (v := 1) hx hb dX8_requireTicks_1 (by decide) ?_
  refine lv_bipush (v := 96) hx hb dX8_requireTicks_2 (by decide) ?_
  obtain ⟨r1, C2, hc3, hF⟩ := b2_t hF
  refine call_SXv hC (c_X8_requireWithin l G n (by omega) hn2 hfl x0 (1 : Int32) (96 : Int32) _ _ _ hc3) wsX8_47 ⟨rfl, rfl, by decide, by decide⟩ hw hS hl.1 rfl (rest := []) rfl (Nat.le_of_ble_eq_true rfl) dX8_requireTicks_4 ⟨by decide, by decide⟩ (fun k ce q9 H locs h5 b1 b2 hw hS hce hcv hcl => m_out hC hlk ht hw hS b1 b2 hce hcv hcl (by decide) (by decide) (se_x h5 hF)) (fun v4 H locs h5 hw hS => ?_)
  have hF := se_l h5 hF
  refine lv_iload_n hx hb dX8_requireTicks_7 rfl (lv_at hl 1 rfl) ?_
  refine lv_iconst (v := 0) hx hb dX8_requireTicks_8 (by decide) ?_
  refine lv_iconst (v := 5) hx hb dX8_requireTicks_9 (by decide) ?_
  obtain ⟨r6, C7, hc8, hF⟩ := b2_t hF
  refine call_SXv hC (c_X8_requireWithin l G n (by omega) hn2 hfl x1 (0 : Int32) (5 : Int32) _ _ _ hc8) wsX8_47 ⟨rfl, rfl, by decide, by decide⟩ hw hS hl.1 rfl (rest := []) rfl (Nat.le_of_ble_eq_true rfl) dX8_requireTicks_10 ⟨by decide, by decide⟩ (fun k ce q9 H locs h10 b1 b2 hw hS hce hcv hcl => m_out hC hlk ht hw hS b1 b2 hce hcv hcl (by decide) (by decide) (se_x h10 hF)) (fun v9 H locs h10 hw hS => ?_)
  have hF := se_l h10 hF
  exact m_vretX hC hr hlk hw hS (by decide) (by decide) dX8_requireTicks_13 hF
set_option maxHeartbeats 4000000 in
set_option maxRecDepth 100000 in
theorem c_X8_tick (l : Launch) (G : GG) (n : Nat) (hn : 244 ≤ n) (hn2 : 0 ≤ n) (hfl : l.stackTraces = false) (x0 : Int32) (x1 : Int32) (C : Mem) (rR : Rs) (CR : Mem) (hF : F_X8_tick x0 x1 C = some (rR, CR)) : CtX l yX8_tick cX8_tick 3 (some .int) (rmX 8 129 2 12) 2 12 G n C [.ref (bb G + 0), .int x0, .int x1] (fun v => some (.int v)) rR CR := by
  refine CtX.of (by decide) (Nat.le_of_ble_eq_true rfl) ?_
  intro p e s m below meth c ls hC hr hlk ht hw hl
  have hx := hC.1
  have hb := hC.2.1
  have hS : LW G s s.heap [] := va_S.rf
  have hl : lv_has ls 3 [(0, .ref (bb G + 0)), (1, .int x0), (2, .int x1)] := hl
  unfold F_X8_tick at hF
  refine lv_iload_n hx hb dX8_tick_0 rfl (lv_at hl 1 rfl) ?_
  refine lv_iload_n hx hb dX8_tick_1 rfl (lv_at hl 2 rfl) ?_
  obtain ⟨r1, C2, hc3, hF⟩ := b2_t hF
  refine call_SXv hC (c_X8_requireTicks l G n (by omega) hn2 hfl x0 x1 _ _ _ hc3) wsX8_210 ⟨rfl, rfl, by decide, by decide⟩ hw hS hl.1 rfl (rest := []) rfl (Nat.le_of_ble_eq_true rfl) dX8_tick_2 ⟨by decide, by decide⟩ (fun k ce q9 H locs h5 b1 b2 hw hS hce hcv hcl => m_out hC hlk ht hw hS b1 b2 hce hcv hcl (by decide) (by decide) (se_x h5 hF)) (fun v4 H locs h5 hw hS => ?_)
  have hF := se_l h5 hF
  refine lv_aload_n hx hb dX8_tick_5 rfl (lv_at hl 0 rfl) ?_
  refine gX8_29 hC hw (by omega)  dX8_tick_6 ?_
  refine lv_aload_n hx hb dX8_tick_9 rfl (lv_at hl 0 rfl) ?_
  refine gX8_19 hC hw (by omega)  dX8_tick_10 ?_
  obtain ⟨r6, C7, hc8, hF⟩ := b2_t hF
  refine call_Vv hC (c_X2_remember l G n (by omega) hn2 0 (show 0 < 18 by decide) _ _ _ hc8) wvX8_214 ⟨rfl, rfl, by decide, by decide⟩ hw hS (by omega) ca_hist rfl hl.1 rfl (rest := []) rfl (Nat.le_of_ble_eq_true rfl) dX8_tick_13 ⟨by decide, by decide⟩ (fun H locs hw hS _ => ?_)
  refine lv_aload_n hx hb dX8_tick_16 rfl (lv_at hl 0 rfl) ?_
  refine gX8_19 hC hw (by omega)  dX8_tick_17 ?_
  refine lv_iload_n hx hb dX8_tick_20 rfl (lv_at hl 1 rfl) ?_
  refine lv_iload_n hx hb dX8_tick_21 rfl (lv_at hl 2 rfl) ?_
  obtain ⟨r9, C10, hc11, hF⟩ := b2_t hF
  refine call_Vv hC (c_X5_passTicks l G n (by omega) hn2 0 (show 0 < 18 by decide) x0 x1 _ _ _ hc11) wvX8_218 ⟨rfl, rfl, by decide, by decide⟩ hw hS (by have := po_lt (show 0 < 18 by decide); omega) (ca_plant (show 0 < 18 by decide)) rfl hl.1 rfl (rest := []) rfl (Nat.le_of_ble_eq_true rfl) dX8_tick_22 ⟨by decide, by decide⟩ (fun H locs hw hS _ => ?_)
  refine lv_aload_n hx hb dX8_tick_25 rfl (lv_at hl 0 rfl) ?_
  refine gX8_19 hC hw (by omega)  dX8_tick_26 ?_
  refine gX8_86 hC hw (by omega) (show 0 < 18 by decide) dX8_tick_29 ?_
  obtain ⟨r12, C13, hc14, hF⟩ := b2_t hF
  refine call_Vi hC (c_X7_mean l G n (by omega) hn2 0 (show 0 < 18 by decide) _ _ _ hc14) wvX8_98 ⟨rfl, rfl, by decide, by decide⟩ hw hS (by have := po_lt (show 0 < 18 by decide); omega) (ca_tank (show 0 < 18 by decide)) rfl hl.1 rfl (rest := []) rfl (Nat.le_of_ble_eq_true rfl) dX8_tick_32 ⟨by decide, by decide⟩ (fun H locs hw hS _ => ?_)
  exact m_iretX hC hr hlk hw hS (by decide) (by decide) dX8_tick_35 hF
set_option maxHeartbeats 4000000 in
set_option maxRecDepth 100000 in
theorem c_X8_draw (l : Launch) (G : GG) (n : Nat) (hn : 244 ≤ n) (hn2 : 0 ≤ n) (hfl : l.stackTraces = false) (x0 : Int32) (C : Mem) (rR : Rs) (CR : Mem) (hF : F_X8_draw x0 C = some (rR, CR)) : CtX l yX8_draw cX8_draw 2 (some .int) (rmX 7 108 1 6) 1 6 G n C [.ref (bb G + 0), .int x0] (fun v => some (.int v)) rR CR := by
  refine CtX.of (by decide) (Nat.le_of_ble_eq_true rfl) ?_
  intro p e s m below meth c ls hC hr hlk ht hw hl
  have hx := hC.1
  have hb := hC.2.1
  have hS : LW G s s.heap [] := va_S.rf
  have hl : lv_has ls 2 [(0, .ref (bb G + 0)), (1, .int x0)] := hl
  unfold F_X8_draw at hF
  refine lv_iload_n hx hb dX8_draw_0 rfl (lv_at hl 1 rfl) ?_
  refine lv_iconst (v := 1) hx hb dX8_draw_1 (by decide) ?_
  refine lv_bipush (v := 20) hx hb dX8_draw_2 (by decide) ?_
  obtain ⟨r1, C2, hc3, hF⟩ := b2_t hF
  refine call_SXv hC (c_X8_requireWithin l G n (by omega) hn2 hfl x0 (1 : Int32) (20 : Int32) _ _ _ hc3) wsX8_47 ⟨rfl, rfl, by decide, by decide⟩ hw hS hl.1 rfl (rest := []) rfl (Nat.le_of_ble_eq_true rfl) dX8_draw_4 ⟨by decide, by decide⟩ (fun k ce q9 H locs h5 b1 b2 hw hS hce hcv hcl => m_out hC hlk ht hw hS b1 b2 hce hcv hcl (by decide) (by decide) (se_x h5 hF)) (fun v4 H locs h5 hw hS => ?_)
  have hF := se_l h5 hF
  refine lv_aload_n hx hb dX8_draw_7 rfl (lv_at hl 0 rfl) ?_
  refine gX8_29 hC hw (by omega)  dX8_draw_8 ?_
  refine lv_aload_n hx hb dX8_draw_11 rfl (lv_at hl 0 rfl) ?_
  refine gX8_19 hC hw (by omega)  dX8_draw_12 ?_
  obtain ⟨r6, C7, hc8, hF⟩ := b2_t hF
  refine call_Vv hC (c_X2_remember l G n (by omega) hn2 0 (show 0 < 18 by decide) _ _ _ hc8) wvX8_214 ⟨rfl, rfl, by decide, by decide⟩ hw hS (by omega) ca_hist rfl hl.1 rfl (rest := []) rfl (Nat.le_of_ble_eq_true rfl) dX8_draw_15 ⟨by decide, by decide⟩ (fun H locs hw hS _ => ?_)
  refine lv_aload_n hx hb dX8_draw_18 rfl (lv_at hl 0 rfl) ?_
  refine gX8_19 hC hw (by omega)  dX8_draw_19 ?_
  refine gX8_86 hC hw (by omega) (show 0 < 18 by decide) dX8_draw_22 ?_
  refine lv_iload_n hx hb dX8_draw_25 rfl (lv_at hl 1 rfl) ?_
  obtain ⟨r9, C10, hc11, hF⟩ := b2_t hF
  refine call_Vi hC (c_X7_deliver l G n (by omega) hn2 0 (show 0 < 18 by decide) x0 _ _ _ hc11) wvX8_221 ⟨rfl, rfl, by decide, by decide⟩ hw hS (by have := po_lt (show 0 < 18 by decide); omega) (ca_tank (show 0 < 18 by decide)) rfl hl.1 rfl (rest := []) rfl (Nat.le_of_ble_eq_true rfl) dX8_draw_26 ⟨by decide, by decide⟩ (fun H locs hw hS _ => ?_)
  exact m_iretX hC hr hlk hw hS (by decide) (by decide) dX8_draw_29 hF
set_option maxHeartbeats 4000000 in
set_option maxRecDepth 100000 in
theorem c_X8_isSetting (l : Launch) (G : GG) (n : Nat) (hn : 244 ≤ n) (hn2 : 0 ≤ n) (x0 : Int32) (x1 : Int32) (C : Mem) (rR : Int32) (CR : Mem) (hF : F_X8_isSetting x0 x1 C = some (rR, CR)) : Ct l yX8_isSetting cX8_isSetting 2 (some .boolean) (rmN 0 0) G n C [.int x0, .int x1] (some (.int rR)) CR := by
  refine Ct.of (by decide) (Nat.le_of_ble_eq_true rfl) ?_
  intro p e s m below meth c ls hC hr hlk hw hl
  have hx := hC.1
  have hb := hC.2.1
  have hS : LW G s s.heap [] := va_S.rf
  have hl : lv_has ls 2 [(0, .int x0), (1, .int x1)] := hl
  unfold F_X8_isSetting at hF
  refine lv_iload_n hx hb dX8_isSetting_0 rfl (lv_at hl 0 rfl) ?_
  refine lv_if_lt (tgt := 32) hx hb dX8_isSetting_1 (by decide) (fun h1 => ?_) (fun h1 => ?_)
  · have hF := it_t h1 hF
    refine lv_iconst (v := 0) hx hb dX8_isSetting_32 (by decide) ?_
    exact m_zret hC hr hlk hw hS dX8_isSetting_33 (by decide) hF
  · have hF := it_f h1 hF
    refine lv_iload_n hx hb dX8_isSetting_4 rfl (lv_at hl 0 rfl) ?_
    refine lv_bipush (v := 6) hx hb dX8_isSetting_5 (by decide) ?_
    refine lv_icmp_ge (tgt := 32) hx hb dX8_isSetting_7 (by decide) (fun h2 => ?_) (fun h2 => ?_)
    · have hF := it_t h2 hF
      refine lv_iconst (v := 0) hx hb dX8_isSetting_32 (by decide) ?_
      exact m_zret hC hr hlk hw hS dX8_isSetting_33 (by decide) hF
    · have hF := it_f h2 hF
      refine lv_iload_n hx hb dX8_isSetting_10 rfl (lv_at hl 1 rfl) ?_
      refine m_gets hC hS hC.2.2.2.2.2.1.2.1.1 (lg 769 (by decide +kernel) rfl) dX8_isSetting_11 ?_
      refine lv_iload_n hx hb dX8_isSetting_14 rfl (lv_at hl 0 rfl) ?_
      obtain ⟨g3, hF⟩ := gi_t hF
      refine m_sald hC hS hC.2.2.2.2.2.1.2.1.2 g3 dX8_isSetting_15 ?_
      refine lv_icmp_lt (tgt := 32) hx hb dX8_isSetting_16 (by decide) (fun h4 => ?_) (fun h4 => ?_)
      · have hF := it_t h4 hF
        refine lv_iconst (v := 0) hx hb dX8_isSetting_32 (by decide) ?_
        exact m_zret hC hr hlk hw hS dX8_isSetting_33 (by decide) hF
      · have hF := it_f h4 hF
        refine lv_iload_n hx hb dX8_isSetting_19 rfl (lv_at hl 1 rfl) ?_
        refine m_gets hC hS hC.2.2.2.2.2.1.2.2.1.1 (lg 771 (by decide +kernel) rfl) dX8_isSetting_20 ?_
        refine lv_iload_n hx hb dX8_isSetting_23 rfl (lv_at hl 0 rfl) ?_
        obtain ⟨g5, hF⟩ := gi_t hF
        refine m_sald hC hS hC.2.2.2.2.2.1.2.2.1.2 g5 dX8_isSetting_24 ?_
        refine lv_icmp_gt (tgt := 32) hx hb dX8_isSetting_25 (by decide) (fun h6 => ?_) (fun h6 => ?_)
        · have hF := it_t h6 hF
          refine lv_iconst (v := 0) hx hb dX8_isSetting_32 (by decide) ?_
          exact m_zret hC hr hlk hw hS dX8_isSetting_33 (by decide) hF
        · have hF := it_f h6 hF
          refine lv_iconst (v := 1) hx hb dX8_isSetting_28 (by decide) ?_
          refine lv_goto (tgt := 33) hx hb dX8_isSetting_29 (by decide) ?_
          exact m_zret hC hr hlk hw hS dX8_isSetting_33 (by decide) hF
set_option maxHeartbeats 4000000 in
set_option maxRecDepth 100000 in
theorem c_X8_set (l : Launch) (G : GG) (n : Nat) (hn : 244 ≤ n) (hn2 : 0 ≤ n) (hfl : l.stackTraces = false) (x0 : Int32) (x1 : Int32) (C : Mem) (rR : Rs) (CR : Mem) (hF : F_X8_set x0 x1 C = some (rR, CR)) : CtX l yX8_set cX8_set 4 (some .int) (rmX 6 86 1 6) 1 6 G n C [.ref (bb G + 0), .int x0, .int x1] (fun v => some (.int v)) rR CR := by
  refine CtX.of (by decide) (Nat.le_of_ble_eq_true rfl) ?_
  intro p e s m below meth c ls hC hr hlk ht hw hl
  have hx := hC.1
  have hb := hC.2.1
  have hS : LW G s s.heap [] := va_S.rf
  have hl : lv_has ls 4 [(0, .ref (bb G + 0)), (1, .int x0), (2, .int x1)] := hl
  unfold F_X8_set at hF
  refine lv_iload_n hx hb dX8_set_0 rfl (lv_at hl 1 rfl) ?_
  refine lv_iload_n hx hb dX8_set_1 rfl (lv_at hl 2 rfl) ?_
  obtain ⟨r1, C2, hc3, hF⟩ := b2_t hF
  refine call_Si hC (c_X8_isSetting l G n (by omega) hn2 x0 x1 _ _ _ hc3) wsX8_224 ⟨rfl, rfl, by decide, by decide⟩ hw hS hl.1 rfl (rest := []) rfl (Nat.le_of_ble_eq_true rfl) dX8_set_2 ⟨by decide, by decide⟩ (fun H locs hw hS _ => ?_)
  refine lv_if_ne (tgt := 18) hx hb dX8_set_5 (by decide) (fun h4 => ?_) (fun h4 => ?_)
  · have hF := it_f h4 hF
    refine lv_aload_n hx hb dX8_set_18 rfl (lv_at hl 0 rfl) ?_
    refine gX8_29 hC hw (by omega)  dX8_set_19 ?_
    refine lv_aload_n hx hb dX8_set_22 rfl (lv_at hl 0 rfl) ?_
    refine gX8_19 hC hw (by omega)  dX8_set_23 ?_
    obtain ⟨r5, C6, hc7, hF⟩ := b2_t hF
    refine call_Vv hC (c_X2_remember l G n (by omega) hn2 0 (show 0 < 18 by decide) _ _ _ hc7) wvX8_214 ⟨rfl, rfl, by decide, by decide⟩ hw hS (by omega) ca_hist rfl hl.1 rfl (rest := []) rfl (Nat.le_of_ble_eq_true rfl) dX8_set_26 ⟨by decide, by decide⟩ (fun H locs hw hS _ => ?_)
    refine lv_aload_n hx hb dX8_set_29 rfl (lv_at hl 0 rfl) ?_
    refine gX8_19 hC hw (by omega)  dX8_set_30 ?_
    refine gX8_82 hC hw (by omega) (show 0 < 18 by decide) dX8_set_33 ?_
    refine lv_iload_n hx hb dX8_set_36 rfl (lv_at hl 1 rfl) ?_
    obtain ⟨g8, hF⟩ := gi_t hF
    refine ld_sett hC hw (by omega) (show 0 < 18 by decide) g8 dX8_set_37 ?_
    obtain ⟨v9, ev9, hF⟩ := nm_t hF
    refine lv_nmi ev9 ?_
    refine lv_istore_n (lv' := [(3, .int v9), (0, .ref (bb G + 0)), (1, .int x0), (2, .int x1)]) hx hb dX8_set_38 rfl hl (by decide) rfl (fun ls hl => ?_)
    refine lv_aload_n hx hb dX8_set_39 rfl (lv_at hl 1 rfl) ?_
    refine gX8_19 hC hw (by omega)  dX8_set_40 ?_
    refine gX8_82 hC hw (by omega) (show 0 < 18 by decide) dX8_set_43 ?_
    refine lv_iload_n hx hb dX8_set_46 rfl (lv_at hl 2 rfl) ?_
    refine lv_iload_n hx hb dX8_set_47 rfl (lv_at hl 3 rfl) ?_
    obtain ⟨g10, hF⟩ := gi_t hF
    refine st_sett hC hw hS (by omega) (show 0 < 18 by decide) g10 dX8_set_48 (fun H locs hw hS _ => ?_)
    obtain ⟨C11, eC11, hF⟩ := nm_t hF
    have hw := Wd.cast eC11 hw
    refine lv_iload_n hx hb dX8_set_49 rfl (lv_at hl 0 rfl) ?_
    exact m_iretX hC hr hlk hw hS (by decide) (by decide) dX8_set_50 hF
  · have hF := it_t h4 hF
    exact m_throwS hC hfl hlk ht hw hS xat_1 (by decide +kernel : (230, "no such setting, or not in its range") ∈ strs) hl.1 dX8_set_8 dX8_set_11 dX8_set_12 dX8_set_14 dX8_set_17 (by decide) (by decide) (by decide) (by decide) (by decide) (by decide) hF
set_option maxHeartbeats 4000000 in
set_option maxRecDepth 100000 in
theorem c_X8_setFlue (l : Launch) (G : GG) (n : Nat) (hn : 244 ≤ n) (hn2 : 0 ≤ n) (hfl : l.stackTraces = false) (x0 : Int32) (x1 : Int32) (C : Mem) (rR : Rs) (CR : Mem) (hF : F_X8_setFlue x0 x1 C = some (rR, CR)) : CtX l yX8_setFlue cX8_setFlue 3 (some .int) (rmX 7 106 1 6) 1 6 G n C [.ref (bb G + 0), .int x0, .int x1] (fun v => some (.int v)) rR CR := by
  refine CtX.of (by decide) (Nat.le_of_ble_eq_true rfl) ?_
  intro p e s m below meth c ls hC hr hlk ht hw hl
  have hx := hC.1
  have hb := hC.2.1
  have hS : LW G s s.heap [] := va_S.rf
  have hl : lv_has ls 3 [(0, .ref (bb G + 0)), (1, .int x0), (2, .int x1)] := hl
  unfold F_X8_setFlue at hF
  refine lv_iload_n hx hb dX8_setFlue_0 rfl (lv_at hl 1 rfl) ?_
  obtain ⟨r1, C2, hc3, hF⟩ := b2_t hF
  refine call_SXv hC (c_X8_requireFlue l G n (by omega) hn2 hfl x0 _ _ _ hc3) wsX8_164 ⟨rfl, rfl, by decide, by decide⟩ hw hS hl.1 rfl (rest := []) rfl (Nat.le_of_ble_eq_true rfl) dX8_setFlue_1 ⟨by decide, by decide⟩ (fun k ce q9 H locs h5 b1 b2 hw hS hce hcv hcl => m_out hC hlk ht hw hS b1 b2 hce hcv hcl (by decide) (by decide) (se_x h5 hF)) (fun v4 H locs h5 hw hS => ?_)
  have hF := se_l h5 hF
  refine lv_aload_n hx hb dX8_setFlue_4 rfl (lv_at hl 0 rfl) ?_
  refine gX8_29 hC hw (by omega)  dX8_setFlue_5 ?_
  refine lv_aload_n hx hb dX8_setFlue_8 rfl (lv_at hl 0 rfl) ?_
  refine gX8_19 hC hw (by omega)  dX8_setFlue_9 ?_
  obtain ⟨r6, C7, hc8, hF⟩ := b2_t hF
  refine call_Vv hC (c_X2_remember l G n (by omega) hn2 0 (show 0 < 18 by decide) _ _ _ hc8) wvX8_214 ⟨rfl, rfl, by decide, by decide⟩ hw hS (by omega) ca_hist rfl hl.1 rfl (rest := []) rfl (Nat.le_of_ble_eq_true rfl) dX8_setFlue_12 ⟨by decide, by decide⟩ (fun H locs hw hS _ => ?_)
  refine lv_aload_n hx hb dX8_setFlue_15 rfl (lv_at hl 0 rfl) ?_
  refine gX8_19 hC hw (by omega)  dX8_setFlue_16 ?_
  refine lv_iload_n hx hb dX8_setFlue_19 rfl (lv_at hl 1 rfl) ?_
  refine lv_iload_n hx hb dX8_setFlue_20 rfl (lv_at hl 2 rfl) ?_
  obtain ⟨r9, C10, hc11, hF⟩ := b2_t hF
  refine call_Vi hC (c_X5_moveFlue l G n (by omega) hn2 0 (show 0 < 18 by decide) x0 x1 _ _ _ hc11) wvX8_233 ⟨rfl, rfl, by decide, by decide⟩ hw hS (by have := po_lt (show 0 < 18 by decide); omega) (ca_plant (show 0 < 18 by decide)) rfl hl.1 rfl (rest := []) rfl (Nat.le_of_ble_eq_true rfl) dX8_setFlue_21 ⟨by decide, by decide⟩ (fun H locs hw hS _ => ?_)
  exact m_iretX hC hr hlk hw hS (by decide) (by decide) dX8_setFlue_24 hF
set_option maxHeartbeats 4000000 in
set_option maxRecDepth 100000 in
theorem c_X8_setDraft (l : Launch) (G : GG) (n : Nat) (hn : 244 ≤ n) (hn2 : 0 ≤ n) (hfl : l.stackTraces = false) (x0 : Int32) (x1 : Int32) (C : Mem) (rR : Rs) (CR : Mem) (hF : F_X8_setDraft x0 x1 C = some (rR, CR)) : CtX l yX8_setDraft cX8_setDraft 5 (some .int) (rmX 7 108 2 12) 2 12 G n C [.ref (bb G + 0), .int x0, .int x1] (fun v => some (.int v)) rR CR := by
  refine CtX.of (by decide) (Nat.le_of_ble_eq_true rfl) ?_
  intro p e s m below meth c ls hC hr hlk ht hw hl
  have hx := hC.1
  have hb := hC.2.1
  have hS : LW G s s.heap [] := va_S.rf
  have hl : lv_has ls 5 [(0, .ref (bb G + 0)), (1, .int x0), (2, .int x1)] := hl
  unfold F_X8_setDraft at hF
  refine lv_iload_n hx hb dX8_setDraft_0 rfl (lv_at hl 1 rfl) ?_
  obtain ⟨r1, C2, hc3, hF⟩ := b2_t hF
  refine call_SXv hC (c_X8_requireFlue l G n (by omega) hn2 hfl x0 _ _ _ hc3) wsX8_164 ⟨rfl, rfl, by decide, by decide⟩ hw hS hl.1 rfl (rest := []) rfl (Nat.le_of_ble_eq_true rfl) dX8_setDraft_1 ⟨by decide, by decide⟩ (fun k ce q9 H locs h5 b1 b2 hw hS hce hcv hcl => m_out hC hlk ht hw hS b1 b2 hce hcv hcl (by decide) (by decide) (se_x h5 hF)) (fun v4 H locs h5 hw hS => ?_)
  have hF := se_l h5 hF
  refine lv_iload_n hx hb dX8_setDraft_4 rfl (lv_at hl 2 rfl) ?_
  refine lv_iconst (v := 0) hx hb dX8_setDraft_5 (by decide) ?_
  refine lv_bipush (v := 99) hx hb dX8_setDraft_6 (by decide) ?_
  obtain ⟨r6, C7, hc8, hF⟩ := b2_t hF
  refine call_SXv hC (c_X8_requireWithin l G n (by omega) hn2 hfl x1 (0 : Int32) (99 : Int32) _ _ _ hc8) wsX8_47 ⟨rfl, rfl, by decide, by decide⟩ hw hS hl.1 rfl (rest := []) rfl (Nat.le_of_ble_eq_true rfl) dX8_setDraft_8 ⟨by decide, by decide⟩ (fun k ce q9 H locs h10 b1 b2 hw hS hce hcv hcl => m_out hC hlk ht hw hS b1 b2 hce hcv hcl (by decide) (by decide) (se_x h10 hF)) (fun v9 H locs h10 hw hS => ?_)
  have hF := se_l h10 hF
  refine lv_aload_n hx hb dX8_setDraft_11 rfl (lv_at hl 0 rfl) ?_
  refine gX8_29 hC hw (by omega)  dX8_setDraft_12 ?_
  refine lv_aload_n hx hb dX8_setDraft_15 rfl (lv_at hl 0 rfl) ?_
  refine gX8_19 hC hw (by omega)  dX8_setDraft_16 ?_
  obtain ⟨r11, C12, hc13, hF⟩ := b2_t hF
  refine call_Vv hC (c_X2_remember l G n (by omega) hn2 0 (show 0 < 18 by decide) _ _ _ hc13) wvX8_214 ⟨rfl, rfl, by decide, by decide⟩ hw hS (by omega) ca_hist rfl hl.1 rfl (rest := []) rfl (Nat.le_of_ble_eq_true rfl) dX8_setDraft_19 ⟨by decide, by decide⟩ (fun H locs hw hS _ => ?_)
  refine lv_aload_n hx hb dX8_setDraft_22 rfl (lv_at hl 0 rfl) ?_
  refine gX8_19 hC hw (by omega)  dX8_setDraft_23 ?_
  refine lv_iload_n hx hb dX8_setDraft_26 rfl (lv_at hl 1 rfl) ?_
  obtain ⟨r14, C15, hc16, hF⟩ := b2_t hF
  refine call_Vr hC (c_X5_flueOf l G n (by omega) hn2 0 (show 0 < 18 by decide) x0 _ _ _ hc16) wvX8_167 ⟨rfl, rfl, by decide, by decide⟩ hw hS (by have := po_lt (show 0 < 18 by decide); omega) (ca_plant (show 0 < 18 by decide)) rfl hl.1 rfl (rest := []) rfl (Nat.le_of_ble_eq_true rfl) dX8_setDraft_27 ⟨by decide, by decide⟩ (fun H locs hw hS _ => ?_)
  obtain ⟨g17, hF⟩ := gn_t hF
  refine lv_astore_n (lv' := [(3, .ref (bb G + (po 0 + (2 + r14)))), (0, .ref (bb G + 0)), (1, .int x0), (2, .int x1)]) hx hb dX8_setDraft_30 rfl hl (by decide) rfl (fun ls hl => ?_)
  refine lv_aload_n hx hb dX8_setDraft_31 rfl (lv_at hl 0 rfl) ?_
  refine gX8_171 hC hw (by omega) (show 0 < 18 by decide) g17 dX8_setDraft_32 ?_
  obtain ⟨v18, ev18, hF⟩ := nm_t hF
  refine lv_nmi ev18 ?_
  refine lv_istore (lv' := [(4, .int v18), (3, .ref (bb G + (po 0 + (2 + r14)))), (0, .ref (bb G + 0)), (1, .int x0), (2, .int x1)]) hx hb dX8_setDraft_35 hl (by decide) rfl (fun ls hl => ?_)
  refine lv_aload_n hx hb dX8_setDraft_37 rfl (lv_at hl 1 rfl) ?_
  refine lv_iload_n hx hb dX8_setDraft_38 rfl (lv_at hl 4 rfl) ?_
  refine pX8_171 hC hw hS (by omega) hn2 (show 0 < 18 by decide) g17 dX8_setDraft_39 (fun H locs hw hS _ => ?_)
  obtain ⟨C19, eC19, hF⟩ := nm_t hF
  have hw := Wd.cast eC19 hw
  refine lv_iload hx hb dX8_setDraft_42 (lv_at hl 0 rfl) ?_
  exact m_iretX hC hr hlk hw hS (by decide) (by decide) dX8_setDraft_44 hF
set_option maxHeartbeats 4000000 in
set_option maxRecDepth 100000 in
theorem c_X8_lock (l : Launch) (G : GG) (n : Nat) (hn : 244 ≤ n) (hn2 : 0 ≤ n) (hfl : l.stackTraces = false) (x0 : Int32) (C : Mem) (rR : Rs) (CR : Mem) (hF : F_X8_lock x0 C = some (rR, CR)) : CtX l yX8_lock cX8_lock 3 (some .int) (rmX 7 107 2 12) 2 12 G n C [.ref (bb G + 0), .int x0] (fun v => some (.int v)) rR CR := by
  refine CtX.of (by decide) (Nat.le_of_ble_eq_true rfl) ?_
  intro p e s m below meth c ls hC hr hlk ht hw hl
  have hx := hC.1
  have hb := hC.2.1
  have hS : LW G s s.heap [] := va_S.rf
  have hl : lv_has ls 3 [(0, .ref (bb G + 0)), (1, .int x0)] := hl
  unfold F_X8_lock at hF
  refine lv_aload_n hx hb dX8_lock_0 rfl (lv_at hl 0 rfl) ?_
  refine lv_iload_n hx hb dX8_lock_1 rfl (lv_at hl 1 rfl) ?_
  obtain ⟨r1, C2, hc3, hF⟩ := b2_t hF
  refine call_VXv hC (c_X8_requireBoiler l G n (by omega) hn2 hfl x0 _ _ _ hc3) wvX8_129 ⟨rfl, rfl, by decide, by decide⟩ hw hS (by omega) ca_casc rfl hl.1 rfl (rest := []) rfl (Nat.le_of_ble_eq_true rfl) dX8_lock_2 ⟨by decide, by decide⟩ (fun k ce q9 H locs h5 b1 b2 hw hS hce hcv hcl => m_out hC hlk ht hw hS b1 b2 hce hcv hcl (by decide) (by decide) (se_x h5 hF)) (fun v4 H locs h5 hw hS => ?_)
  have hF := se_l h5 hF
  refine lv_aload_n hx hb dX8_lock_5 rfl (lv_at hl 0 rfl) ?_
  refine gX8_19 hC hw (by omega)  dX8_lock_6 ?_
  refine gX8_133 hC hw (by omega) (show 0 < 18 by decide) dX8_lock_9 ?_
  refine lv_iload_n hx hb dX8_lock_12 rfl (lv_at hl 1 rfl) ?_
  obtain ⟨g6, hF⟩ := gi_t hF
  refine ld_barr hC hw (by omega) (show 0 < 18 by decide) g6 dX8_lock_13 ?_
  refine gX8_145 hC hw (by omega) (show 0 < 18 by decide) (vp_lt g6) dX8_lock_14 ?_
  obtain ⟨v7, ev7, hF⟩ := nm_t hF
  refine lv_nmi ev7 ?_
  refine lv_istore_n (lv' := [(2, .int v7), (0, .ref (bb G + 0)), (1, .int x0)]) hx hb dX8_lock_17 rfl hl (by decide) rfl (fun ls hl => ?_)
  refine lv_iload_n hx hb dX8_lock_18 rfl (lv_at hl 0 rfl) ?_
  refine lv_iconst (v := 4) hx hb dX8_lock_19 (by decide) ?_
  refine lv_icmp_ne (tgt := 33) hx hb dX8_lock_20 (by decide) (fun h8 => ?_) (fun h8 => ?_)
  · have hF := it_f h8 hF
    refine lv_aload_n hx hb dX8_lock_33 rfl (lv_at hl 1 rfl) ?_
    refine gX8_29 hC hw (by omega)  dX8_lock_34 ?_
    refine lv_aload_n hx hb dX8_lock_37 rfl (lv_at hl 1 rfl) ?_
    refine gX8_19 hC hw (by omega)  dX8_lock_38 ?_
    obtain ⟨r9, C10, hc11, hF⟩ := b2_t hF
    refine call_Vv hC (c_X2_remember l G n (by omega) hn2 0 (show 0 < 18 by decide) _ _ _ hc11) wvX8_214 ⟨rfl, rfl, by decide, by decide⟩ hw hS (by omega) ca_hist rfl hl.1 rfl (rest := []) rfl (Nat.le_of_ble_eq_true rfl) dX8_lock_41 ⟨by decide, by decide⟩ (fun H locs hw hS _ => ?_)
    refine lv_aload_n hx hb dX8_lock_44 rfl (lv_at hl 1 rfl) ?_
    refine gX8_19 hC hw (by omega)  dX8_lock_45 ?_
    refine gX8_133 hC hw (by omega) (show 0 < 18 by decide) dX8_lock_48 ?_
    refine lv_iload_n hx hb dX8_lock_51 rfl (lv_at hl 2 rfl) ?_
    obtain ⟨g12, hF⟩ := gi_t hF
    refine ld_barr hC hw (by omega) (show 0 < 18 by decide) g12 dX8_lock_52 ?_
    refine lv_iconst (v := 4) hx hb dX8_lock_53 (by decide) ?_
    obtain ⟨r13, C14, hc15, hF⟩ := b2_t hF
    refine call_Vv hC (c_X0_leaveFor l G n (by omega) hn2 0 (show 0 < 18 by decide) (x0).toNatClampNeg (vp_lt g12) (4 : Int32) _ _ _ hc15) wvX8_239 ⟨rfl, rfl, by decide, by decide⟩ hw hS (by have := po_lt (show 0 < 18 by decide); have := (vp_lt g12); omega) (ca_boiler (show 0 < 18 by decide) (vp_lt g12)) rfl hl.1 rfl (rest := []) rfl (Nat.le_of_ble_eq_true rfl) dX8_lock_54 ⟨by decide, by decide⟩ (fun H locs hw hS _ => ?_)
    refine lv_iload_n hx hb dX8_lock_57 rfl (lv_at hl 0 rfl) ?_
    exact m_iretX hC hr hlk hw hS (by decide) (by decide) dX8_lock_58 hF
  · have hF := it_t h8 hF
    exact m_throwS hC hfl hlk ht hw hS xat_2 (by decide +kernel : (237, "the boiler is locked already") ∈ strs) hl.1 dX8_lock_23 dX8_lock_26 dX8_lock_27 dX8_lock_29 dX8_lock_32 (by decide) (by decide) (by decide) (by decide) (by decide) (by decide) hF
set_option maxHeartbeats 4000000 in
set_option maxRecDepth 100000 in
theorem c_X8_unlock (l : Launch) (G : GG) (n : Nat) (hn : 244 ≤ n) (hn2 : 0 ≤ n) (hfl : l.stackTraces = false) (x0 : Int32) (C : Mem) (rR : Rs) (CR : Mem) (hF : F_X8_unlock x0 C = some (rR, CR)) : CtX l yX8_unlock cX8_unlock 2 (some .int) (rmX 7 107 2 12) 2 12 G n C [.ref (bb G + 0), .int x0] (fun v => some (.int v)) rR CR := by
  refine CtX.of (by decide) (Nat.le_of_ble_eq_true rfl) ?_
  intro p e s m below meth c ls hC hr hlk ht hw hl
  have hx := hC.1
  have hb := hC.2.1
  have hS : LW G s s.heap [] := va_S.rf
  have hl : lv_has ls 2 [(0, .ref (bb G + 0)), (1, .int x0)] := hl
  unfold F_X8_unlock at hF
  refine lv_aload_n hx hb dX8_unlock_0 rfl (lv_at hl 0 rfl) ?_
  refine lv_iload_n hx hb dX8_unlock_1 rfl (lv_at hl 1 rfl) ?_
  obtain ⟨r1, C2, hc3, hF⟩ := b2_t hF
  refine call_VXv hC (c_X8_requireBoiler l G n (by omega) hn2 hfl x0 _ _ _ hc3) wvX8_129 ⟨rfl, rfl, by decide, by decide⟩ hw hS (by omega) ca_casc rfl hl.1 rfl (rest := []) rfl (Nat.le_of_ble_eq_true rfl) dX8_unlock_2 ⟨by decide, by decide⟩ (fun k ce q9 H locs h5 b1 b2 hw hS hce hcv hcl => m_out hC hlk ht hw hS b1 b2 hce hcv hcl (by decide) (by decide) (se_x h5 hF)) (fun v4 H locs h5 hw hS => ?_)
  have hF := se_l h5 hF
  refine lv_aload_n hx hb dX8_unlock_5 rfl (lv_at hl 0 rfl) ?_
  refine gX8_19 hC hw (by omega)  dX8_unlock_6 ?_
  refine gX8_133 hC hw (by omega) (show 0 < 18 by decide) dX8_unlock_9 ?_
  refine lv_iload_n hx hb dX8_unlock_12 rfl (lv_at hl 1 rfl) ?_
  obtain ⟨g6, hF⟩ := gi_t hF
  refine ld_barr hC hw (by omega) (show 0 < 18 by decide) g6 dX8_unlock_13 ?_
  refine gX8_145 hC hw (by omega) (show 0 < 18 by decide) (vp_lt g6) dX8_unlock_14 ?_
  refine lv_iconst (v := 4) hx hb dX8_unlock_17 (by decide) ?_
  refine lv_icmp_eq (tgt := 31) hx hb dX8_unlock_18 (by decide) (fun h7 => ?_) (fun h7 => ?_)
  · have hF := it_t h7 hF
    refine lv_aload_n hx hb dX8_unlock_31 rfl (lv_at hl 0 rfl) ?_
    refine gX8_29 hC hw (by omega)  dX8_unlock_32 ?_
    refine lv_aload_n hx hb dX8_unlock_35 rfl (lv_at hl 0 rfl) ?_
    refine gX8_19 hC hw (by omega)  dX8_unlock_36 ?_
    obtain ⟨r8, C9, hc10, hF⟩ := b2_t hF
    refine call_Vv hC (c_X2_remember l G n (by omega) hn2 0 (show 0 < 18 by decide) _ _ _ hc10) wvX8_214 ⟨rfl, rfl, by decide, by decide⟩ hw hS (by omega) ca_hist rfl hl.1 rfl (rest := []) rfl (Nat.le_of_ble_eq_true rfl) dX8_unlock_39 ⟨by decide, by decide⟩ (fun H locs hw hS _ => ?_)
    refine lv_aload_n hx hb dX8_unlock_42 rfl (lv_at hl 0 rfl) ?_
    refine gX8_19 hC hw (by omega)  dX8_unlock_43 ?_
    refine gX8_133 hC hw (by omega) (show 0 < 18 by decide) dX8_unlock_46 ?_
    refine lv_iload_n hx hb dX8_unlock_49 rfl (lv_at hl 1 rfl) ?_
    obtain ⟨g11, hF⟩ := gi_t hF
    refine ld_barr hC hw (by omega) (show 0 < 18 by decide) g11 dX8_unlock_50 ?_
    refine lv_iconst (v := 0) hx hb dX8_unlock_51 (by decide) ?_
    obtain ⟨r12, C13, hc14, hF⟩ := b2_t hF
    refine call_Vv hC (c_X0_leaveFor l G n (by omega) hn2 0 (show 0 < 18 by decide) (x0).toNatClampNeg (vp_lt g11) (0 : Int32) _ _ _ hc14) wvX8_239 ⟨rfl, rfl, by decide, by decide⟩ hw hS (by have := po_lt (show 0 < 18 by decide); have := (vp_lt g11); omega) (ca_boiler (show 0 < 18 by decide) (vp_lt g11)) rfl hl.1 rfl (rest := []) rfl (Nat.le_of_ble_eq_true rfl) dX8_unlock_52 ⟨by decide, by decide⟩ (fun H locs hw hS _ => ?_)
    refine lv_aload_n hx hb dX8_unlock_55 rfl (lv_at hl 0 rfl) ?_
    refine gX8_19 hC hw (by omega)  dX8_unlock_56 ?_
    refine lv_iconst (v := 4) hx hb dX8_unlock_59 (by decide) ?_
    obtain ⟨r15, C16, hc17, hF⟩ := b2_t hF
    refine call_Vi hC (c_X5_countInState l G n (by omega) hn2 0 (show 0 < 18 by decide) (4 : Int32) _ _ _ hc17) wvX8_125 ⟨rfl, rfl, by decide, by decide⟩ hw hS (by have := po_lt (show 0 < 18 by decide); omega) (ca_plant (show 0 < 18 by decide)) rfl hl.1 rfl (rest := []) rfl (Nat.le_of_ble_eq_true rfl) dX8_unlock_60 ⟨by decide, by decide⟩ (fun H locs hw hS _ => ?_)
    exact m_iretX hC hr hlk hw hS (by decide) (by decide) dX8_unlock_63 hF
  · have hF := it_f h7 hF
    exact m_throwS hC hfl hlk ht hw hS xat_2 (by decide +kernel : (242, "the boiler is not locked") ∈ strs) hl.1 dX8_unlock_21 dX8_unlock_24 dX8_unlock_25 dX8_unlock_27 dX8_unlock_30 (by decide) (by decide) (by decide) (by decide) (by decide) (by decide) hF
set_option maxHeartbeats 4000000 in
set_option maxRecDepth 100000 in
theorem c_X8_putOff (l : Launch) (G : GG) (n : Nat) (hn : 244 ≤ n) (hn2 : 0 ≤ n) (hfl : l.stackTraces = false) (x0 : Int32) (C : Mem) (rR : Rs) (CR : Mem) (hF : F_X8_putOff x0 C = some (rR, CR)) : CtX l yX8_putOff cX8_putOff 2 (some .int) (rmX 7 107 2 12) 2 12 G n C [.ref (bb G + 0), .int x0] (fun v => some (.int v)) rR CR := by
  refine CtX.of (by decide) (Nat.le_of_ble_eq_true rfl) ?_
  intro p e s m below meth c ls hC hr hlk ht hw hl
  have hx := hC.1
  have hb := hC.2.1
  have hS : LW G s s.heap [] := va_S.rf
  have hl : lv_has ls 2 [(0, .ref (bb G + 0)), (1, .int x0)] := hl
  unfold F_X8_putOff at hF
  refine lv_aload_n hx hb dX8_putOff_0 rfl (lv_at hl 0 rfl) ?_
  refine lv_iload_n hx hb dX8_putOff_1 rfl (lv_at hl 1 rfl) ?_
  obtain ⟨r1, C2, hc3, hF⟩ := b2_t hF
  refine call_VXv hC (c_X8_requireBoiler l G n (by omega) hn2 hfl x0 _ _ _ hc3) wvX8_129 ⟨rfl, rfl, by decide, by decide⟩ hw hS (by omega) ca_casc rfl hl.1 rfl (rest := []) rfl (Nat.le_of_ble_eq_true rfl) dX8_putOff_2 ⟨by decide, by decide⟩ (fun k ce q9 H locs h5 b1 b2 hw hS hce hcv hcl => m_out hC hlk ht hw hS b1 b2 hce hcv hcl (by decide) (by decide) (se_x h5 hF)) (fun v4 H locs h5 hw hS => ?_)
  have hF := se_l h5 hF
  refine lv_aload_n hx hb dX8_putOff_5 rfl (lv_at hl 0 rfl) ?_
  refine gX8_19 hC hw (by omega)  dX8_putOff_6 ?_
  refine gX8_133 hC hw (by omega) (show 0 < 18 by decide) dX8_putOff_9 ?_
  refine lv_iload_n hx hb dX8_putOff_12 rfl (lv_at hl 1 rfl) ?_
  obtain ⟨g6, hF⟩ := gi_t hF
  refine ld_barr hC hw (by omega) (show 0 < 18 by decide) g6 dX8_putOff_13 ?_
  refine gX8_145 hC hw (by omega) (show 0 < 18 by decide) (vp_lt g6) dX8_putOff_14 ?_
  refine lv_iconst (v := 3) hx hb dX8_putOff_17 (by decide) ?_
  refine lv_icmp_eq (tgt := 31) hx hb dX8_putOff_18 (by decide) (fun h7 => ?_) (fun h7 => ?_)
  · have hF := it_t h7 hF
    refine lv_aload_n hx hb dX8_putOff_31 rfl (lv_at hl 0 rfl) ?_
    refine gX8_29 hC hw (by omega)  dX8_putOff_32 ?_
    refine lv_aload_n hx hb dX8_putOff_35 rfl (lv_at hl 0 rfl) ?_
    refine gX8_19 hC hw (by omega)  dX8_putOff_36 ?_
    obtain ⟨r8, C9, hc10, hF⟩ := b2_t hF
    refine call_Vv hC (c_X2_remember l G n (by omega) hn2 0 (show 0 < 18 by decide) _ _ _ hc10) wvX8_214 ⟨rfl, rfl, by decide, by decide⟩ hw hS (by omega) ca_hist rfl hl.1 rfl (rest := []) rfl (Nat.le_of_ble_eq_true rfl) dX8_putOff_39 ⟨by decide, by decide⟩ (fun H locs hw hS _ => ?_)
    refine lv_aload_n hx hb dX8_putOff_42 rfl (lv_at hl 0 rfl) ?_
    refine gX8_19 hC hw (by omega)  dX8_putOff_43 ?_
    refine gX8_133 hC hw (by omega) (show 0 < 18 by decide) dX8_putOff_46 ?_
    refine lv_iload_n hx hb dX8_putOff_49 rfl (lv_at hl 1 rfl) ?_
    obtain ⟨g11, hF⟩ := gi_t hF
    refine ld_barr hC hw (by omega) (show 0 < 18 by decide) g11 dX8_putOff_50 ?_
    refine lv_iconst (v := 0) hx hb dX8_putOff_51 (by decide) ?_
    obtain ⟨r12, C13, hc14, hF⟩ := b2_t hF
    refine call_Vv hC (c_X0_leaveFor l G n (by omega) hn2 0 (show 0 < 18 by decide) (x0).toNatClampNeg (vp_lt g11) (0 : Int32) _ _ _ hc14) wvX8_239 ⟨rfl, rfl, by decide, by decide⟩ hw hS (by have := po_lt (show 0 < 18 by decide); have := (vp_lt g11); omega) (ca_boiler (show 0 < 18 by decide) (vp_lt g11)) rfl hl.1 rfl (rest := []) rfl (Nat.le_of_ble_eq_true rfl) dX8_putOff_52 ⟨by decide, by decide⟩ (fun H locs hw hS _ => ?_)
    refine lv_aload_n hx hb dX8_putOff_55 rfl (lv_at hl 0 rfl) ?_
    refine gX8_19 hC hw (by omega)  dX8_putOff_56 ?_
    refine gX8_133 hC hw (by omega) (show 0 < 18 by decide) dX8_putOff_59 ?_
    refine lv_iload_n hx hb dX8_putOff_62 rfl (lv_at hl 1 rfl) ?_
    obtain ⟨g15, hF⟩ := gi_t hF
    refine ld_barr hC hw (by omega) (show 0 < 18 by decide) g15 dX8_putOff_63 ?_
    refine gX8_157 hC hw (by omega) (show 0 < 18 by decide) (vp_lt g15) dX8_putOff_64 ?_
    exact m_iretX hC hr hlk hw hS (by decide) (by decide) dX8_putOff_67 hF
  · have hF := it_f h7 hF
    exact m_throwS hC hfl hlk ht hw hS xat_2 (by decide +kernel : (244, "the boiler is not on standby") ∈ strs) hl.1 dX8_putOff_21 dX8_putOff_24 dX8_putOff_25 dX8_putOff_27 dX8_putOff_30 (by decide) (by decide) (by decide) (by decide) (by decide) (by decide) hF
set_option maxHeartbeats 4000000 in
set_option maxRecDepth 100000 in
theorem c_X8_undo (l : Launch) (G : GG) (n : Nat) (hn : 244 ≤ n) (hn2 : 0 ≤ n) (hfl : l.stackTraces = false)  (C : Mem) (rR : Rs) (CR : Mem) (hF : F_X8_undo  C = some (rR, CR)) : CtX l yX8_undo cX8_undo 1 (some .int) (rmX 6 86 1 6) 1 6 G n C [.ref (bb G + 0)] (fun v => some (.int v)) rR CR := by
  refine CtX.of (by decide) (Nat.le_of_ble_eq_true rfl) ?_
  intro p e s m below meth c ls hC hr hlk ht hw hl
  have hx := hC.1
  have hb := hC.2.1
  have hS : LW G s s.heap [] := va_S.rf
  have hl : lv_has ls 1 [(0, .ref (bb G + 0))] := hl
  unfold F_X8_undo at hF
  refine lv_aload_n hx hb dX8_undo_0 rfl (lv_at hl 0 rfl) ?_
  refine gX8_29 hC hw (by omega)  dX8_undo_1 ?_
  refine lv_aload_n hx hb dX8_undo_4 rfl (lv_at hl 0 rfl) ?_
  refine gX8_19 hC hw (by omega)  dX8_undo_5 ?_
  obtain ⟨r1, C2, hc3, hF⟩ := b2_t hF
  refine call_Vi hC (c_X2_takeBackInto l G n (by omega) hn2 0 (show 0 < 18 by decide) _ _ _ hc3) wvX8_246 ⟨rfl, rfl, by decide, by decide⟩ hw hS (by omega) ca_hist rfl hl.1 rfl (rest := []) rfl (Nat.le_of_ble_eq_true rfl) dX8_undo_8 ⟨by decide, by decide⟩ (fun H locs hw hS _ => ?_)
  refine lv_if_ne (tgt := 24) hx hb dX8_undo_11 (by decide) (fun h4 => ?_) (fun h4 => ?_)
  · have hF := it_f h4 hF
    refine lv_aload_n hx hb dX8_undo_24 rfl (lv_at hl 0 rfl) ?_
    refine gX8_29 hC hw (by omega)  dX8_undo_25 ?_
    refine gX8_252 hC hw (by omega)  dX8_undo_28 ?_
    exact m_iretX hC hr hlk hw hS (by decide) (by decide) dX8_undo_31 hF
  · have hF := it_t h4 hF
    exact m_throwS hC hfl hlk ht hw hS xat_2 (by decide +kernel : (250, "no state is remembered") ∈ strs) hl.1 dX8_undo_14 dX8_undo_17 dX8_undo_18 dX8_undo_20 dX8_undo_23 (by decide) (by decide) (by decide) (by decide) (by decide) (by decide) hF
set_option maxHeartbeats 4000000 in
set_option maxRecDepth 100000 in
theorem c_X8_next (l : Launch) (G : GG) (n : Nat) (hn : 244 ≤ n) (hn2 : 0 ≤ n)  (C : Mem) (rR : Int32) (CR : Mem) (hF : F_X8_next  C = some (rR, CR)) : Ct l yX8_next cX8_next 1 (some .int) (rmN 3 70) G n C [.ref (bb G + 0)] (some (.int rR)) CR := by
  refine Ct.of (by decide) (Nat.le_of_ble_eq_true rfl) ?_
  intro p e s m below meth c ls hC hr hlk hw hl
  have hx := hC.1
  have hb := hC.2.1
  have hS : LW G s s.heap [] := va_S.rf
  have hl : lv_has ls 1 [(0, .ref (bb G + 0))] := hl
  unfold F_X8_next at hF
  refine lv_aload_n hx hb dX8_next_0 rfl (lv_at hl 0 rfl) ?_
  refine gX8_19 hC hw (by omega)  dX8_next_1 ?_
  obtain ⟨r1, C2, hc3, hF⟩ := b2_t hF
  refine call_Vi hC (c_X5_firstToStart l G n (by omega) hn2 0 (show 0 < 18 by decide) _ _ _ hc3) wvX8_253 ⟨rfl, rfl, by decide, by decide⟩ hw hS (by have := po_lt (show 0 < 18 by decide); omega) (ca_plant (show 0 < 18 by decide)) rfl hl.1 rfl (rest := []) rfl (Nat.le_of_ble_eq_true rfl) dX8_next_4 ⟨by decide, by decide⟩ (fun H locs hw hS _ => ?_)
  exact m_iret hC hr hlk hw hS dX8_next_7 hF
set_option maxHeartbeats 4000000 in
set_option maxRecDepth 100000 in
theorem c_X8_whyNot (l : Launch) (G : GG) (n : Nat) (hn : 244 ≤ n) (hn2 : 0 ≤ n) (hfl : l.stackTraces = false) (x0 : Int32) (C : Mem) (rR : Rs) (CR : Mem) (hF : F_X8_whyNot x0 C = some (rR, CR)) : CtX l yX8_whyNot cX8_whyNot 3 (some .int) (rmX 7 107 1 6) 1 6 G n C [.ref (bb G + 0), .int x0] (fun v => some (.int v)) rR CR := by
  refine CtX.of (by decide) (Nat.le_of_ble_eq_true rfl) ?_
  intro p e s m below meth c ls hC hr hlk ht hw hl
  have hx := hC.1
  have hb := hC.2.1
  have hS : LW G s s.heap [] := va_S.rf
  have hl : lv_has ls 3 [(0, .ref (bb G + 0)), (1, .int x0)] := hl
  unfold F_X8_whyNot at hF
  refine lv_aload_n hx hb dX8_whyNot_0 rfl (lv_at hl 0 rfl) ?_
  refine lv_iload_n hx hb dX8_whyNot_1 rfl (lv_at hl 1 rfl) ?_
  obtain ⟨r1, C2, hc3, hF⟩ := b2_t hF
  refine call_VXv hC (c_X8_requireBoiler l G n (by omega) hn2 hfl x0 _ _ _ hc3) wvX8_129 ⟨rfl, rfl, by decide, by decide⟩ hw hS (by omega) ca_casc rfl hl.1 rfl (rest := []) rfl (Nat.le_of_ble_eq_true rfl) dX8_whyNot_2 ⟨by decide, by decide⟩ (fun k ce q9 H locs h5 b1 b2 hw hS hce hcv hcl => m_out hC hlk ht hw hS b1 b2 hce hcv hcl (by decide) (by decide) (se_x h5 hF)) (fun v4 H locs h5 hw hS => ?_)
  have hF := se_l h5 hF
  refine lv_aload_n hx hb dX8_whyNot_5 rfl (lv_at hl 0 rfl) ?_
  refine gX8_19 hC hw (by omega)  dX8_whyNot_6 ?_
  refine gX8_133 hC hw (by omega) (show 0 < 18 by decide) dX8_whyNot_9 ?_
  refine lv_iload_n hx hb dX8_whyNot_12 rfl (lv_at hl 1 rfl) ?_
  obtain ⟨g6, hF⟩ := gi_t hF
  refine ld_barr hC hw (by omega) (show 0 < 18 by decide) g6 dX8_whyNot_13 ?_
  refine lv_astore_n (lv' := [(2, .ref (bb G + (po 0 + (8 + (x0).toNatClampNeg)))), (0, .ref (bb G + 0)), (1, .int x0)]) hx hb dX8_whyNot_14 rfl hl (by decide) rfl (fun ls hl => ?_)
  refine lv_aload_n hx hb dX8_whyNot_15 rfl (lv_at hl 0 rfl) ?_
  refine gX8_145 hC hw (by omega) (show 0 < 18 by decide) (vp_lt g6) dX8_whyNot_16 ?_
  refine lv_iconst (v := 4) hx hb dX8_whyNot_19 (by decide) ?_
  refine lv_icmp_ne (tgt := 25) hx hb dX8_whyNot_20 (by decide) (fun h7 => ?_) (fun h7 => ?_)
  · have hF := it_f h7 hF
    refine lv_aload_n hx hb dX8_whyNot_25 rfl (lv_at hl 0 rfl) ?_
    obtain ⟨r8, C9, hc10, hF⟩ := b2_t hF
    refine call_Vi hC (c_X0_waits l G n (by omega) hn2 0 (show 0 < 18 by decide) (x0).toNatClampNeg (vp_lt g6) _ _ _ hc10) wvX8_256 ⟨rfl, rfl, by decide, by decide⟩ hw hS (by have := po_lt (show 0 < 18 by decide); have := (vp_lt g6); omega) (ca_boiler (show 0 < 18 by decide) (vp_lt g6)) rfl hl.1 rfl (rest := []) rfl (Nat.le_of_ble_eq_true rfl) dX8_whyNot_26 ⟨by decide, by decide⟩ (fun H locs hw hS _ => ?_)
    refine lv_if_ne (tgt := 34) hx hb dX8_whyNot_29 (by decide) (fun h11 => ?_) (fun h11 => ?_)
    · have hF := it_f h11 hF
      refine lv_aload_n hx hb dX8_whyNot_34 rfl (lv_at hl 1 rfl) ?_
      refine gX8_19 hC hw (by omega)  dX8_whyNot_35 ?_
      refine lv_aload_n hx hb dX8_whyNot_38 rfl (lv_at hl 0 rfl) ?_
      refine gX8_142 hC hw (by omega) (show 0 < 18 by decide) (vp_lt g6) dX8_whyNot_39 ?_
      obtain ⟨r12, C13, hc14, hF⟩ := b2_t hF
      refine call_Vr hC (c_X5_flueOf l G n (by omega) hn2 0 (show 0 < 18 by decide) (C9 0 (30 + 7 * (x0).toNatClampNeg + 1)) _ _ _ hc14) wvX8_167 ⟨rfl, rfl, by decide, by decide⟩ hw hS (by have := po_lt (show 0 < 18 by decide); omega) (ca_plant (show 0 < 18 by decide)) rfl hl.1 rfl (rest := []) rfl (Nat.le_of_ble_eq_true rfl) dX8_whyNot_42 ⟨by decide, by decide⟩ (fun H locs hw hS _ => ?_)
      obtain ⟨g15, hF⟩ := gn_t hF
      refine gX8_179 hC hw (by omega) (show 0 < 18 by decide) g15 dX8_whyNot_45 ?_
      refine lv_if_ne (tgt := 53) hx hb dX8_whyNot_48 (by decide) (fun h16 => ?_) (fun h16 => ?_)
      · have hF := it_f h16 hF
        refine lv_aload_n hx hb dX8_whyNot_53 rfl (lv_at hl 1 rfl) ?_
        refine gX8_19 hC hw (by omega)  dX8_whyNot_54 ?_
        refine lv_aload_n hx hb dX8_whyNot_57 rfl (lv_at hl 0 rfl) ?_
        obtain ⟨r17, C18, hc19, hF⟩ := b2_t hF
        refine call_Vi hC (c_X5_hasRoomFor l G n (by omega) hn2 0 (show 0 < 18 by decide) 0 (show 0 < 18 by decide) (x0).toNatClampNeg (vp_lt g6) _ _ _ hc19) wvX8_160 ⟨rfl, rfl, by decide, by decide⟩ hw hS (by have := po_lt (show 0 < 18 by decide); omega) (ca_plant (show 0 < 18 by decide)) rfl hl.1 rfl (rest := []) rfl (Nat.le_of_ble_eq_true rfl) dX8_whyNot_58 ⟨by decide, by decide⟩ (fun H locs hw hS _ => ?_)
        refine lv_if_eq (tgt := 68) hx hb dX8_whyNot_61 (by decide) (fun h20 => ?_) (fun h20 => ?_)
        · have hF := it_t h20 hF
          refine lv_iconst (v := 4) hx hb dX8_whyNot_68 (by decide) ?_
          exact m_iretX hC hr hlk hw hS (by decide) (by decide) dX8_whyNot_69 hF
        · have hF := it_f h20 hF
          refine lv_iconst (v := 0) hx hb dX8_whyNot_64 (by decide) ?_
          refine lv_goto (tgt := 69) hx hb dX8_whyNot_65 (by decide) ?_
          exact m_iretX hC hr hlk hw hS (by decide) (by decide) dX8_whyNot_69 hF
      · have hF := it_t h16 hF
        refine lv_iconst (v := 3) hx hb dX8_whyNot_51 (by decide) ?_
        exact m_iretX hC hr hlk hw hS (by decide) (by decide) dX8_whyNot_52 hF
    · have hF := it_t h11 hF
      refine lv_iconst (v := 1) hx hb dX8_whyNot_32 (by decide) ?_
      exact m_iretX hC hr hlk hw hS (by decide) (by decide) dX8_whyNot_33 hF
  · have hF := it_t h7 hF
    refine lv_iconst (v := 2) hx hb dX8_whyNot_23 (by decide) ?_
    exact m_iretX hC hr hlk hw hS (by decide) (by decide) dX8_whyNot_24 hF
set_option maxHeartbeats 4000000 in
set_option maxRecDepth 100000 in
theorem c_X8_smallestSet (l : Launch) (G : GG) (n : Nat) (hn : 244 ≤ n) (hn2 : 0 ≤ n) (hfl : l.stackTraces = false) (x0 : Int32) (x1 : Int32) (C : Mem) (rR : Rs) (CR : Mem) (hF : F_X8_smallestSet x0 x1 C = some (rR, CR)) : CtX l yX8_smallestSet cX8_smallestSet 6 (some .int) (rmX 7 108 1 6) 1 6 G n C [.ref (bb G + 0), .int x0, .int x1] (fun v => some (.int v)) rR CR := by
  refine CtX.of (by decide) (Nat.le_of_ble_eq_true rfl) ?_
  intro p e s m below meth c ls hC hr hlk ht hw hl
  have hx := hC.1
  have hb := hC.2.1
  have hS : LW G s s.heap [] := va_S.rf
  have hl : lv_has ls 6 [(0, .ref (bb G + 0)), (1, .int x0), (2, .int x1)] := hl
  unfold F_X8_smallestSet at hF
  refine lv_iload_n hx hb dX8_smallestSet_0 rfl (lv_at hl 1 rfl) ?_
  refine lv_iconst (v := 1) hx hb dX8_smallestSet_1 (by decide) ?_
  refine lv_sipush (v := 150) hx hb dX8_smallestSet_2 (by decide) ?_
  obtain ⟨r1, C2, hc3, hF⟩ := b2_t hF
  refine call_SXv hC (c_X8_requireWithin l G n (by omega) hn2 hfl x0 (1 : Int32) (150 : Int32) _ _ _ hc3) wsX8_47 ⟨rfl, rfl, by decide, by decide⟩ hw hS hl.1 rfl (rest := []) rfl (Nat.le_of_ble_eq_true rfl) dX8_smallestSet_5 ⟨by decide, by decide⟩ (fun k ce q9 H locs h5 b1 b2 hw hS hce hcv hcl => m_out hC hlk ht hw hS b1 b2 hce hcv hcl (by decide) (by decide) (se_x h5 hF)) (fun v4 H locs h5 hw hS => ?_)
  have hF := se_l h5 hF
  refine lv_iconst (v := 0) hx hb dX8_smallestSet_8 (by decide) ?_
  refine lv_istore_n (lv' := [(3, .int (0 : Int32)), (0, .ref (bb G + 0)), (1, .int x0), (2, .int x1)]) hx hb dX8_smallestSet_9 rfl hl (by decide) rfl (fun ls hl => ?_)
  refine lv_iconst (v := 1) hx hb dX8_smallestSet_10 (by decide) ?_
  refine lv_istore (lv' := [(4, .int (1 : Int32)), (3, .int (0 : Int32)), (0, .ref (bb G + 0)), (1, .int x0), (2, .int x1)]) hx hb dX8_smallestSet_11 hl (by decide) rfl (fun ls hl => ?_)
  obtain ⟨o9, hit9, hG9⟩ := b1_t hF
  have hR9 : ∀ (v10 : Int32) (v11 : Int32) (C12 : Mem) (H : Heap) (locs : List Loc) (ls : Array Slot), o9 = (v10, v11, C12) → Wd G n C12 H → LW G s H locs → lv_has ls 6 [(0, .ref (bb G + 0)), (2, .int x1), (3, .int v10)] → W p l e (rmX 7 108 1 6) s m ([.ref (bb G + 0), .int x0, .int x1] : List Value).toArray below meth c H locs 1 6 (vx_MQ below (QX G n (fun v => some (.int v)) rR CR) (XX G n rR CR) ([.ref (bb G + 0), .int x0, .int x1] : List Value).toArray s 1 6 (frA G)) (F0 m 90 ls []) := by
    intro v10 v11 C12 H locs ls hE hw hS hl
    subst hE
    have hF := u3_t (hG9)
    refine lv_iload_n hx hb dX8_smallestSet_90 rfl (lv_at hl 2 rfl) ?_
    refine lv_if_ne (tgt := 97) hx hb dX8_smallestSet_91 (by decide) (fun h34 => ?_) (fun h34 => ?_)
    · have hF := it_f h34 hF
      refine lv_iload_n hx hb dX8_smallestSet_97 rfl (lv_at hl 1 rfl) ?_
      refine lv_if_eq (tgt := 105) hx hb dX8_smallestSet_98 (by decide) (fun h35 => ?_) (fun h35 => ?_)
      · have hF := it_t h35 hF
        refine lv_aload_n hx hb dX8_smallestSet_105 rfl (lv_at hl 0 rfl) ?_
        refine gX8_19 hC hw (by omega)  dX8_smallestSet_106 ?_
        refine lv_iload_n hx hb dX8_smallestSet_109 rfl (lv_at hl 2 rfl) ?_
        obtain ⟨r36, C37, hc38, hF⟩ := b2_t hF
        refine call_Vi hC (c_X5_powerOf l G n (by omega) hn2 0 (show 0 < 18 by decide) v10 _ _ _ hc38) wvX8_260 ⟨rfl, rfl, by decide, by decide⟩ hw hS (by have := po_lt (show 0 < 18 by decide); omega) (ca_plant (show 0 < 18 by decide)) rfl hl.1 rfl (rest := []) rfl (Nat.le_of_ble_eq_true rfl) dX8_smallestSet_110 ⟨by decide, by decide⟩ (fun H locs hw hS _ => ?_)
        exact m_iretX hC hr hlk hw hS (by decide) (by decide) dX8_smallestSet_113 hF
      · have hF := it_f h35 hF
        refine lv_iload_n hx hb dX8_smallestSet_101 rfl (lv_at hl 2 rfl) ?_
        refine lv_goto (tgt := 113) hx hb dX8_smallestSet_102 (by decide) ?_
        exact m_iretX hC hr hlk hw hS (by decide) (by decide) dX8_smallestSet_113 hF
    · have hF := it_t h34 hF
      refine lv_bipush (v := -9) hx hb dX8_smallestSet_94 (by decide) ?_
      exact m_iretX hC hr hlk hw hS (by decide) (by decide) dX8_smallestSet_96 hF
  refine iter_sound (P := fun x : Int32 × Int32 × Mem => ∀ (H : Heap) (locs : List Loc) (ls : Array Slot), Wd G n x.2.2 H → LW G s H locs → lv_has ls 6 [(0, .ref (bb G + 0)), (1, .int x0), (2, .int x1), (3, .int x.1), (4, .int x.2.1)] → W p l e (rmX 7 108 1 6) s m ([.ref (bb G + 0), .int x0, .int x1] : List Value).toArray below meth c H locs 1 6 (vx_MQ below (QX G n (fun v => some (.int v)) rR CR) (XX G n rR CR) ([.ref (bb G + 0), .int x0, .int x1] : List Value).toArray s 1 6 (frA G)) (F0 m 13 ls [])) (X := fun r => r = o9) ?_ fuel ((0 : Int32), (1 : Int32), C2) o9 hit9 rfl _ _ _ hw hS (lv_sub hl [2, 3, 4, 1, 0] rfl)
  intro x oo9 hF hk9 hX9 H locs ls hw hS hl
  obtain ⟨v6, v7, C8⟩ := x
  have hF : S_X8_smallestSet_13 x0 v6 v7 C8 = some oo9 := hF
  have hw : Wd G n C8 H := hw
  have hl : lv_has ls 6 [(0, .ref (bb G + 0)), (1, .int x0), (2, .int x1), (3, .int v6), (4, .int v7)] := hl
  unfold S_X8_smallestSet_13 at hF
  refine lv_iload hx hb dX8_smallestSet_13 (lv_at hl 4 rfl) ?_
  refine lv_iconst (v := 1) hx hb dX8_smallestSet_15 (by decide) ?_
  refine lv_aload_n hx hb dX8_smallestSet_16 rfl (lv_at hl 0 rfl) ?_
  refine gX8_19 hC hw (by omega)  dX8_smallestSet_17 ?_
  refine gX8_79 hC hw (by omega) (show 0 < 18 by decide) dX8_smallestSet_20 ?_
  refine lv_ishl hx hb dX8_smallestSet_23 ?_
  refine lv_icmp_ge (tgt := 90) hx hb dX8_smallestSet_24 (by decide) (fun h13 => ?_) (fun h13 => ?_)
  · have hF := it_t h13 hF
    exact hR9 _ _ _ _ _ _ (it_exit hF hX9).symm hw hS (lv_sub hl [0, 2, 3] rfl)
  · have hF := it_f h13 hF
    refine lv_aload_n hx hb dX8_smallestSet_27 rfl (lv_at hl 0 rfl) ?_
    refine gX8_19 hC hw (by omega)  dX8_smallestSet_28 ?_
    refine lv_iload hx hb dX8_smallestSet_31 (lv_at hl 4 rfl) ?_
    obtain ⟨r14, C15, hc16, hF⟩ := b2_t hF
    refine call_Vi hC (c_X5_powerOf l G n (by omega) hn2 0 (show 0 < 18 by decide) v7 _ _ _ hc16) wvX8_260 ⟨rfl, rfl, by decide, by decide⟩ hw hS (by have := po_lt (show 0 < 18 by decide); omega) (ca_plant (show 0 < 18 by decide)) rfl hl.1 rfl (rest := []) rfl (Nat.le_of_ble_eq_true rfl) dX8_smallestSet_33 ⟨by decide, by decide⟩ (fun H locs hw hS _ => ?_)
    refine lv_iload_n hx hb dX8_smallestSet_36 rfl (lv_at hl 1 rfl) ?_
    have hJ57 : ∀ (v18 : Int32) (C19 : Mem) (H : Heap) (locs : List Loc) (ls : Array Slot), J_X8_smallestSet_57 v6 v7 v18 C19 = some oo9 → Wd G n C19 H → LW G s H locs → lv_has ls 6 [(0, .ref (bb G + 0)), (1, .int x0), (2, .int x1), (3, .int v6), (4, .int v7)] → W p l e (rmX 7 108 1 6) s m ([.ref (bb G + 0), .int x0, .int x1] : List Value).toArray below meth c H locs 1 6 (vx_MQ below (QX G n (fun v => some (.int v)) rR CR) (XX G n rR CR) ([.ref (bb G + 0), .int x0, .int x1] : List Value).toArray s 1 6 (frA G)) (F0 m 57 ls [.int v18]) := by
      intro v18 C19 H locs ls hF hw hS hl
      unfold J_X8_smallestSet_57 at hF
      refine lv_istore (lv' := [(5, .int v18), (0, .ref (bb G + 0)), (1, .int x0), (2, .int x1), (3, .int v6), (4, .int v7)]) hx hb dX8_smallestSet_57 hl (by decide) rfl (fun ls hl => ?_)
      refine lv_iload hx hb dX8_smallestSet_59 (lv_at hl 0 rfl) ?_
      refine lv_if_eq (tgt := 84) hx hb dX8_smallestSet_61 (by decide) (fun h20 => ?_) (fun h20 => ?_)
      · have hF := it_t h20 hF
        obtain ⟨v21, ev21, hF⟩ := nm_t hF
        refine lv_iinc (v := v21) (lv' := [(4, .int v21), (5, .int v18), (0, .ref (bb G + 0)), (1, .int x0), (2, .int x1), (3, .int v6)]) hx hb dX8_smallestSet_84 hl (k := 5) rfl (by rw [ev21]; rfl) (by decide) rfl (fun ls hl => ?_)
        refine lv_goto (tgt := 13) hx hb dX8_smallestSet_87 (by decide) ?_
        exact it_back hF hk9 _ _ _ hw hS (lv_sub hl [2, 3, 4, 5, 0] rfl)
      · have hF := it_f h20 hF
        refine lv_iload_n hx hb dX8_smallestSet_64 rfl (lv_at hl 4 rfl) ?_
        refine lv_if_eq (tgt := 81) hx hb dX8_smallestSet_65 (by decide) (fun h22 => ?_) (fun h22 => ?_)
        · have hF := it_t h22 hF
          refine lv_iload hx hb dX8_smallestSet_81 (lv_at hl 5 rfl) ?_
          refine lv_istore_n (lv' := [(3, .int v7), (5, .int v18), (0, .ref (bb G + 0)), (1, .int x0), (2, .int x1), (4, .int v7)]) hx hb dX8_smallestSet_83 rfl hl (by decide) rfl (fun ls hl => ?_)
          obtain ⟨v23, ev23, hF⟩ := nm_t hF
          refine lv_iinc (v := v23) (lv' := [(4, .int v23), (3, .int v7), (5, .int v18), (0, .ref (bb G + 0)), (1, .int x0), (2, .int x1)]) hx hb dX8_smallestSet_84 hl (k := 5) rfl (by rw [ev23]; rfl) (by decide) rfl (fun ls hl => ?_)
          refine lv_goto (tgt := 13) hx hb dX8_smallestSet_87 (by decide) ?_
          exact it_back hF hk9 _ _ _ hw hS (lv_sub hl [3, 4, 5, 1, 0] rfl)
        · have hF := it_f h22 hF
          refine lv_aload_n hx hb dX8_smallestSet_68 rfl (lv_at hl 1 rfl) ?_
          refine gX8_19 hC hw (by omega)  dX8_smallestSet_69 ?_
          refine lv_iload hx hb dX8_smallestSet_72 (lv_at hl 5 rfl) ?_
          refine lv_iload_n hx hb dX8_smallestSet_74 rfl (lv_at hl 4 rfl) ?_
          obtain ⟨r24, C25, hc26, hF⟩ := b2_t hF
          refine call_Vi hC (c_X5_isSmallerSet l G n (by omega) hn2 0 (show 0 < 18 by decide) v7 v6 _ _ _ hc26) wvX8_266 ⟨rfl, rfl, by decide, by decide⟩ hw hS (by have := po_lt (show 0 < 18 by decide); omega) (ca_plant (show 0 < 18 by decide)) rfl hl.1 rfl (rest := []) rfl (Nat.le_of_ble_eq_true rfl) dX8_smallestSet_75 ⟨by decide, by decide⟩ (fun H locs hw hS _ => ?_)
          refine lv_if_eq (tgt := 84) hx hb dX8_smallestSet_78 (by decide) (fun h27 => ?_) (fun h27 => ?_)
          · have hF := it_t h27 hF
            obtain ⟨v28, ev28, hF⟩ := nm_t hF
            refine lv_iinc (v := v28) (lv' := [(4, .int v28), (5, .int v18), (0, .ref (bb G + 0)), (1, .int x0), (2, .int x1), (3, .int v6)]) hx hb dX8_smallestSet_84 hl (k := 5) rfl (by rw [ev28]; rfl) (by decide) rfl (fun ls hl => ?_)
            refine lv_goto (tgt := 13) hx hb dX8_smallestSet_87 (by decide) ?_
            exact it_back hF hk9 _ _ _ hw hS (lv_sub hl [2, 3, 4, 5, 0] rfl)
          · have hF := it_f h27 hF
            refine lv_iload hx hb dX8_smallestSet_81 (lv_at hl 5 rfl) ?_
            refine lv_istore_n (lv' := [(3, .int v7), (5, .int v18), (0, .ref (bb G + 0)), (1, .int x0), (2, .int x1), (4, .int v7)]) hx hb dX8_smallestSet_83 rfl hl (by decide) rfl (fun ls hl => ?_)
            obtain ⟨v29, ev29, hF⟩ := nm_t hF
            refine lv_iinc (v := v29) (lv' := [(4, .int v29), (3, .int v7), (5, .int v18), (0, .ref (bb G + 0)), (1, .int x0), (2, .int x1)]) hx hb dX8_smallestSet_84 hl (k := 5) rfl (by rw [ev29]; rfl) (by decide) rfl (fun ls hl => ?_)
            refine lv_goto (tgt := 13) hx hb dX8_smallestSet_87 (by decide) ?_
            exact it_back hF hk9 _ _ _ hw hS (lv_sub hl [3, 4, 5, 1, 0] rfl)
    refine lv_icmp_lt (tgt := 56) hx hb dX8_smallestSet_37 (by decide) (fun h17 => ?_) (fun h17 => ?_)
    · have hF := it_t h17 hF
      refine lv_iconst (v := 0) hx hb dX8_smallestSet_56 (by decide) ?_
      exact hJ57 (0 : Int32) C15 _ _ _ hF hw hS (lv_sub hl [0, 1, 2, 3, 4] rfl)
    · have hF := it_f h17 hF
      refine lv_aload_n hx hb dX8_smallestSet_40 rfl (lv_at hl 0 rfl) ?_
      refine gX8_19 hC hw (by omega)  dX8_smallestSet_41 ?_
      refine lv_iload hx hb dX8_smallestSet_44 (lv_at hl 4 rfl) ?_
      obtain ⟨r30, C31, hc32, hF⟩ := b2_t hF
      refine call_Vi hC (c_X5_fitsDrafts l G n (by omega) hn2 0 (show 0 < 18 by decide) v7 _ _ _ hc32) wvX8_263 ⟨rfl, rfl, by decide, by decide⟩ hw hS (by have := po_lt (show 0 < 18 by decide); omega) (ca_plant (show 0 < 18 by decide)) rfl hl.1 rfl (rest := []) rfl (Nat.le_of_ble_eq_true rfl) dX8_smallestSet_46 ⟨by decide, by decide⟩ (fun H locs hw hS _ => ?_)
      refine lv_if_eq (tgt := 56) hx hb dX8_smallestSet_49 (by decide) (fun h33 => ?_) (fun h33 => ?_)
      · have hF := it_t h33 hF
        refine lv_iconst (v := 0) hx hb dX8_smallestSet_56 (by decide) ?_
        exact hJ57 (0 : Int32) C31 _ _ _ hF hw hS (lv_sub hl [0, 1, 2, 3, 4] rfl)
      · have hF := it_f h33 hF
        refine lv_iconst (v := 1) hx hb dX8_smallestSet_52 (by decide) ?_
        refine lv_goto (tgt := 57) hx hb dX8_smallestSet_53 (by decide) ?_
        exact hJ57 (1 : Int32) C31 _ _ _ hF hw hS (lv_sub hl [0, 1, 2, 3, 4] rfl)
set_option maxHeartbeats 4000000 in
set_option maxRecDepth 100000 in
theorem c_X8_ahead (l : Launch) (G : GG) (n : Nat) (hn : 244 ≤ n) (hn2 : 0 ≤ n) (hfl : l.stackTraces = false) (x0 : Int32) (x1 : Int32) (x2 : Int32) (C : Mem) (rR : Rs) (CR : Mem) (hF : F_X8_ahead x0 x1 x2 C = some (rR, CR)) : CtX l yX8_ahead cX8_ahead 6 (some .int) (rmX 8 129 3 18) 3 18 G n C [.ref (bb G + 0), .int x0, .int x1, .int x2] (fun v => some (.int v)) rR CR := by
  refine CtX.of (by decide) (Nat.le_of_ble_eq_true rfl) ?_
  intro p e s m below meth c ls hC hr hlk ht hw hl
  have hx := hC.1
  have hb := hC.2.1
  have hS : LW G s s.heap [] := va_S.rf
  have hl : lv_has ls 6 [(0, .ref (bb G + 0)), (1, .int x0), (2, .int x1), (3, .int x2)] := hl
  unfold F_X8_ahead at hF
  refine lv_iload_n hx hb dX8_ahead_0 rfl (lv_at hl 1 rfl) ?_
  refine lv_iload_n hx hb dX8_ahead_1 rfl (lv_at hl 2 rfl) ?_
  obtain ⟨r1, C2, hc3, hF⟩ := b2_t hF
  refine call_SXv hC (c_X8_requireTicks l G n (by omega) hn2 hfl x0 x1 _ _ _ hc3) wsX8_210 ⟨rfl, rfl, by decide, by decide⟩ hw hS hl.1 rfl (rest := []) rfl (Nat.le_of_ble_eq_true rfl) dX8_ahead_2 ⟨by decide, by decide⟩ (fun k ce q9 H locs h5 b1 b2 hw hS hce hcv hcl => m_out hC hlk ht hw hS b1 b2 hce hcv hcl (by decide) (by decide) (se_x h5 hF)) (fun v4 H locs h5 hw hS => ?_)
  have hF := se_l h5 hF
  refine lv_iload_n hx hb dX8_ahead_5 rfl (lv_at hl 3 rfl) ?_
  refine lv_iconst (v := 0) hx hb dX8_ahead_6 (by decide) ?_
  refine lv_bipush (v := 6) hx hb dX8_ahead_7 (by decide) ?_
  obtain ⟨r6, C7, hc8, hF⟩ := b2_t hF
  refine call_SXv hC (c_X8_requireWithin l G n (by omega) hn2 hfl x2 (0 : Int32) (6 : Int32) _ _ _ hc8) wsX8_47 ⟨rfl, rfl, by decide, by decide⟩ hw hS hl.1 rfl (rest := []) rfl (Nat.le_of_ble_eq_true rfl) dX8_ahead_9 ⟨by decide, by decide⟩ (fun k ce q9 H locs h10 b1 b2 hw hS hce hcv hcl => m_out hC hlk ht hw hS b1 b2 hce hcv hcl (by decide) (by decide) (se_x h10 hF)) (fun v9 H locs h10 hw hS => ?_)
  have hF := se_l h10 hF
  refine lv_aload_n hx hb dX8_ahead_12 rfl (lv_at hl 0 rfl) ?_
  refine gX8_23 hC hw (by omega)  dX8_ahead_13 ?_
  refine lv_aload_n hx hb dX8_ahead_16 rfl (lv_at hl 0 rfl) ?_
  refine gX8_19 hC hw (by omega)  dX8_ahead_17 ?_
  obtain ⟨r11, C12, hc13, hF⟩ := b2_t hF
  refine call_Vv hC (c_X5_copyFrom l G n (by omega) hn2 1 (show 1 < 18 by decide) 0 (show 0 < 18 by decide) _ _ _ hc13) wvX8_269 ⟨rfl, rfl, by decide, by decide⟩ hw hS (by have := po_lt (show 1 < 18 by decide); omega) (ca_plant (show 1 < 18 by decide)) rfl hl.1 rfl (rest := []) rfl (Nat.le_of_ble_eq_true rfl) dX8_ahead_20 ⟨by decide, by decide⟩ (fun H locs hw hS _ => ?_)
  refine lv_bipush (v := 99) hx hb dX8_ahead_23 (by decide) ?_
  refine lv_istore (lv' := [(4, .int (99 : Int32)), (0, .ref (bb G + 0)), (1, .int x0), (2, .int x1), (3, .int x2)]) hx hb dX8_ahead_25 hl (by decide) rfl (fun ls hl => ?_)
  refine lv_iconst (v := 0) hx hb dX8_ahead_27 (by decide) ?_
  refine lv_istore (lv' := [(5, .int (0 : Int32)), (4, .int (99 : Int32)), (0, .ref (bb G + 0)), (1, .int x0), (2, .int x1), (3, .int x2)]) hx hb dX8_ahead_28 hl (by decide) rfl (fun ls hl => ?_)
  obtain ⟨o17, hit17, hG17⟩ := b1_t hF
  have hR17 : ∀ (v18 : Int32) (v19 : Int32) (C20 : Mem) (H : Heap) (locs : List Loc) (ls : Array Slot), o17 = (v18, v19, C20) → Wd G n C20 H → LW G s H locs → lv_has ls 6 [(0, .ref (bb G + 0)), (3, .int x2), (4, .int v18)] → W p l e (rmX 8 129 3 18) s m ([.ref (bb G + 0), .int x0, .int x1, .int x2] : List Value).toArray below meth c H locs 3 18 (vx_MQ below (QX G n (fun v => some (.int v)) rR CR) (XX G n rR CR) ([.ref (bb G + 0), .int x0, .int x1, .int x2] : List Value).toArray s 3 18 (frA G)) (F0 m 68 ls []) := by
    intro v18 v19 C20 H locs ls hE hw hS hl
    subst hE
    have hF := u3_t (hG17)
    refine lv_iload_n hx hb dX8_ahead_68 rfl (lv_at hl 1 rfl) ?_
    by_cases h30 : x2 = (0 : Int32)
    · have hF := it_t h30 hF
      refine lv_tableIn (tgt := 108) (off := 39) hx hb dX8_ahead_69 (by rw [h30]; decide) (by rw [h30]; decide) (by rw [h30]; rfl) (by decide) ?_
      refine lv_aload_n hx hb dX8_ahead_108 rfl (lv_at hl 0 rfl) ?_
      refine gX8_23 hC hw (by omega)  dX8_ahead_109 ?_
      refine gX8_86 hC hw (by omega) (show 1 < 18 by decide) dX8_ahead_112 ?_
      obtain ⟨r36, C37, hc38, hF⟩ := b2_t hF
      refine call_Vi hC (c_X7_mean l G n (by omega) hn2 1 (show 1 < 18 by decide) _ _ _ hc38) wvX8_98 ⟨rfl, rfl, by decide, by decide⟩ hw hS (by have := po_lt (show 1 < 18 by decide); omega) (ca_tank (show 1 < 18 by decide)) rfl hl.1 rfl (rest := []) rfl (Nat.le_of_ble_eq_true rfl) dX8_ahead_115 ⟨by decide, by decide⟩ (fun H locs hw hS _ => ?_)
      exact m_iretX hC hr hlk hw hS (by decide) (by decide) dX8_ahead_118 hF
    have hF := it_f h30 hF
    by_cases h31 : x2 = (1 : Int32)
    · have hF := it_t h31 hF
      refine lv_tableIn (tgt := 119) (off := 50) hx hb dX8_ahead_69 (by rw [h31]; decide) (by rw [h31]; decide) (by rw [h31]; rfl) (by decide) ?_
      refine lv_aload_n hx hb dX8_ahead_119 rfl (lv_at hl 0 rfl) ?_
      refine gX8_23 hC hw (by omega)  dX8_ahead_120 ?_
      refine gX8_86 hC hw (by omega) (show 1 < 18 by decide) dX8_ahead_123 ?_
      obtain ⟨r39, C40, hc41, hF⟩ := b2_t hF
      refine call_Vi hC (c_X7_highest l G n (by omega) hn2 1 (show 1 < 18 by decide) _ _ _ hc41) wvX8_278 ⟨rfl, rfl, by decide, by decide⟩ hw hS (by have := po_lt (show 1 < 18 by decide); omega) (ca_tank (show 1 < 18 by decide)) rfl hl.1 rfl (rest := []) rfl (Nat.le_of_ble_eq_true rfl) dX8_ahead_126 ⟨by decide, by decide⟩ (fun H locs hw hS _ => ?_)
      exact m_iretX hC hr hlk hw hS (by decide) (by decide) dX8_ahead_129 hF
    have hF := it_f h31 hF
    by_cases h32 : x2 = (2 : Int32)
    · have hF := it_t h32 hF
      refine lv_tableIn (tgt := 130) (off := 61) hx hb dX8_ahead_69 (by rw [h32]; decide) (by rw [h32]; decide) (by rw [h32]; rfl) (by decide) ?_
      refine lv_aload_n hx hb dX8_ahead_130 rfl (lv_at hl 0 rfl) ?_
      refine gX8_23 hC hw (by omega)  dX8_ahead_131 ?_
      refine gX8_86 hC hw (by omega) (show 1 < 18 by decide) dX8_ahead_134 ?_
      refine gX8_199 hC hw (by omega) (show 1 < 18 by decide) dX8_ahead_137 ?_
      refine lv_aload_n hx hb dX8_ahead_140 rfl (lv_at hl 0 rfl) ?_
      refine gX8_19 hC hw (by omega)  dX8_ahead_141 ?_
      refine gX8_86 hC hw (by omega) (show 0 < 18 by decide) dX8_ahead_144 ?_
      refine gX8_199 hC hw (by omega) (show 0 < 18 by decide) dX8_ahead_147 ?_
      refine lv_isub hx hb dX8_ahead_150 ?_
      exact m_iretX hC hr hlk hw hS (by decide) (by decide) dX8_ahead_151 hF
    have hF := it_f h32 hF
    by_cases h33 : x2 = (3 : Int32)
    · have hF := it_t h33 hF
      refine lv_tableIn (tgt := 152) (off := 83) hx hb dX8_ahead_69 (by rw [h33]; decide) (by rw [h33]; decide) (by rw [h33]; rfl) (by decide) ?_
      refine lv_aload_n hx hb dX8_ahead_152 rfl (lv_at hl 0 rfl) ?_
      refine gX8_23 hC hw (by omega)  dX8_ahead_153 ?_
      obtain ⟨r42, C43, hc44, hF⟩ := b2_t hF
      refine call_Vi hC (c_X5_fuel l G n (by omega) hn2 1 (show 1 < 18 by decide) _ _ _ hc44) wvX8_205 ⟨rfl, rfl, by decide, by decide⟩ hw hS (by have := po_lt (show 1 < 18 by decide); omega) (ca_plant (show 1 < 18 by decide)) rfl hl.1 rfl (rest := []) rfl (Nat.le_of_ble_eq_true rfl) dX8_ahead_156 ⟨by decide, by decide⟩ (fun H locs hw hS _ => ?_)
      refine lv_aload_n hx hb dX8_ahead_159 rfl (lv_at hl 0 rfl) ?_
      refine gX8_19 hC hw (by omega)  dX8_ahead_160 ?_
      obtain ⟨r45, C46, hc47, hF⟩ := b2_t hF
      refine call_Vi hC (c_X5_fuel l G n (by omega) hn2 0 (show 0 < 18 by decide) _ _ _ hc47) wvX8_205 ⟨rfl, rfl, by decide, by decide⟩ hw hS (by have := po_lt (show 0 < 18 by decide); omega) (ca_plant (show 0 < 18 by decide)) rfl hl.1 rfl (rest := [.int r42]) rfl (Nat.le_of_ble_eq_true rfl) dX8_ahead_163 ⟨by decide, by decide⟩ (fun H locs hw hS _ => ?_)
      refine lv_isub hx hb dX8_ahead_166 ?_
      exact m_iretX hC hr hlk hw hS (by decide) (by decide) dX8_ahead_167 hF
    have hF := it_f h33 hF
    by_cases h34 : x2 = (4 : Int32)
    · have hF := it_t h34 hF
      refine lv_tableIn (tgt := 168) (off := 99) hx hb dX8_ahead_69 (by rw [h34]; decide) (by rw [h34]; decide) (by rw [h34]; rfl) (by decide) ?_
      refine lv_aload_n hx hb dX8_ahead_168 rfl (lv_at hl 0 rfl) ?_
      refine gX8_23 hC hw (by omega)  dX8_ahead_169 ?_
      obtain ⟨r48, C49, hc50, hF⟩ := b2_t hF
      refine call_Vi hC (c_X5_starts l G n (by omega) hn2 1 (show 1 < 18 by decide) _ _ _ hc50) wvX8_281 ⟨rfl, rfl, by decide, by decide⟩ hw hS (by have := po_lt (show 1 < 18 by decide); omega) (ca_plant (show 1 < 18 by decide)) rfl hl.1 rfl (rest := []) rfl (Nat.le_of_ble_eq_true rfl) dX8_ahead_172 ⟨by decide, by decide⟩ (fun H locs hw hS _ => ?_)
      refine lv_aload_n hx hb dX8_ahead_175 rfl (lv_at hl 0 rfl) ?_
      refine gX8_19 hC hw (by omega)  dX8_ahead_176 ?_
      obtain ⟨r51, C52, hc53, hF⟩ := b2_t hF
      refine call_Vi hC (c_X5_starts l G n (by omega) hn2 0 (show 0 < 18 by decide) _ _ _ hc53) wvX8_281 ⟨rfl, rfl, by decide, by decide⟩ hw hS (by have := po_lt (show 0 < 18 by decide); omega) (ca_plant (show 0 < 18 by decide)) rfl hl.1 rfl (rest := [.int r48]) rfl (Nat.le_of_ble_eq_true rfl) dX8_ahead_179 ⟨by decide, by decide⟩ (fun H locs hw hS _ => ?_)
      refine lv_isub hx hb dX8_ahead_182 ?_
      exact m_iretX hC hr hlk hw hS (by decide) (by decide) dX8_ahead_183 hF
    have hF := it_f h34 hF
    by_cases h35 : x2 = (5 : Int32)
    · have hF := it_t h35 hF
      refine lv_tableIn (tgt := 184) (off := 115) hx hb dX8_ahead_69 (by rw [h35]; decide) (by rw [h35]; decide) (by rw [h35]; rfl) (by decide) ?_
      refine lv_aload_n hx hb dX8_ahead_184 rfl (lv_at hl 0 rfl) ?_
      refine gX8_23 hC hw (by omega)  dX8_ahead_185 ?_
      refine gX8_104 hC hw (by omega) (show 1 < 18 by decide) dX8_ahead_188 ?_
      refine gX8_119 hC hw (by omega) (show 1 < 18 by decide) dX8_ahead_191 ?_
      refine lv_aload_n hx hb dX8_ahead_194 rfl (lv_at hl 0 rfl) ?_
      refine gX8_19 hC hw (by omega)  dX8_ahead_195 ?_
      refine gX8_104 hC hw (by omega) (show 0 < 18 by decide) dX8_ahead_198 ?_
      refine gX8_119 hC hw (by omega) (show 0 < 18 by decide) dX8_ahead_201 ?_
      refine lv_isub hx hb dX8_ahead_204 ?_
      exact m_iretX hC hr hlk hw hS (by decide) (by decide) dX8_ahead_205 hF
    have hF := it_f h35 hF
    refine lv_tableOut (tgt := 206) hx hb dX8_ahead_69 (sw_out (fun k ka kb kc => by (have kd : k = 0 ∨ k = 1 ∨ k = 2 ∨ k = 3 ∨ k = 4 ∨ k = 5 := by omega); exact kd.elim (fun kd => by subst kd; exact lv_neT h30 (by decide) kc) (fun kd => kd.elim (fun kd => by subst kd; exact lv_neT h31 (by decide) kc) (fun kd => kd.elim (fun kd => by subst kd; exact lv_neT h32 (by decide) kc) (fun kd => kd.elim (fun kd => by subst kd; exact lv_neT h33 (by decide) kc) (fun kd => kd.elim (fun kd => by subst kd; exact lv_neT h34 (by decide) kc) (fun kd => (by subst kd; exact lv_neT h35 (by decide) kc)))))))) (by decide) ?_
    refine lv_iload hx hb dX8_ahead_206 (lv_at hl 2 rfl) ?_
    exact m_iretX hC hr hlk hw hS (by decide) (by decide) dX8_ahead_208 hF
  refine iter_sound (P := fun x : Int32 × Int32 × Mem => ∀ (H : Heap) (locs : List Loc) (ls : Array Slot), Wd G n x.2.2 H → LW G s H locs → lv_has ls 6 [(0, .ref (bb G + 0)), (1, .int x0), (2, .int x1), (3, .int x2), (4, .int x.1), (5, .int x.2.1)] → W p l e (rmX 8 129 3 18) s m ([.ref (bb G + 0), .int x0, .int x1, .int x2] : List Value).toArray below meth c H locs 3 18 (vx_MQ below (QX G n (fun v => some (.int v)) rR CR) (XX G n rR CR) ([.ref (bb G + 0), .int x0, .int x1, .int x2] : List Value).toArray s 3 18 (frA G)) (F0 m 30 ls [])) (X := fun r => r = o17) ?_ fuel ((99 : Int32), (0 : Int32), C12) o17 hit17 rfl _ _ _ hw hS (lv_sub hl [2, 3, 4, 5, 1, 0] rfl)
  intro x oo17 hF hk17 hX17 H locs ls hw hS hl
  obtain ⟨v14, v15, C16⟩ := x
  have hF : S_X8_ahead_30 x0 x1 v14 v15 C16 = some oo17 := hF
  have hw : Wd G n C16 H := hw
  have hl : lv_has ls 6 [(0, .ref (bb G + 0)), (1, .int x0), (2, .int x1), (3, .int x2), (4, .int v14), (5, .int v15)] := hl
  unfold S_X8_ahead_30 at hF
  refine lv_iload hx hb dX8_ahead_30 (lv_at hl 5 rfl) ?_
  refine lv_iload_n hx hb dX8_ahead_32 rfl (lv_at hl 1 rfl) ?_
  refine lv_icmp_ge (tgt := 68) hx hb dX8_ahead_33 (by decide) (fun h21 => ?_) (fun h21 => ?_)
  · have hF := it_t h21 hF
    exact hR17 _ _ _ _ _ _ (it_exit hF hX17).symm hw hS (lv_sub hl [0, 3, 4] rfl)
  · have hF := it_f h21 hF
    refine lv_aload_n hx hb dX8_ahead_36 rfl (lv_at hl 0 rfl) ?_
    refine gX8_23 hC hw (by omega)  dX8_ahead_37 ?_
    refine lv_iconst (v := 1) hx hb dX8_ahead_40 (by decide) ?_
    refine lv_iload_n hx hb dX8_ahead_41 rfl (lv_at hl 2 rfl) ?_
    obtain ⟨r22, C23, hc24, hF⟩ := b2_t hF
    refine call_Vv hC (c_X5_passTicks l G n (by omega) hn2 1 (show 1 < 18 by decide) (1 : Int32) x1 _ _ _ hc24) wvX8_218 ⟨rfl, rfl, by decide, by decide⟩ hw hS (by have := po_lt (show 1 < 18 by decide); omega) (ca_plant (show 1 < 18 by decide)) rfl hl.1 rfl (rest := []) rfl (Nat.le_of_ble_eq_true rfl) dX8_ahead_42 ⟨by decide, by decide⟩ (fun H locs hw hS _ => ?_)
    refine lv_iload hx hb dX8_ahead_45 (lv_at hl 4 rfl) ?_
    refine lv_aload_n hx hb dX8_ahead_47 rfl (lv_at hl 0 rfl) ?_
    refine gX8_23 hC hw (by omega)  dX8_ahead_48 ?_
    refine gX8_86 hC hw (by omega) (show 1 < 18 by decide) dX8_ahead_51 ?_
    obtain ⟨r25, C26, hc27, hF⟩ := b2_t hF
    refine call_Vi hC (c_X7_mean l G n (by omega) hn2 1 (show 1 < 18 by decide) _ _ _ hc27) wvX8_98 ⟨rfl, rfl, by decide, by decide⟩ hw hS (by have := po_lt (show 1 < 18 by decide); omega) (ca_tank (show 1 < 18 by decide)) rfl hl.1 rfl (rest := [.int v14]) rfl (Nat.le_of_ble_eq_true rfl) dX8_ahead_54 ⟨by decide, by decide⟩ (fun H locs hw hS _ => ?_)
    refine va_mmin hx hb (hC.2.2.1.trans hl.1.symm) hC.2.2.2.1 (hC.2.2.2.2.1 _ kM_min_X8_272) (hC.2.2.2.2.1 _ kM_min.1) (hC.2.2.2.2.1 _ kM_min.2.1) (hC.2.2.2.2.1 _ kM_min.2.2) (by decide) (Nat.le_of_ble_eq_true rfl) (by decide) (by decide) dX8_ahead_57 ?_
    obtain ⟨v28, ev28, hF⟩ := nm_t hF
    refine lv_nmi ev28 ?_
    refine lv_istore (lv' := [(4, .int v28), (0, .ref (bb G + 0)), (1, .int x0), (2, .int x1), (3, .int x2), (5, .int v15)]) hx hb dX8_ahead_60 hl (by decide) rfl (fun ls hl => ?_)
    obtain ⟨v29, ev29, hF⟩ := nm_t hF
    refine lv_iinc (v := v29) (lv' := [(5, .int v29), (4, .int v28), (0, .ref (bb G + 0)), (1, .int x0), (2, .int x1), (3, .int x2)]) hx hb dX8_ahead_62 hl (k := 5) rfl (by rw [ev29]; rfl) (by decide) rfl (fun ls hl => ?_)
    refine lv_goto (tgt := 30) hx hb dX8_ahead_65 (by decide) ?_
    exact it_back hF hk17 _ _ _ hw hS (lv_sub hl [2, 3, 4, 5, 1, 0] rfl)
set_option maxHeartbeats 4000000 in
set_option maxRecDepth 100000 in
theorem c_X8_warmAfter (l : Launch) (G : GG) (n : Nat) (hn : 244 ≤ n) (hn2 : 0 ≤ n) (hfl : l.stackTraces = false) (x0 : Int32) (x1 : Int32) (C : Mem) (rR : Rs) (CR : Mem) (hF : F_X8_warmAfter x0 x1 C = some (rR, CR)) : CtX l yX8_warmAfter cX8_warmAfter 4 (some .int) (rmX 7 117 2 12) 2 12 G n C [.ref (bb G + 0), .int x0, .int x1] (fun v => some (.int v)) rR CR := by
  refine CtX.of (by decide) (Nat.le_of_ble_eq_true rfl) ?_
  intro p e s m below meth c ls hC hr hlk ht hw hl
  have hx := hC.1
  have hb := hC.2.1
  have hS : LW G s s.heap [] := va_S.rf
  have hl : lv_has ls 4 [(0, .ref (bb G + 0)), (1, .int x0), (2, .int x1)] := hl
  unfold F_X8_warmAfter at hF
  refine lv_iload_n hx hb dX8_warmAfter_0 rfl (lv_at hl 1 rfl) ?_
  refine lv_iconst (v := 0) hx hb dX8_warmAfter_1 (by decide) ?_
  refine lv_bipush (v := 99) hx hb dX8_warmAfter_2 (by decide) ?_
  obtain ⟨r1, C2, hc3, hF⟩ := b2_t hF
  refine call_SXv hC (c_X8_requireWithin l G n (by omega) hn2 hfl x0 (0 : Int32) (99 : Int32) _ _ _ hc3) wsX8_47 ⟨rfl, rfl, by decide, by decide⟩ hw hS hl.1 rfl (rest := []) rfl (Nat.le_of_ble_eq_true rfl) dX8_warmAfter_4 ⟨by decide, by decide⟩ (fun k ce q9 H locs h5 b1 b2 hw hS hce hcv hcl => m_out hC hlk ht hw hS b1 b2 hce hcv hcl (by decide) (by decide) (se_x h5 hF)) (fun v4 H locs h5 hw hS => ?_)
  have hF := se_l h5 hF
  refine lv_iload_n hx hb dX8_warmAfter_7 rfl (lv_at hl 2 rfl) ?_
  refine lv_iconst (v := 0) hx hb dX8_warmAfter_8 (by decide) ?_
  refine lv_iconst (v := 5) hx hb dX8_warmAfter_9 (by decide) ?_
  obtain ⟨r6, C7, hc8, hF⟩ := b2_t hF
  refine call_SXv hC (c_X8_requireWithin l G n (by omega) hn2 hfl x1 (0 : Int32) (5 : Int32) _ _ _ hc8) wsX8_47 ⟨rfl, rfl, by decide, by decide⟩ hw hS hl.1 rfl (rest := []) rfl (Nat.le_of_ble_eq_true rfl) dX8_warmAfter_10 ⟨by decide, by decide⟩ (fun k ce q9 H locs h10 b1 b2 hw hS hce hcv hcl => m_out hC hlk ht hw hS b1 b2 hce hcv hcl (by decide) (by decide) (se_x h10 hF)) (fun v9 H locs h10 hw hS => ?_)
  have hF := se_l h10 hF
  refine lv_aload_n hx hb dX8_warmAfter_13 rfl (lv_at hl 0 rfl) ?_
  refine gX8_23 hC hw (by omega)  dX8_warmAfter_14 ?_
  refine lv_aload_n hx hb dX8_warmAfter_17 rfl (lv_at hl 0 rfl) ?_
  refine gX8_19 hC hw (by omega)  dX8_warmAfter_18 ?_
  obtain ⟨r11, C12, hc13, hF⟩ := b2_t hF
  refine call_Vv hC (c_X5_copyFrom l G n (by omega) hn2 1 (show 1 < 18 by decide) 0 (show 0 < 18 by decide) _ _ _ hc13) wvX8_269 ⟨rfl, rfl, by decide, by decide⟩ hw hS (by have := po_lt (show 1 < 18 by decide); omega) (ca_plant (show 1 < 18 by decide)) rfl hl.1 rfl (rest := []) rfl (Nat.le_of_ble_eq_true rfl) dX8_warmAfter_21 ⟨by decide, by decide⟩ (fun H locs hw hS _ => ?_)
  refine lv_iconst (v := 0) hx hb dX8_warmAfter_24 (by decide) ?_
  refine lv_istore_n (lv' := [(3, .int (0 : Int32)), (0, .ref (bb G + 0)), (1, .int x0), (2, .int x1)]) hx hb dX8_warmAfter_25 rfl hl (by decide) rfl (fun ls hl => ?_)
  obtain ⟨o16, hit16, hG16⟩ := b1_t hF
  have hR16 : ∀ (v17 : Int32) (C18 : Mem) (H : Heap) (locs : List Loc) (ls : Array Slot), o16 = Sum.inl (v17, C18) → Wd G n C18 H → LW G s H locs → lv_has ls 4 [(0, .ref (bb G + 0)), (1, .int x0)] → W p l e (rmX 7 117 2 12) s m ([.ref (bb G + 0), .int x0, .int x1] : List Value).toArray below meth c H locs 2 12 (vx_MQ below (QX G n (fun v => some (.int v)) rR CR) (XX G n rR CR) ([.ref (bb G + 0), .int x0, .int x1] : List Value).toArray s 2 12 (frA G)) (F0 m 64 ls []) := by
    intro v17 C18 H locs ls hE hw hS hl
    subst hE
    have hF := u2_t (se_l rfl hG16)
    refine lv_aload_n hx hb dX8_warmAfter_64 rfl (lv_at hl 0 rfl) ?_
    refine gX8_23 hC hw (by omega)  dX8_warmAfter_65 ?_
    refine gX8_86 hC hw (by omega) (show 1 < 18 by decide) dX8_warmAfter_68 ?_
    obtain ⟨r28, C29, hc30, hF⟩ := b2_t hF
    refine call_Vi hC (c_X7_mean l G n (by omega) hn2 1 (show 1 < 18 by decide) _ _ _ hc30) wvX8_98 ⟨rfl, rfl, by decide, by decide⟩ hw hS (by have := po_lt (show 1 < 18 by decide); omega) (ca_tank (show 1 < 18 by decide)) rfl hl.1 rfl (rest := []) rfl (Nat.le_of_ble_eq_true rfl) dX8_warmAfter_71 ⟨by decide, by decide⟩ (fun H locs hw hS _ => ?_)
    refine lv_iload_n hx hb dX8_warmAfter_74 rfl (lv_at hl 1 rfl) ?_
    refine lv_icmp_lt (tgt := 84) hx hb dX8_warmAfter_75 (by decide) (fun h31 => ?_) (fun h31 => ?_)
    · have hF := it_t h31 hF
      refine lv_bipush (v := -9) hx hb dX8_warmAfter_84 (by decide) ?_
      exact m_iretX hC hr hlk hw hS (by decide) (by decide) dX8_warmAfter_86 hF
    · have hF := it_f h31 hF
      refine lv_sipush (v := 200) hx hb dX8_warmAfter_78 (by decide) ?_
      refine lv_goto (tgt := 86) hx hb dX8_warmAfter_81 (by decide) ?_
      exact m_iretX hC hr hlk hw hS (by decide) (by decide) dX8_warmAfter_86 hF
  refine iter_sound (P := fun x : Int32 × Mem => ∀ (H : Heap) (locs : List Loc) (ls : Array Slot), Wd G n x.2 H → LW G s H locs → lv_has ls 4 [(0, .ref (bb G + 0)), (1, .int x0), (2, .int x1), (3, .int x.1)] → W p l e (rmX 7 117 2 12) s m ([.ref (bb G + 0), .int x0, .int x1] : List Value).toArray below meth c H locs 2 12 (vx_MQ below (QX G n (fun v => some (.int v)) rR CR) (XX G n rR CR) ([.ref (bb G + 0), .int x0, .int x1] : List Value).toArray s 2 12 (frA G)) (F0 m 26 ls [])) (X := fun r => r = o16) ?_ fuel ((0 : Int32), C12) o16 hit16 rfl _ _ _ hw hS (lv_sub hl [1, 2, 3, 0] rfl)
  intro x oo16 hF hk16 hX16 H locs ls hw hS hl
  obtain ⟨v14, C15⟩ := x
  have hF : S_X8_warmAfter_26 x0 x1 v14 C15 = some oo16 := hF
  have hw : Wd G n C15 H := hw
  have hl : lv_has ls 4 [(0, .ref (bb G + 0)), (1, .int x0), (2, .int x1), (3, .int v14)] := hl
  unfold S_X8_warmAfter_26 at hF
  refine lv_iload_n hx hb dX8_warmAfter_26 rfl (lv_at hl 3 rfl) ?_
  refine lv_sipush (v := 200) hx hb dX8_warmAfter_27 (by decide) ?_
  refine lv_icmp_ge (tgt := 64) hx hb dX8_warmAfter_30 (by decide) (fun h19 => ?_) (fun h19 => ?_)
  · have hF := it_t h19 hF
    exact hR16 _ _ _ _ _ (it_exit hF hX16).symm hw hS (lv_sub hl [0, 1] rfl)
  · have hF := it_f h19 hF
    refine lv_aload_n hx hb dX8_warmAfter_33 rfl (lv_at hl 0 rfl) ?_
    refine gX8_23 hC hw (by omega)  dX8_warmAfter_34 ?_
    refine gX8_86 hC hw (by omega) (show 1 < 18 by decide) dX8_warmAfter_37 ?_
    obtain ⟨r20, C21, hc22, hF⟩ := b2_t hF
    refine call_Vi hC (c_X7_mean l G n (by omega) hn2 1 (show 1 < 18 by decide) _ _ _ hc22) wvX8_98 ⟨rfl, rfl, by decide, by decide⟩ hw hS (by have := po_lt (show 1 < 18 by decide); omega) (ca_tank (show 1 < 18 by decide)) rfl hl.1 rfl (rest := []) rfl (Nat.le_of_ble_eq_true rfl) dX8_warmAfter_40 ⟨by decide, by decide⟩ (fun H locs hw hS _ => ?_)
    refine lv_iload_n hx hb dX8_warmAfter_43 rfl (lv_at hl 1 rfl) ?_
    refine lv_icmp_lt (tgt := 49) hx hb dX8_warmAfter_44 (by decide) (fun h23 => ?_) (fun h23 => ?_)
    · have hF := it_t h23 hF
      refine lv_aload_n hx hb dX8_warmAfter_49 rfl (lv_at hl 0 rfl) ?_
      refine gX8_23 hC hw (by omega)  dX8_warmAfter_50 ?_
      refine lv_iconst (v := 1) hx hb dX8_warmAfter_53 (by decide) ?_
      refine lv_iload_n hx hb dX8_warmAfter_54 rfl (lv_at hl 2 rfl) ?_
      obtain ⟨r24, C25, hc26, hF⟩ := b2_t hF
      refine call_Vv hC (c_X5_passTicks l G n (by omega) hn2 1 (show 1 < 18 by decide) (1 : Int32) x1 _ _ _ hc26) wvX8_218 ⟨rfl, rfl, by decide, by decide⟩ hw hS (by have := po_lt (show 1 < 18 by decide); omega) (ca_plant (show 1 < 18 by decide)) rfl hl.1 rfl (rest := []) rfl (Nat.le_of_ble_eq_true rfl) dX8_warmAfter_55 ⟨by decide, by decide⟩ (fun H locs hw hS _ => ?_)
      obtain ⟨v27, ev27, hF⟩ := nm_t hF
      refine lv_iinc (v := v27) (lv' := [(3, .int v27), (0, .ref (bb G + 0)), (1, .int x0), (2, .int x1)]) hx hb dX8_warmAfter_58 hl (k := 3) rfl (by rw [ev27]; rfl) (by decide) rfl (fun ls hl => ?_)
      refine lv_goto (tgt := 26) hx hb dX8_warmAfter_61 (by decide) ?_
      exact it_back hF hk16 _ _ _ hw hS (lv_sub hl [1, 2, 3, 0] rfl)
    · have hF := it_f h23 hF
      refine lv_iload_n hx hb dX8_warmAfter_47 rfl (lv_at hl 3 rfl) ?_
      have hF := se_r (it_exit hF hX16).symm hG16
      exact m_iretX hC hr hlk hw hS (by decide) (by decide) dX8_warmAfter_48 hF
set_option maxHeartbeats 4000000 in
set_option maxRecDepth 100000 in
theorem c_X8_staysHot (l : Launch) (G : GG) (n : Nat) (hn : 244 ≤ n) (hn2 : 0 ≤ n) (x0 : Int32) (x1 : Int32) (x2 : Int32) (C : Mem) (rR : Int32) (CR : Mem) (hF : F_X8_staysHot x0 x1 x2 C = some (rR, CR)) : Ct l yX8_staysHot cX8_staysHot 5 (some .boolean) (rmN 5 117) G n C [.ref (bb G + 0), .int x0, .int x1, .int x2] (some (.int rR)) CR := by
  refine Ct.of (by decide) (Nat.le_of_ble_eq_true rfl) ?_
  intro p e s m below meth c ls hC hr hlk hw hl
  have hx := hC.1
  have hb := hC.2.1
  have hS : LW G s s.heap [] := va_S.rf
  have hl : lv_has ls 5 [(0, .ref (bb G + 0)), (1, .int x0), (2, .int x1), (3, .int x2)] := hl
  unfold F_X8_staysHot at hF
  refine lv_aload_n hx hb dX8_staysHot_0 rfl (lv_at hl 0 rfl) ?_
  refine gX8_23 hC hw (by omega)  dX8_staysHot_1 ?_
  refine lv_aload_n hx hb dX8_staysHot_4 rfl (lv_at hl 0 rfl) ?_
  refine gX8_19 hC hw (by omega)  dX8_staysHot_5 ?_
  obtain ⟨r1, C2, hc3, hF⟩ := b2_t hF
  refine call_Vv hC (c_X5_copyFrom l G n (by omega) hn2 1 (show 1 < 18 by decide) 0 (show 0 < 18 by decide) _ _ _ hc3) wvX8_269 ⟨rfl, rfl, by decide, by decide⟩ hw hS (by have := po_lt (show 1 < 18 by decide); omega) (ca_plant (show 1 < 18 by decide)) rfl hl.1 rfl (rest := []) rfl (Nat.le_of_ble_eq_true rfl) dX8_staysHot_8 ⟨by decide, by decide⟩ (fun H locs hw hS _ => ?_)
  refine lv_iconst (v := 0) hx hb dX8_staysHot_11 (by decide) ?_
  refine lv_istore (lv' := [(4, .int (0 : Int32)), (0, .ref (bb G + 0)), (1, .int x0), (2, .int x1), (3, .int x2)]) hx hb dX8_staysHot_12 hl (by decide) rfl (fun ls hl => ?_)
  obtain ⟨o6, hit6, hG6⟩ := b1_t hF
  have hR6 : ∀ (v7 : Int32) (C8 : Mem) (H : Heap) (locs : List Loc) (ls : Array Slot), o6 = Sum.inl (v7, C8) → Wd G n C8 H → LW G s H locs → lv_has ls 5 [] → W p l e (rmN 5 117) s m ([.ref (bb G + 0), .int x0, .int x1, .int x2] : List Value).toArray below meth c H locs 0 0 (MQ below (QR G n (some (.int rR)) CR) ([.ref (bb G + 0), .int x0, .int x1, .int x2] : List Value).toArray s 0 0 (frA G)) (F0 m 51 ls []) := by
    intro v7 C8 H locs ls hE hw hS hl
    subst hE
    have hF := u2_t (se_l rfl hG6)
    refine lv_iconst (v := 1) hx hb dX8_staysHot_51 (by decide) ?_
    exact m_zret hC hr hlk hw hS dX8_staysHot_52 (by decide) hF
  refine iter_sound (P := fun x : Int32 × Mem => ∀ (H : Heap) (locs : List Loc) (ls : Array Slot), Wd G n x.2 H → LW G s H locs → lv_has ls 5 [(0, .ref (bb G + 0)), (1, .int x0), (2, .int x1), (3, .int x2), (4, .int x.1)] → W p l e (rmN 5 117) s m ([.ref (bb G + 0), .int x0, .int x1, .int x2] : List Value).toArray below meth c H locs 0 0 (MQ below (QR G n (some (.int rR)) CR) ([.ref (bb G + 0), .int x0, .int x1, .int x2] : List Value).toArray s 0 0 (frA G)) (F0 m 14 ls [])) (X := fun r => r = o6) ?_ fuel ((0 : Int32), C2) o6 hit6 rfl _ _ _ hw hS (lv_sub hl [1, 2, 3, 4, 0] rfl)
  intro x oo6 hF hk6 hX6 H locs ls hw hS hl
  obtain ⟨v4, C5⟩ := x
  have hF : S_X8_staysHot_14 x0 x1 x2 v4 C5 = some oo6 := hF
  have hw : Wd G n C5 H := hw
  have hl : lv_has ls 5 [(0, .ref (bb G + 0)), (1, .int x0), (2, .int x1), (3, .int x2), (4, .int v4)] := hl
  unfold S_X8_staysHot_14 at hF
  refine lv_iload hx hb dX8_staysHot_14 (lv_at hl 4 rfl) ?_
  refine lv_iload_n hx hb dX8_staysHot_16 rfl (lv_at hl 1 rfl) ?_
  refine lv_icmp_ge (tgt := 51) hx hb dX8_staysHot_17 (by decide) (fun h9 => ?_) (fun h9 => ?_)
  · have hF := it_t h9 hF
    exact hR6 _ _ _ _ _ (it_exit hF hX6).symm hw hS (lv_sub hl [] rfl)
  · have hF := it_f h9 hF
    refine lv_aload_n hx hb dX8_staysHot_20 rfl (lv_at hl 0 rfl) ?_
    refine gX8_23 hC hw (by omega)  dX8_staysHot_21 ?_
    refine lv_iconst (v := 1) hx hb dX8_staysHot_24 (by decide) ?_
    refine lv_iload_n hx hb dX8_staysHot_25 rfl (lv_at hl 2 rfl) ?_
    obtain ⟨r10, C11, hc12, hF⟩ := b2_t hF
    refine call_Vv hC (c_X5_passTicks l G n (by omega) hn2 1 (show 1 < 18 by decide) (1 : Int32) x1 _ _ _ hc12) wvX8_218 ⟨rfl, rfl, by decide, by decide⟩ hw hS (by have := po_lt (show 1 < 18 by decide); omega) (ca_plant (show 1 < 18 by decide)) rfl hl.1 rfl (rest := []) rfl (Nat.le_of_ble_eq_true rfl) dX8_staysHot_26 ⟨by decide, by decide⟩ (fun H locs hw hS _ => ?_)
    refine lv_aload_n hx hb dX8_staysHot_29 rfl (lv_at hl 0 rfl) ?_
    refine gX8_23 hC hw (by omega)  dX8_staysHot_30 ?_
    refine gX8_86 hC hw (by omega) (show 1 < 18 by decide) dX8_staysHot_33 ?_
    obtain ⟨r13, C14, hc15, hF⟩ := b2_t hF
    refine call_Vi hC (c_X7_highest l G n (by omega) hn2 1 (show 1 < 18 by decide) _ _ _ hc15) wvX8_278 ⟨rfl, rfl, by decide, by decide⟩ hw hS (by have := po_lt (show 1 < 18 by decide); omega) (ca_tank (show 1 < 18 by decide)) rfl hl.1 rfl (rest := []) rfl (Nat.le_of_ble_eq_true rfl) dX8_staysHot_36 ⟨by decide, by decide⟩ (fun H locs hw hS _ => ?_)
    refine lv_iload_n hx hb dX8_staysHot_39 rfl (lv_at hl 3 rfl) ?_
    refine lv_icmp_ge (tgt := 45) hx hb dX8_staysHot_40 (by decide) (fun h16 => ?_) (fun h16 => ?_)
    · have hF := it_t h16 hF
      obtain ⟨v17, ev17, hF⟩ := nm_t hF
      refine lv_iinc (v := v17) (lv' := [(4, .int v17), (0, .ref (bb G + 0)), (1, .int x0), (2, .int x1), (3, .int x2)]) hx hb dX8_staysHot_45 hl (k := 4) rfl (by rw [ev17]; rfl) (by decide) rfl (fun ls hl => ?_)
      refine lv_goto (tgt := 14) hx hb dX8_staysHot_48 (by decide) ?_
      exact it_back hF hk6 _ _ _ hw hS (lv_sub hl [1, 2, 3, 4, 0] rfl)
    · have hF := it_f h16 hF
      refine lv_iconst (v := 0) hx hb dX8_staysHot_43 (by decide) ?_
      have hF := se_r (it_exit hF hX6).symm hG6
      exact m_zret hC hr hlk hw hS dX8_staysHot_44 (by decide) hF
set_option maxHeartbeats 4000000 in
set_option maxRecDepth 100000 in
theorem c_X8_bearable (l : Launch) (G : GG) (n : Nat) (hn : 244 ≤ n) (hn2 : 0 ≤ n) (hfl : l.stackTraces = false) (x0 : Int32) (x1 : Int32) (C : Mem) (rR : Rs) (CR : Mem) (hF : F_X8_bearable x0 x1 C = some (rR, CR)) : CtX l yX8_bearable cX8_bearable 4 (some .int) (rmX 7 141 2 12) 2 12 G n C [.ref (bb G + 0), .int x0, .int x1] (fun v => some (.int v)) rR CR := by
  refine CtX.of (by decide) (Nat.le_of_ble_eq_true rfl) ?_
  intro p e s m below meth c ls hC hr hlk ht hw hl
  have hx := hC.1
  have hb := hC.2.1
  have hS : LW G s s.heap [] := va_S.rf
  have hl : lv_has ls 4 [(0, .ref (bb G + 0)), (1, .int x0), (2, .int x1)] := hl
  unfold F_X8_bearable at hF
  refine lv_iload_n hx hb dX8_bearable_0 rfl (lv_at hl 1 rfl) ?_
  refine lv_iconst (v := 1) hx hb dX8_bearable_1 (by decide) ?_
  refine lv_bipush (v := 96) hx hb dX8_bearable_2 (by decide) ?_
  obtain ⟨r1, C2, hc3, hF⟩ := b2_t hF
  refine call_SXv hC (c_X8_requireWithin l G n (by omega) hn2 hfl x0 (1 : Int32) (96 : Int32) _ _ _ hc3) wsX8_47 ⟨rfl, rfl, by decide, by decide⟩ hw hS hl.1 rfl (rest := []) rfl (Nat.le_of_ble_eq_true rfl) dX8_bearable_4 ⟨by decide, by decide⟩ (fun k ce q9 H locs h5 b1 b2 hw hS hce hcv hcl => m_out hC hlk ht hw hS b1 b2 hce hcv hcl (by decide) (by decide) (se_x h5 hF)) (fun v4 H locs h5 hw hS => ?_)
  have hF := se_l h5 hF
  refine lv_iload_n hx hb dX8_bearable_7 rfl (lv_at hl 2 rfl) ?_
  refine lv_bipush (v := 10) hx hb dX8_bearable_8 (by decide) ?_
  refine lv_bipush (v := 80) hx hb dX8_bearable_10 (by decide) ?_
  obtain ⟨r6, C7, hc8, hF⟩ := b2_t hF
  refine call_SXv hC (c_X8_requireWithin l G n (by omega) hn2 hfl x1 (10 : Int32) (80 : Int32) _ _ _ hc8) wsX8_47 ⟨rfl, rfl, by decide, by decide⟩ hw hS hl.1 rfl (rest := []) rfl (Nat.le_of_ble_eq_true rfl) dX8_bearable_12 ⟨by decide, by decide⟩ (fun k ce q9 H locs h10 b1 b2 hw hS hce hcv hcl => m_out hC hlk ht hw hS b1 b2 hce hcv hcl (by decide) (by decide) (se_x h10 hF)) (fun v9 H locs h10 hw hS => ?_)
  have hF := se_l h10 hF
  refine lv_iconst (v := 5) hx hb dX8_bearable_15 (by decide) ?_
  refine lv_istore_n (lv' := [(3, .int (5 : Int32)), (0, .ref (bb G + 0)), (1, .int x0), (2, .int x1)]) hx hb dX8_bearable_16 rfl hl (by decide) rfl (fun ls hl => ?_)
  obtain ⟨o13, hit13, hG13⟩ := b1_t hF
  have hR13 : ∀ (v14 : Int32) (C15 : Mem) (H : Heap) (locs : List Loc) (ls : Array Slot), o13 = Sum.inl (v14, C15) → Wd G n C15 H → LW G s H locs → lv_has ls 4 [] → W p l e (rmX 7 141 2 12) s m ([.ref (bb G + 0), .int x0, .int x1] : List Value).toArray below meth c H locs 2 12 (vx_MQ below (QX G n (fun v => some (.int v)) rR CR) (XX G n rR CR) ([.ref (bb G + 0), .int x0, .int x1] : List Value).toArray s 2 12 (frA G)) (F0 m 39 ls []) := by
    intro v14 C15 H locs ls hE hw hS hl
    subst hE
    have hF := u2_t (se_l rfl hG13)
    refine lv_bipush (v := -9) hx hb dX8_bearable_39 (by decide) ?_
    exact m_iretX hC hr hlk hw hS (by decide) (by decide) dX8_bearable_41 hF
  refine iter_sound (P := fun x : Int32 × Mem => ∀ (H : Heap) (locs : List Loc) (ls : Array Slot), Wd G n x.2 H → LW G s H locs → lv_has ls 4 [(0, .ref (bb G + 0)), (1, .int x0), (2, .int x1), (3, .int x.1)] → W p l e (rmX 7 141 2 12) s m ([.ref (bb G + 0), .int x0, .int x1] : List Value).toArray below meth c H locs 2 12 (vx_MQ below (QX G n (fun v => some (.int v)) rR CR) (XX G n rR CR) ([.ref (bb G + 0), .int x0, .int x1] : List Value).toArray s 2 12 (frA G)) (F0 m 17 ls [])) (X := fun r => r = o13) ?_ fuel ((5 : Int32), C7) o13 hit13 rfl _ _ _ hw hS (lv_sub hl [1, 2, 3, 0] rfl)
  intro x oo13 hF hk13 hX13 H locs ls hw hS hl
  obtain ⟨v11, C12⟩ := x
  have hF : S_X8_bearable_17 x0 x1 v11 C12 = some oo13 := hF
  have hw : Wd G n C12 H := hw
  have hl : lv_has ls 4 [(0, .ref (bb G + 0)), (1, .int x0), (2, .int x1), (3, .int v11)] := hl
  unfold S_X8_bearable_17 at hF
  refine lv_iload_n hx hb dX8_bearable_17 rfl (lv_at hl 3 rfl) ?_
  refine lv_if_lt (tgt := 39) hx hb dX8_bearable_18 (by decide) (fun h16 => ?_) (fun h16 => ?_)
  · have hF := it_t h16 hF
    exact hR13 _ _ _ _ _ (it_exit hF hX13).symm hw hS (lv_sub hl [] rfl)
  · have hF := it_f h16 hF
    refine lv_aload_n hx hb dX8_bearable_21 rfl (lv_at hl 0 rfl) ?_
    refine lv_iload_n hx hb dX8_bearable_22 rfl (lv_at hl 1 rfl) ?_
    refine lv_iload_n hx hb dX8_bearable_23 rfl (lv_at hl 3 rfl) ?_
    refine lv_iload_n hx hb dX8_bearable_24 rfl (lv_at hl 2 rfl) ?_
    obtain ⟨r17, C18, hc19, hF⟩ := b2_t hF
    refine call_Vi hC (c_X8_staysHot l G n (by omega) hn2 x0 v11 x1 _ _ _ hc19) wvX8_283 ⟨rfl, rfl, by decide, by decide⟩ hw hS (by omega) ca_casc rfl hl.1 rfl (rest := []) rfl (Nat.le_of_ble_eq_true rfl) dX8_bearable_25 ⟨by decide, by decide⟩ (fun H locs hw hS _ => ?_)
    refine lv_if_eq (tgt := 33) hx hb dX8_bearable_28 (by decide) (fun h20 => ?_) (fun h20 => ?_)
    · have hF := it_t h20 hF
      obtain ⟨v21, ev21, hF⟩ := nm_t hF
      refine lv_iinc (v := v21) (lv' := [(3, .int v21), (0, .ref (bb G + 0)), (1, .int x0), (2, .int x1)]) hx hb dX8_bearable_33 hl (k := 3) rfl (by rw [ev21]; rfl) (by decide) rfl (fun ls hl => ?_)
      refine lv_goto (tgt := 17) hx hb dX8_bearable_36 (by decide) ?_
      exact it_back hF hk13 _ _ _ hw hS (lv_sub hl [1, 2, 3, 0] rfl)
    · have hF := it_f h20 hF
      refine lv_iload_n hx hb dX8_bearable_31 rfl (lv_at hl 3 rfl) ?_
      have hF := se_r (it_exit hF hX13).symm hG13
      exact m_iretX hC hr hlk hw hS (by decide) (by decide) dX8_bearable_32 hF
set_option maxHeartbeats 4000000 in
set_option maxRecDepth 100000 in
theorem c_X8_cheapestPurge (l : Launch) (G : GG) (n : Nat) (hn : 244 ≤ n) (hn2 : 0 ≤ n) (hfl : l.stackTraces = false) (x0 : Int32) (x1 : Int32) (C : Mem) (rR : Rs) (CR : Mem) (hF : F_X8_cheapestPurge x0 x1 C = some (rR, CR)) : CtX l yX8_cheapestPurge cX8_cheapestPurge 7 (some .int) (rmX 8 129 2 12) 2 12 G n C [.ref (bb G + 0), .int x0, .int x1] (fun v => some (.int v)) rR CR := by
  refine CtX.of (by decide) (Nat.le_of_ble_eq_true rfl) ?_
  intro p e s m below meth c ls hC hr hlk ht hw hl
  have hx := hC.1
  have hb := hC.2.1
  have hS : LW G s s.heap [] := va_S.rf
  have hl : lv_has ls 7 [(0, .ref (bb G + 0)), (1, .int x0), (2, .int x1)] := hl
  unfold F_X8_cheapestPurge at hF
  refine lv_iload_n hx hb dX8_cheapestPurge_0 rfl (lv_at hl 1 rfl) ?_
  refine lv_iload_n hx hb dX8_cheapestPurge_1 rfl (lv_at hl 2 rfl) ?_
  obtain ⟨r1, C2, hc3, hF⟩ := b2_t hF
  refine call_SXv hC (c_X8_requireTicks l G n (by omega) hn2 hfl x0 x1 _ _ _ hc3) wsX8_210 ⟨rfl, rfl, by decide, by decide⟩ hw hS hl.1 rfl (rest := []) rfl (Nat.le_of_ble_eq_true rfl) dX8_cheapestPurge_2 ⟨by decide, by decide⟩ (fun k ce q9 H locs h5 b1 b2 hw hS hce hcv hcl => m_out hC hlk ht hw hS b1 b2 hce hcv hcl (by decide) (by decide) (se_x h5 hF)) (fun v4 H locs h5 hw hS => ?_)
  have hF := se_l h5 hF
  refine lv_bipush (v := -9) hx hb dX8_cheapestPurge_5 (by decide) ?_
  refine lv_istore_n (lv' := [(3, .int (-9 : Int32)), (0, .ref (bb G + 0)), (1, .int x0), (2, .int x1)]) hx hb dX8_cheapestPurge_7 rfl hl (by decide) rfl (fun ls hl => ?_)
  refine lv_iconst (v := 0) hx hb dX8_cheapestPurge_8 (by decide) ?_
  refine lv_istore (lv' := [(4, .int (0 : Int32)), (3, .int (-9 : Int32)), (0, .ref (bb G + 0)), (1, .int x0), (2, .int x1)]) hx hb dX8_cheapestPurge_9 hl (by decide) rfl (fun ls hl => ?_)
  refine m_gets hC hS hC.2.2.2.2.2.1.2.1.1 (lg 769 (by decide +kernel) rfl) dX8_cheapestPurge_11 ?_
  refine lv_iconst (v := 2) hx hb dX8_cheapestPurge_14 (by decide) ?_
  refine m_sald hC hS hC.2.2.2.2.2.1.2.1.2 (show vp_in (2 : Int32) 6 by unfold vp_in; decide) dX8_cheapestPurge_15 ?_
  obtain ⟨v6, ev6, hF⟩ := nm_t hF
  refine lv_nmi ev6 ?_
  refine lv_istore (lv' := [(5, .int v6), (4, .int (0 : Int32)), (3, .int (-9 : Int32)), (0, .ref (bb G + 0)), (1, .int x0), (2, .int x1)]) hx hb dX8_cheapestPurge_16 hl (by decide) rfl (fun ls hl => ?_)
  obtain ⟨o11, hit11, hG11⟩ := b1_t hF
  have hR11 : ∀ (v12 : Int32) (v13 : Int32) (v14 : Int32) (C15 : Mem) (H : Heap) (locs : List Loc) (ls : Array Slot), o11 = (v12, v13, v14, C15) → Wd G n C15 H → LW G s H locs → lv_has ls 7 [(3, .int v12)] → W p l e (rmX 8 129 2 12) s m ([.ref (bb G + 0), .int x0, .int x1] : List Value).toArray below meth c H locs 2 12 (vx_MQ below (QX G n (fun v => some (.int v)) rR CR) (XX G n rR CR) ([.ref (bb G + 0), .int x0, .int x1] : List Value).toArray s 2 12 (frA G)) (F0 m 94 ls []) := by
    intro v12 v13 v14 C15 H locs ls hE hw hS hl
    subst hE
    have hF := u4_t (hG11)
    refine lv_iload_n hx hb dX8_cheapestPurge_94 rfl (lv_at hl 0 rfl) ?_
    exact m_iretX hC hr hlk hw hS (by decide) (by decide) dX8_cheapestPurge_95 hF
  refine iter_sound (P := fun x : Int32 × Int32 × Int32 × Mem => ∀ (H : Heap) (locs : List Loc) (ls : Array Slot), Wd G n x.2.2.2 H → LW G s H locs → lv_has ls 7 [(0, .ref (bb G + 0)), (1, .int x0), (2, .int x1), (3, .int x.1), (4, .int x.2.1), (5, .int x.2.2.1)] → W p l e (rmX 8 129 2 12) s m ([.ref (bb G + 0), .int x0, .int x1] : List Value).toArray below meth c H locs 2 12 (vx_MQ below (QX G n (fun v => some (.int v)) rR CR) (XX G n rR CR) ([.ref (bb G + 0), .int x0, .int x1] : List Value).toArray s 2 12 (frA G)) (F0 m 18 ls [])) (X := fun r => r = o11) ?_ fuel ((-9 : Int32), (0 : Int32), v6, C2) o11 hit11 rfl _ _ _ hw hS (lv_sub hl [3, 4, 5, 2, 1, 0] rfl)
  intro x oo11 hF hk11 hX11 H locs ls hw hS hl
  obtain ⟨v7, v8, v9, C10⟩ := x
  have hF : S_X8_cheapestPurge_18 x0 x1 v7 v8 v9 C10 = some oo11 := hF
  have hw : Wd G n C10 H := hw
  have hl : lv_has ls 7 [(0, .ref (bb G + 0)), (1, .int x0), (2, .int x1), (3, .int v7), (4, .int v8), (5, .int v9)] := hl
  unfold S_X8_cheapestPurge_18 at hF
  refine lv_iload hx hb dX8_cheapestPurge_18 (lv_at hl 5 rfl) ?_
  refine m_gets hC hS hC.2.2.2.2.2.1.2.2.1.1 (lg 771 (by decide +kernel) rfl) dX8_cheapestPurge_20 ?_
  refine lv_iconst (v := 2) hx hb dX8_cheapestPurge_23 (by decide) ?_
  refine m_sald hC hS hC.2.2.2.2.2.1.2.2.1.2 (show vp_in (2 : Int32) 6 by unfold vp_in; decide) dX8_cheapestPurge_24 ?_
  refine lv_icmp_gt (tgt := 94) hx hb dX8_cheapestPurge_25 (by decide) (fun h16 => ?_) (fun h16 => ?_)
  · have hF := it_t h16 hF
    exact hR11 _ _ _ _ _ _ _ (it_exit hF hX11).symm hw hS (lv_sub hl [3] rfl)
  · have hF := it_f h16 hF
    refine lv_aload_n hx hb dX8_cheapestPurge_28 rfl (lv_at hl 0 rfl) ?_
    refine gX8_23 hC hw (by omega)  dX8_cheapestPurge_29 ?_
    refine lv_aload_n hx hb dX8_cheapestPurge_32 rfl (lv_at hl 0 rfl) ?_
    refine gX8_19 hC hw (by omega)  dX8_cheapestPurge_33 ?_
    obtain ⟨r17, C18, hc19, hF⟩ := b2_t hF
    refine call_Vv hC (c_X5_copyFrom l G n (by omega) hn2 1 (show 1 < 18 by decide) 0 (show 0 < 18 by decide) _ _ _ hc19) wvX8_269 ⟨rfl, rfl, by decide, by decide⟩ hw hS (by have := po_lt (show 1 < 18 by decide); omega) (ca_plant (show 1 < 18 by decide)) rfl hl.1 rfl (rest := []) rfl (Nat.le_of_ble_eq_true rfl) dX8_cheapestPurge_36 ⟨by decide, by decide⟩ (fun H locs hw hS _ => ?_)
    refine lv_aload_n hx hb dX8_cheapestPurge_39 rfl (lv_at hl 0 rfl) ?_
    refine gX8_23 hC hw (by omega)  dX8_cheapestPurge_40 ?_
    refine gX8_82 hC hw (by omega) (show 1 < 18 by decide) dX8_cheapestPurge_43 ?_
    refine lv_iconst (v := 2) hx hb dX8_cheapestPurge_46 (by decide) ?_
    refine lv_iload hx hb dX8_cheapestPurge_47 (lv_at hl 5 rfl) ?_
    refine st_sett hC hw hS (by omega) (show 1 < 18 by decide) (show vp_in (2 : Int32) 6 by unfold vp_in; decide) dX8_cheapestPurge_49 (fun H locs hw hS _ => ?_)
    obtain ⟨C20, eC20, hF⟩ := nm_t hF
    have hw := Wd.cast eC20 hw
    refine lv_aload_n hx hb dX8_cheapestPurge_50 rfl (lv_at hl 0 rfl) ?_
    refine gX8_23 hC hw (by omega)  dX8_cheapestPurge_51 ?_
    refine lv_iload_n hx hb dX8_cheapestPurge_54 rfl (lv_at hl 1 rfl) ?_
    refine lv_iload_n hx hb dX8_cheapestPurge_55 rfl (lv_at hl 2 rfl) ?_
    obtain ⟨r21, C22, hc23, hF⟩ := b2_t hF
    refine call_Vv hC (c_X5_passTicks l G n (by omega) hn2 1 (show 1 < 18 by decide) x0 x1 _ _ _ hc23) wvX8_218 ⟨rfl, rfl, by decide, by decide⟩ hw hS (by have := po_lt (show 1 < 18 by decide); omega) (ca_plant (show 1 < 18 by decide)) rfl hl.1 rfl (rest := []) rfl (Nat.le_of_ble_eq_true rfl) dX8_cheapestPurge_56 ⟨by decide, by decide⟩ (fun H locs hw hS _ => ?_)
    refine lv_aload_n hx hb dX8_cheapestPurge_59 rfl (lv_at hl 0 rfl) ?_
    refine gX8_23 hC hw (by omega)  dX8_cheapestPurge_60 ?_
    obtain ⟨r24, C25, hc26, hF⟩ := b2_t hF
    refine call_Vi hC (c_X5_fuel l G n (by omega) hn2 1 (show 1 < 18 by decide) _ _ _ hc26) wvX8_205 ⟨rfl, rfl, by decide, by decide⟩ hw hS (by have := po_lt (show 1 < 18 by decide); omega) (ca_plant (show 1 < 18 by decide)) rfl hl.1 rfl (rest := []) rfl (Nat.le_of_ble_eq_true rfl) dX8_cheapestPurge_63 ⟨by decide, by decide⟩ (fun H locs hw hS _ => ?_)
    refine lv_istore (lv' := [(6, .int r24), (0, .ref (bb G + 0)), (1, .int x0), (2, .int x1), (3, .int v7), (4, .int v8), (5, .int v9)]) hx hb dX8_cheapestPurge_66 hl (by decide) rfl (fun ls hl => ?_)
    refine lv_iload_n hx hb dX8_cheapestPurge_68 rfl (lv_at hl 4 rfl) ?_
    refine lv_bipush (v := -9) hx hb dX8_cheapestPurge_69 (by decide) ?_
    refine lv_icmp_eq (tgt := 81) hx hb dX8_cheapestPurge_71 (by decide) (fun h27 => ?_) (fun h27 => ?_)
    · have hF := it_t h27 hF
      refine lv_iload hx hb dX8_cheapestPurge_81 (lv_at hl 0 rfl) ?_
      refine lv_istore (lv' := [(4, .int r24), (6, .int r24), (0, .ref (bb G + 0)), (1, .int x0), (2, .int x1), (3, .int v7), (5, .int v9)]) hx hb dX8_cheapestPurge_83 hl (by decide) rfl (fun ls hl => ?_)
      refine lv_iload hx hb dX8_cheapestPurge_85 (lv_at hl 6 rfl) ?_
      refine lv_istore_n (lv' := [(3, .int v9), (4, .int r24), (6, .int r24), (0, .ref (bb G + 0)), (1, .int x0), (2, .int x1), (5, .int v9)]) hx hb dX8_cheapestPurge_87 rfl hl (by decide) rfl (fun ls hl => ?_)
      obtain ⟨v28, ev28, hF⟩ := nm_t hF
      refine lv_iinc (v := v28) (lv' := [(5, .int v28), (3, .int v9), (4, .int r24), (6, .int r24), (0, .ref (bb G + 0)), (1, .int x0), (2, .int x1)]) hx hb dX8_cheapestPurge_88 hl (k := 6) rfl (by rw [ev28]; rfl) (by decide) rfl (fun ls hl => ?_)
      refine lv_goto (tgt := 18) hx hb dX8_cheapestPurge_91 (by decide) ?_
      exact it_back hF hk11 _ _ _ hw hS (lv_sub hl [4, 5, 6, 1, 2, 0] rfl)
    · have hF := it_f h27 hF
      refine lv_iload hx hb dX8_cheapestPurge_74 (lv_at hl 0 rfl) ?_
      refine lv_iload hx hb dX8_cheapestPurge_76 (lv_at hl 5 rfl) ?_
      refine lv_icmp_ge (tgt := 88) hx hb dX8_cheapestPurge_78 (by decide) (fun h29 => ?_) (fun h29 => ?_)
      · have hF := it_t h29 hF
        obtain ⟨v30, ev30, hF⟩ := nm_t hF
        refine lv_iinc (v := v30) (lv' := [(5, .int v30), (6, .int r24), (0, .ref (bb G + 0)), (1, .int x0), (2, .int x1), (3, .int v7), (4, .int v8)]) hx hb dX8_cheapestPurge_88 hl (k := 6) rfl (by rw [ev30]; rfl) (by decide) rfl (fun ls hl => ?_)
        refine lv_goto (tgt := 18) hx hb dX8_cheapestPurge_91 (by decide) ?_
        exact it_back hF hk11 _ _ _ hw hS (lv_sub hl [2, 3, 4, 5, 6, 0] rfl)
      · have hF := it_f h29 hF
        refine lv_iload hx hb dX8_cheapestPurge_81 (lv_at hl 0 rfl) ?_
        refine lv_istore (lv' := [(4, .int r24), (6, .int r24), (0, .ref (bb G + 0)), (1, .int x0), (2, .int x1), (3, .int v7), (5, .int v9)]) hx hb dX8_cheapestPurge_83 hl (by decide) rfl (fun ls hl => ?_)
        refine lv_iload hx hb dX8_cheapestPurge_85 (lv_at hl 6 rfl) ?_
        refine lv_istore_n (lv' := [(3, .int v9), (4, .int r24), (6, .int r24), (0, .ref (bb G + 0)), (1, .int x0), (2, .int x1), (5, .int v9)]) hx hb dX8_cheapestPurge_87 rfl hl (by decide) rfl (fun ls hl => ?_)
        obtain ⟨v31, ev31, hF⟩ := nm_t hF
        refine lv_iinc (v := v31) (lv' := [(5, .int v31), (3, .int v9), (4, .int r24), (6, .int r24), (0, .ref (bb G + 0)), (1, .int x0), (2, .int x1)]) hx hb dX8_cheapestPurge_88 hl (k := 6) rfl (by rw [ev31]; rfl) (by decide) rfl (fun ls hl => ?_)
        refine lv_goto (tgt := 18) hx hb dX8_cheapestPurge_91 (by decide) ?_
        exact it_back hF hk11 _ _ _ hw hS (lv_sub hl [4, 5, 6, 1, 2, 0] rfl)
set_option maxHeartbeats 4000000 in
set_option maxRecDepth 100000 in
theorem c_X8_isAllowed (l : Launch) (G : GG) (n : Nat) (hn : 244 ≤ n) (hn2 : 0 ≤ n) (x0 : Int32) (x1 : Int32) (x2 : Int32) (C : Mem) (rR : Int32) (CR : Mem) (hF : F_X8_isAllowed x0 x1 x2 C = some (rR, CR)) : Ct l yX8_isAllowed cX8_isAllowed 4 (some .boolean) (rmN 1 22) G n C [.ref (bb G + 0), .int x0, .int x1, .int x2] (some (.int rR)) CR := by
  refine Ct.of (by decide) (Nat.le_of_ble_eq_true rfl) ?_
  intro p e s m below meth c ls hC hr hlk hw hl
  have hx := hC.1
  have hb := hC.2.1
  have hS : LW G s s.heap [] := va_S.rf
  have hl : lv_has ls 4 [(0, .ref (bb G + 0)), (1, .int x0), (2, .int x1), (3, .int x2)] := hl
  unfold F_X8_isAllowed at hF
  refine lv_iload_n hx hb dX8_isAllowed_0 rfl (lv_at hl 1 rfl) ?_
  by_cases h1 : x0 = (1 : Int32)
  · have hF := it_t h1 hF
    refine lv_tableIn (tgt := 52) (off := 51) hx hb dX8_isAllowed_1 (by rw [h1]; decide) (by rw [h1]; decide) (by rw [h1]; rfl) (by decide) ?_
    refine lv_iload_n hx hb dX8_isAllowed_52 rfl (lv_at hl 2 rfl) ?_
    refine lv_iconst (v := 5) hx hb dX8_isAllowed_53 (by decide) ?_
    refine lv_icmp_gt (tgt := 72) hx hb dX8_isAllowed_54 (by decide) (fun h10 => ?_) (fun h10 => ?_)
    · have hF := it_t h10 hF
      refine lv_iconst (v := 0) hx hb dX8_isAllowed_72 (by decide) ?_
      exact m_zret hC hr hlk hw hS dX8_isAllowed_73 (by decide) hF
    · have hF := it_f h10 hF
      refine lv_iload_n hx hb dX8_isAllowed_57 rfl (lv_at hl 3 rfl) ?_
      refine lv_iconst (v := 1) hx hb dX8_isAllowed_58 (by decide) ?_
      refine lv_icmp_lt (tgt := 72) hx hb dX8_isAllowed_59 (by decide) (fun h11 => ?_) (fun h11 => ?_)
      · have hF := it_t h11 hF
        refine lv_iconst (v := 0) hx hb dX8_isAllowed_72 (by decide) ?_
        exact m_zret hC hr hlk hw hS dX8_isAllowed_73 (by decide) hF
      · have hF := it_f h11 hF
        refine lv_iload_n hx hb dX8_isAllowed_62 rfl (lv_at hl 3 rfl) ?_
        refine lv_bipush (v := 96) hx hb dX8_isAllowed_63 (by decide) ?_
        refine lv_icmp_gt (tgt := 72) hx hb dX8_isAllowed_65 (by decide) (fun h12 => ?_) (fun h12 => ?_)
        · have hF := it_t h12 hF
          refine lv_iconst (v := 0) hx hb dX8_isAllowed_72 (by decide) ?_
          exact m_zret hC hr hlk hw hS dX8_isAllowed_73 (by decide) hF
        · have hF := it_f h12 hF
          refine lv_iconst (v := 1) hx hb dX8_isAllowed_68 (by decide) ?_
          refine lv_goto (tgt := 73) hx hb dX8_isAllowed_69 (by decide) ?_
          exact m_zret hC hr hlk hw hS dX8_isAllowed_73 (by decide) hF
  have hF := it_f h1 hF
  by_cases h2 : x0 = (2 : Int32)
  · have hF := it_t h2 hF
    refine lv_tableIn (tgt := 74) (off := 73) hx hb dX8_isAllowed_1 (by rw [h2]; decide) (by rw [h2]; decide) (by rw [h2]; rfl) (by decide) ?_
    refine lv_iload_n hx hb dX8_isAllowed_74 rfl (lv_at hl 2 rfl) ?_
    refine lv_if_ne (tgt := 93) hx hb dX8_isAllowed_75 (by decide) (fun h13 => ?_) (fun h13 => ?_)
    · have hF := it_f h13 hF
      refine lv_iconst (v := 0) hx hb dX8_isAllowed_93 (by decide) ?_
      exact m_zret hC hr hlk hw hS dX8_isAllowed_94 (by decide) hF
    · have hF := it_t h13 hF
      refine lv_iload_n hx hb dX8_isAllowed_78 rfl (lv_at hl 3 rfl) ?_
      refine lv_iconst (v := 1) hx hb dX8_isAllowed_79 (by decide) ?_
      refine lv_icmp_lt (tgt := 93) hx hb dX8_isAllowed_80 (by decide) (fun h14 => ?_) (fun h14 => ?_)
      · have hF := it_t h14 hF
        refine lv_iconst (v := 0) hx hb dX8_isAllowed_93 (by decide) ?_
        exact m_zret hC hr hlk hw hS dX8_isAllowed_94 (by decide) hF
      · have hF := it_f h14 hF
        refine lv_iload_n hx hb dX8_isAllowed_83 rfl (lv_at hl 3 rfl) ?_
        refine lv_bipush (v := 20) hx hb dX8_isAllowed_84 (by decide) ?_
        refine lv_icmp_gt (tgt := 93) hx hb dX8_isAllowed_86 (by decide) (fun h15 => ?_) (fun h15 => ?_)
        · have hF := it_t h15 hF
          refine lv_iconst (v := 0) hx hb dX8_isAllowed_93 (by decide) ?_
          exact m_zret hC hr hlk hw hS dX8_isAllowed_94 (by decide) hF
        · have hF := it_f h15 hF
          refine lv_iconst (v := 1) hx hb dX8_isAllowed_89 (by decide) ?_
          refine lv_goto (tgt := 94) hx hb dX8_isAllowed_90 (by decide) ?_
          exact m_zret hC hr hlk hw hS dX8_isAllowed_94 (by decide) hF
  have hF := it_f h2 hF
  by_cases h3 : x0 = (3 : Int32)
  · have hF := it_t h3 hF
    refine lv_tableIn (tgt := 95) (off := 94) hx hb dX8_isAllowed_1 (by rw [h3]; decide) (by rw [h3]; decide) (by rw [h3]; rfl) (by decide) ?_
    refine lv_iload_n hx hb dX8_isAllowed_95 rfl (lv_at hl 2 rfl) ?_
    refine lv_iload_n hx hb dX8_isAllowed_96 rfl (lv_at hl 3 rfl) ?_
    obtain ⟨r16, C17, hc18, hF⟩ := b2_t hF
    refine call_Si hC (c_X8_isSetting l G n (by omega) hn2 x1 x2 _ _ _ hc18) wsX8_224 ⟨rfl, rfl, by decide, by decide⟩ hw hS hl.1 rfl (rest := []) rfl (Nat.le_of_ble_eq_true rfl) dX8_isAllowed_97 ⟨by decide, by decide⟩ (fun H locs hw hS _ => ?_)
    obtain ⟨g19, hF⟩ := gb_t hF
    exact m_zret hC hr hlk hw hS dX8_isAllowed_100 g19 hF
  have hF := it_f h3 hF
  by_cases h4 : x0 = (4 : Int32)
  · have hF := it_t h4 hF
    refine lv_tableIn (tgt := 101) (off := 100) hx hb dX8_isAllowed_1 (by rw [h4]; decide) (by rw [h4]; decide) (by rw [h4]; rfl) (by decide) ?_
    refine lv_iload_n hx hb dX8_isAllowed_101 rfl (lv_at hl 2 rfl) ?_
    refine lv_iconst (v := 2) hx hb dX8_isAllowed_102 (by decide) ?_
    refine lv_icmp_ge (tgt := 115) hx hb dX8_isAllowed_103 (by decide) (fun h20 => ?_) (fun h20 => ?_)
    · have hF := it_t h20 hF
      refine lv_iconst (v := 0) hx hb dX8_isAllowed_115 (by decide) ?_
      exact m_zret hC hr hlk hw hS dX8_isAllowed_116 (by decide) hF
    · have hF := it_f h20 hF
      refine lv_iload_n hx hb dX8_isAllowed_106 rfl (lv_at hl 3 rfl) ?_
      refine lv_iconst (v := 1) hx hb dX8_isAllowed_107 (by decide) ?_
      refine lv_icmp_gt (tgt := 115) hx hb dX8_isAllowed_108 (by decide) (fun h21 => ?_) (fun h21 => ?_)
      · have hF := it_t h21 hF
        refine lv_iconst (v := 0) hx hb dX8_isAllowed_115 (by decide) ?_
        exact m_zret hC hr hlk hw hS dX8_isAllowed_116 (by decide) hF
      · have hF := it_f h21 hF
        refine lv_iconst (v := 1) hx hb dX8_isAllowed_111 (by decide) ?_
        refine lv_goto (tgt := 116) hx hb dX8_isAllowed_112 (by decide) ?_
        exact m_zret hC hr hlk hw hS dX8_isAllowed_116 (by decide) hF
  have hF := it_f h4 hF
  by_cases h5 : x0 = (5 : Int32)
  · have hF := it_t h5 hF
    refine lv_tableIn (tgt := 117) (off := 116) hx hb dX8_isAllowed_1 (by rw [h5]; decide) (by rw [h5]; decide) (by rw [h5]; rfl) (by decide) ?_
    refine lv_iload_n hx hb dX8_isAllowed_117 rfl (lv_at hl 3 rfl) ?_
    refine lv_if_ne (tgt := 152) hx hb dX8_isAllowed_118 (by decide) (fun h22 => ?_) (fun h22 => ?_)
    · have hF := it_f h22 hF
      refine lv_iconst (v := 0) hx hb dX8_isAllowed_152 (by decide) ?_
      exact m_zret hC hr hlk hw hS dX8_isAllowed_153 (by decide) hF
    · have hF := it_t h22 hF
      refine lv_aload_n hx hb dX8_isAllowed_121 rfl (lv_at hl 0 rfl) ?_
      refine gX8_23 hC hw (by omega)  dX8_isAllowed_122 ?_
      refine lv_iload_n hx hb dX8_isAllowed_125 rfl (lv_at hl 2 rfl) ?_
      obtain ⟨r23, C24, hc25, hF⟩ := b2_t hF
      refine call_Vi hC (c_X5_hasBoiler l G n (by omega) hn2 1 (show 1 < 18 by decide) x1 _ _ _ hc25) wvX8_321 ⟨rfl, rfl, by decide, by decide⟩ hw hS (by have := po_lt (show 1 < 18 by decide); omega) (ca_plant (show 1 < 18 by decide)) rfl hl.1 rfl (rest := []) rfl (Nat.le_of_ble_eq_true rfl) dX8_isAllowed_126 ⟨by decide, by decide⟩ (fun H locs hw hS _ => ?_)
      refine lv_if_eq (tgt := 152) hx hb dX8_isAllowed_129 (by decide) (fun h26 => ?_) (fun h26 => ?_)
      · have hF := it_t h26 hF
        refine lv_iconst (v := 0) hx hb dX8_isAllowed_152 (by decide) ?_
        exact m_zret hC hr hlk hw hS dX8_isAllowed_153 (by decide) hF
      · have hF := it_f h26 hF
        refine lv_aload_n hx hb dX8_isAllowed_132 rfl (lv_at hl 0 rfl) ?_
        refine gX8_23 hC hw (by omega)  dX8_isAllowed_133 ?_
        refine gX8_133 hC hw (by omega) (show 1 < 18 by decide) dX8_isAllowed_136 ?_
        refine lv_iload_n hx hb dX8_isAllowed_139 rfl (lv_at hl 2 rfl) ?_
        obtain ⟨g27, hF⟩ := gi_t hF
        refine ld_barr hC hw (by omega) (show 1 < 18 by decide) g27 dX8_isAllowed_140 ?_
        refine gX8_145 hC hw (by omega) (show 1 < 18 by decide) (vp_lt g27) dX8_isAllowed_141 ?_
        refine lv_iconst (v := 4) hx hb dX8_isAllowed_144 (by decide) ?_
        refine lv_icmp_eq (tgt := 152) hx hb dX8_isAllowed_145 (by decide) (fun h28 => ?_) (fun h28 => ?_)
        · have hF := it_t h28 hF
          refine lv_iconst (v := 0) hx hb dX8_isAllowed_152 (by decide) ?_
          exact m_zret hC hr hlk hw hS dX8_isAllowed_153 (by decide) hF
        · have hF := it_f h28 hF
          refine lv_iconst (v := 1) hx hb dX8_isAllowed_148 (by decide) ?_
          refine lv_goto (tgt := 153) hx hb dX8_isAllowed_149 (by decide) ?_
          exact m_zret hC hr hlk hw hS dX8_isAllowed_153 (by decide) hF
  have hF := it_f h5 hF
  by_cases h6 : x0 = (6 : Int32)
  · have hF := it_t h6 hF
    refine lv_tableIn (tgt := 154) (off := 153) hx hb dX8_isAllowed_1 (by rw [h6]; decide) (by rw [h6]; decide) (by rw [h6]; rfl) (by decide) ?_
    refine lv_iload_n hx hb dX8_isAllowed_154 rfl (lv_at hl 3 rfl) ?_
    refine lv_if_ne (tgt := 189) hx hb dX8_isAllowed_155 (by decide) (fun h29 => ?_) (fun h29 => ?_)
    · have hF := it_f h29 hF
      refine lv_iconst (v := 0) hx hb dX8_isAllowed_189 (by decide) ?_
      exact m_zret hC hr hlk hw hS dX8_isAllowed_190 (by decide) hF
    · have hF := it_t h29 hF
      refine lv_aload_n hx hb dX8_isAllowed_158 rfl (lv_at hl 0 rfl) ?_
      refine gX8_23 hC hw (by omega)  dX8_isAllowed_159 ?_
      refine lv_iload_n hx hb dX8_isAllowed_162 rfl (lv_at hl 2 rfl) ?_
      obtain ⟨r30, C31, hc32, hF⟩ := b2_t hF
      refine call_Vi hC (c_X5_hasBoiler l G n (by omega) hn2 1 (show 1 < 18 by decide) x1 _ _ _ hc32) wvX8_321 ⟨rfl, rfl, by decide, by decide⟩ hw hS (by have := po_lt (show 1 < 18 by decide); omega) (ca_plant (show 1 < 18 by decide)) rfl hl.1 rfl (rest := []) rfl (Nat.le_of_ble_eq_true rfl) dX8_isAllowed_163 ⟨by decide, by decide⟩ (fun H locs hw hS _ => ?_)
      refine lv_if_eq (tgt := 189) hx hb dX8_isAllowed_166 (by decide) (fun h33 => ?_) (fun h33 => ?_)
      · have hF := it_t h33 hF
        refine lv_iconst (v := 0) hx hb dX8_isAllowed_189 (by decide) ?_
        exact m_zret hC hr hlk hw hS dX8_isAllowed_190 (by decide) hF
      · have hF := it_f h33 hF
        refine lv_aload_n hx hb dX8_isAllowed_169 rfl (lv_at hl 0 rfl) ?_
        refine gX8_23 hC hw (by omega)  dX8_isAllowed_170 ?_
        refine gX8_133 hC hw (by omega) (show 1 < 18 by decide) dX8_isAllowed_173 ?_
        refine lv_iload_n hx hb dX8_isAllowed_176 rfl (lv_at hl 2 rfl) ?_
        obtain ⟨g34, hF⟩ := gi_t hF
        refine ld_barr hC hw (by omega) (show 1 < 18 by decide) g34 dX8_isAllowed_177 ?_
        refine gX8_145 hC hw (by omega) (show 1 < 18 by decide) (vp_lt g34) dX8_isAllowed_178 ?_
        refine lv_iconst (v := 4) hx hb dX8_isAllowed_181 (by decide) ?_
        refine lv_icmp_ne (tgt := 189) hx hb dX8_isAllowed_182 (by decide) (fun h35 => ?_) (fun h35 => ?_)
        · have hF := it_f h35 hF
          refine lv_iconst (v := 0) hx hb dX8_isAllowed_189 (by decide) ?_
          exact m_zret hC hr hlk hw hS dX8_isAllowed_190 (by decide) hF
        · have hF := it_t h35 hF
          refine lv_iconst (v := 1) hx hb dX8_isAllowed_185 (by decide) ?_
          refine lv_goto (tgt := 190) hx hb dX8_isAllowed_186 (by decide) ?_
          exact m_zret hC hr hlk hw hS dX8_isAllowed_190 (by decide) hF
  have hF := it_f h6 hF
  by_cases h7 : x0 = (7 : Int32)
  · have hF := it_t h7 hF
    refine lv_tableIn (tgt := 191) (off := 190) hx hb dX8_isAllowed_1 (by rw [h7]; decide) (by rw [h7]; decide) (by rw [h7]; rfl) (by decide) ?_
    refine lv_iload_n hx hb dX8_isAllowed_191 rfl (lv_at hl 2 rfl) ?_
    refine lv_if_ne (tgt := 219) hx hb dX8_isAllowed_192 (by decide) (fun h36 => ?_) (fun h36 => ?_)
    · have hF := it_f h36 hF
      refine lv_iconst (v := 0) hx hb dX8_isAllowed_219 (by decide) ?_
      exact m_zret hC hr hlk hw hS dX8_isAllowed_220 (by decide) hF
    · have hF := it_t h36 hF
      refine lv_iload_n hx hb dX8_isAllowed_195 rfl (lv_at hl 3 rfl) ?_
      refine lv_bipush (v := 99) hx hb dX8_isAllowed_196 (by decide) ?_
      refine lv_icmp_gt (tgt := 219) hx hb dX8_isAllowed_198 (by decide) (fun h37 => ?_) (fun h37 => ?_)
      · have hF := it_t h37 hF
        refine lv_iconst (v := 0) hx hb dX8_isAllowed_219 (by decide) ?_
        exact m_zret hC hr hlk hw hS dX8_isAllowed_220 (by decide) hF
      · have hF := it_f h37 hF
        refine lv_aload_n hx hb dX8_isAllowed_201 rfl (lv_at hl 0 rfl) ?_
        refine gX8_23 hC hw (by omega)  dX8_isAllowed_202 ?_
        refine gX8_86 hC hw (by omega) (show 1 < 18 by decide) dX8_isAllowed_205 ?_
        obtain ⟨r38, C39, hc40, hF⟩ := b2_t hF
        refine call_Vi hC (c_X7_mean l G n (by omega) hn2 1 (show 1 < 18 by decide) _ _ _ hc40) wvX8_98 ⟨rfl, rfl, by decide, by decide⟩ hw hS (by have := po_lt (show 1 < 18 by decide); omega) (ca_tank (show 1 < 18 by decide)) rfl hl.1 rfl (rest := []) rfl (Nat.le_of_ble_eq_true rfl) dX8_isAllowed_208 ⟨by decide, by decide⟩ (fun H locs hw hS _ => ?_)
        refine lv_iload_n hx hb dX8_isAllowed_211 rfl (lv_at hl 3 rfl) ?_
        refine lv_icmp_lt (tgt := 219) hx hb dX8_isAllowed_212 (by decide) (fun h41 => ?_) (fun h41 => ?_)
        · have hF := it_t h41 hF
          refine lv_iconst (v := 0) hx hb dX8_isAllowed_219 (by decide) ?_
          exact m_zret hC hr hlk hw hS dX8_isAllowed_220 (by decide) hF
        · have hF := it_f h41 hF
          refine lv_iconst (v := 1) hx hb dX8_isAllowed_215 (by decide) ?_
          refine lv_goto (tgt := 220) hx hb dX8_isAllowed_216 (by decide) ?_
          exact m_zret hC hr hlk hw hS dX8_isAllowed_220 (by decide) hF
  have hF := it_f h7 hF
  by_cases h8 : x0 = (8 : Int32)
  · have hF := it_t h8 hF
    refine lv_tableIn (tgt := 221) (off := 220) hx hb dX8_isAllowed_1 (by rw [h8]; decide) (by rw [h8]; decide) (by rw [h8]; rfl) (by decide) ?_
    refine lv_aload_n hx hb dX8_isAllowed_221 rfl (lv_at hl 0 rfl) ?_
    refine gX8_23 hC hw (by omega)  dX8_isAllowed_222 ?_
    refine lv_iload_n hx hb dX8_isAllowed_225 rfl (lv_at hl 2 rfl) ?_
    obtain ⟨r42, C43, hc44, hF⟩ := b2_t hF
    refine call_Vi hC (c_X5_hasBoiler l G n (by omega) hn2 1 (show 1 < 18 by decide) x1 _ _ _ hc44) wvX8_321 ⟨rfl, rfl, by decide, by decide⟩ hw hS (by have := po_lt (show 1 < 18 by decide); omega) (ca_plant (show 1 < 18 by decide)) rfl hl.1 rfl (rest := []) rfl (Nat.le_of_ble_eq_true rfl) dX8_isAllowed_226 ⟨by decide, by decide⟩ (fun H locs hw hS _ => ?_)
    refine lv_if_eq (tgt := 252) hx hb dX8_isAllowed_229 (by decide) (fun h45 => ?_) (fun h45 => ?_)
    · have hF := it_t h45 hF
      refine lv_iconst (v := 0) hx hb dX8_isAllowed_252 (by decide) ?_
      exact m_zret hC hr hlk hw hS dX8_isAllowed_253 (by decide) hF
    · have hF := it_f h45 hF
      refine lv_aload_n hx hb dX8_isAllowed_232 rfl (lv_at hl 0 rfl) ?_
      refine gX8_23 hC hw (by omega)  dX8_isAllowed_233 ?_
      refine gX8_133 hC hw (by omega) (show 1 < 18 by decide) dX8_isAllowed_236 ?_
      refine lv_iload_n hx hb dX8_isAllowed_239 rfl (lv_at hl 2 rfl) ?_
      obtain ⟨g46, hF⟩ := gi_t hF
      refine ld_barr hC hw (by omega) (show 1 < 18 by decide) g46 dX8_isAllowed_240 ?_
      refine gX8_145 hC hw (by omega) (show 1 < 18 by decide) (vp_lt g46) dX8_isAllowed_241 ?_
      refine lv_iload_n hx hb dX8_isAllowed_244 rfl (lv_at hl 3 rfl) ?_
      refine lv_icmp_ne (tgt := 252) hx hb dX8_isAllowed_245 (by decide) (fun h47 => ?_) (fun h47 => ?_)
      · have hF := it_f h47 hF
        refine lv_iconst (v := 0) hx hb dX8_isAllowed_252 (by decide) ?_
        exact m_zret hC hr hlk hw hS dX8_isAllowed_253 (by decide) hF
      · have hF := it_t h47 hF
        refine lv_iconst (v := 1) hx hb dX8_isAllowed_248 (by decide) ?_
        refine lv_goto (tgt := 253) hx hb dX8_isAllowed_249 (by decide) ?_
        exact m_zret hC hr hlk hw hS dX8_isAllowed_253 (by decide) hF
  have hF := it_f h8 hF
  by_cases h9 : x0 = (9 : Int32)
  · have hF := it_t h9 hF
    refine lv_tableIn (tgt := 254) (off := 253) hx hb dX8_isAllowed_1 (by rw [h9]; decide) (by rw [h9]; decide) (by rw [h9]; rfl) (by decide) ?_
    refine lv_iload_n hx hb dX8_isAllowed_254 rfl (lv_at hl 2 rfl) ?_
    refine lv_if_ne (tgt := 282) hx hb dX8_isAllowed_255 (by decide) (fun h48 => ?_) (fun h48 => ?_)
    · have hF := it_f h48 hF
      refine lv_iconst (v := 0) hx hb dX8_isAllowed_282 (by decide) ?_
      exact m_zret hC hr hlk hw hS dX8_isAllowed_283 (by decide) hF
    · have hF := it_t h48 hF
      refine lv_iload_n hx hb dX8_isAllowed_258 rfl (lv_at hl 3 rfl) ?_
      refine lv_bipush (v := 9) hx hb dX8_isAllowed_259 (by decide) ?_
      refine lv_icmp_gt (tgt := 282) hx hb dX8_isAllowed_261 (by decide) (fun h49 => ?_) (fun h49 => ?_)
      · have hF := it_t h49 hF
        refine lv_iconst (v := 0) hx hb dX8_isAllowed_282 (by decide) ?_
        exact m_zret hC hr hlk hw hS dX8_isAllowed_283 (by decide) hF
      · have hF := it_f h49 hF
        refine lv_aload_n hx hb dX8_isAllowed_264 rfl (lv_at hl 0 rfl) ?_
        refine gX8_23 hC hw (by omega)  dX8_isAllowed_265 ?_
        refine gX8_104 hC hw (by omega) (show 1 < 18 by decide) dX8_isAllowed_268 ?_
        refine gX8_119 hC hw (by omega) (show 1 < 18 by decide) dX8_isAllowed_271 ?_
        refine lv_iload_n hx hb dX8_isAllowed_274 rfl (lv_at hl 3 rfl) ?_
        refine lv_icmp_ne (tgt := 282) hx hb dX8_isAllowed_275 (by decide) (fun h50 => ?_) (fun h50 => ?_)
        · have hF := it_f h50 hF
          refine lv_iconst (v := 0) hx hb dX8_isAllowed_282 (by decide) ?_
          exact m_zret hC hr hlk hw hS dX8_isAllowed_283 (by decide) hF
        · have hF := it_t h50 hF
          refine lv_iconst (v := 1) hx hb dX8_isAllowed_278 (by decide) ?_
          refine lv_goto (tgt := 283) hx hb dX8_isAllowed_279 (by decide) ?_
          exact m_zret hC hr hlk hw hS dX8_isAllowed_283 (by decide) hF
  have hF := it_f h9 hF
  refine lv_tableOut (tgt := 284) hx hb dX8_isAllowed_1 (sw_out (fun k ka kb kc => by (have kd : k = 1 ∨ k = 2 ∨ k = 3 ∨ k = 4 ∨ k = 5 ∨ k = 6 ∨ k = 7 ∨ k = 8 ∨ k = 9 := by omega); exact kd.elim (fun kd => by subst kd; exact lv_neT h1 (by decide) kc) (fun kd => kd.elim (fun kd => by subst kd; exact lv_neT h2 (by decide) kc) (fun kd => kd.elim (fun kd => by subst kd; exact lv_neT h3 (by decide) kc) (fun kd => kd.elim (fun kd => by subst kd; exact lv_neT h4 (by decide) kc) (fun kd => kd.elim (fun kd => by subst kd; exact lv_neT h5 (by decide) kc) (fun kd => kd.elim (fun kd => by subst kd; exact lv_neT h6 (by decide) kc) (fun kd => kd.elim (fun kd => by subst kd; exact lv_neT h7 (by decide) kc) (fun kd => kd.elim (fun kd => by subst kd; exact lv_neT h8 (by decide) kc) (fun kd => (by subst kd; exact lv_neT h9 (by decide) kc))))))))))) (by decide) ?_
  refine lv_iconst (v := 0) hx hb dX8_isAllowed_284 (by decide) ?_
  exact m_zret hC hr hlk hw hS dX8_isAllowed_285 (by decide) hF
set_option maxHeartbeats 4000000 in
set_option maxRecDepth 100000 in
theorem c_X8_carryOut (l : Launch) (G : GG) (n : Nat) (hn : 244 ≤ n) (hn2 : 0 ≤ n) (x0 : Int32) (x1 : Int32) (x2 : Int32) (C : Mem) (rR : Int32) (CR : Mem) (hF : F_X8_carryOut x0 x1 x2 C = some (rR, CR)) : Ct l yX8_carryOut cX8_carryOut 4 none (rmN 5 117) G n C [.ref (bb G + 0), .int x0, .int x1, .int x2] none CR := by
  refine Ct.of (by decide) (Nat.le_of_ble_eq_true rfl) ?_
  intro p e s m below meth c ls hC hr hlk hw hl
  have hx := hC.1
  have hb := hC.2.1
  have hS : LW G s s.heap [] := va_S.rf
  have hl : lv_has ls 4 [(0, .ref (bb G + 0)), (1, .int x0), (2, .int x1), (3, .int x2)] := hl
  unfold F_X8_carryOut at hF
  refine lv_iload_n hx hb dX8_carryOut_0 rfl (lv_at hl 1 rfl) ?_
  by_cases h1 : x0 = (1 : Int32)
  · have hF := it_t h1 hF
    refine lv_tableIn (tgt := 40) (off := 39) hx hb dX8_carryOut_1 (by rw [h1]; decide) (by rw [h1]; decide) (by rw [h1]; rfl) (by decide) ?_
    refine lv_aload_n hx hb dX8_carryOut_40 rfl (lv_at hl 0 rfl) ?_
    refine gX8_23 hC hw (by omega)  dX8_carryOut_41 ?_
    refine lv_iload_n hx hb dX8_carryOut_44 rfl (lv_at hl 3 rfl) ?_
    refine lv_iload_n hx hb dX8_carryOut_45 rfl (lv_at hl 2 rfl) ?_
    obtain ⟨r7, C8, hc9, hF⟩ := b2_t hF
    refine call_Vv hC (c_X5_passTicks l G n (by omega) hn2 1 (show 1 < 18 by decide) x2 x1 _ _ _ hc9) wvX8_218 ⟨rfl, rfl, by decide, by decide⟩ hw hS (by have := po_lt (show 1 < 18 by decide); omega) (ca_plant (show 1 < 18 by decide)) rfl hl.1 rfl (rest := []) rfl (Nat.le_of_ble_eq_true rfl) dX8_carryOut_46 ⟨by decide, by decide⟩ (fun H locs hw hS _ => ?_)
    refine lv_goto (tgt := 134) hx hb dX8_carryOut_49 (by decide) ?_
    exact m_vret hC hr hlk hw hS dX8_carryOut_134 hF
  have hF := it_f h1 hF
  by_cases h2 : x0 = (2 : Int32)
  · have hF := it_t h2 hF
    refine lv_tableIn (tgt := 52) (off := 51) hx hb dX8_carryOut_1 (by rw [h2]; decide) (by rw [h2]; decide) (by rw [h2]; rfl) (by decide) ?_
    refine lv_aload_n hx hb dX8_carryOut_52 rfl (lv_at hl 0 rfl) ?_
    refine gX8_23 hC hw (by omega)  dX8_carryOut_53 ?_
    refine gX8_86 hC hw (by omega) (show 1 < 18 by decide) dX8_carryOut_56 ?_
    refine lv_iload_n hx hb dX8_carryOut_59 rfl (lv_at hl 3 rfl) ?_
    obtain ⟨r10, C11, hc12, hF⟩ := b2_t hF
    refine call_Vi hC (c_X7_deliver l G n (by omega) hn2 1 (show 1 < 18 by decide) x2 _ _ _ hc12) wvX8_221 ⟨rfl, rfl, by decide, by decide⟩ hw hS (by have := po_lt (show 1 < 18 by decide); omega) (ca_tank (show 1 < 18 by decide)) rfl hl.1 rfl (rest := []) rfl (Nat.le_of_ble_eq_true rfl) dX8_carryOut_60 ⟨by decide, by decide⟩ (fun H locs hw hS _ => ?_)
    refine lv_pop hx hb dX8_carryOut_63 rfl ?_
    refine lv_goto (tgt := 134) hx hb dX8_carryOut_64 (by decide) ?_
    exact m_vret hC hr hlk hw hS dX8_carryOut_134 hF
  have hF := it_f h2 hF
  by_cases h3 : x0 = (3 : Int32)
  · have hF := it_t h3 hF
    refine lv_tableIn (tgt := 67) (off := 66) hx hb dX8_carryOut_1 (by rw [h3]; decide) (by rw [h3]; decide) (by rw [h3]; rfl) (by decide) ?_
    refine lv_aload_n hx hb dX8_carryOut_67 rfl (lv_at hl 0 rfl) ?_
    refine gX8_23 hC hw (by omega)  dX8_carryOut_68 ?_
    refine gX8_82 hC hw (by omega) (show 1 < 18 by decide) dX8_carryOut_71 ?_
    refine lv_iload_n hx hb dX8_carryOut_74 rfl (lv_at hl 2 rfl) ?_
    refine lv_iload_n hx hb dX8_carryOut_75 rfl (lv_at hl 3 rfl) ?_
    obtain ⟨g13, hF⟩ := gi_t hF
    refine st_sett hC hw hS (by omega) (show 1 < 18 by decide) g13 dX8_carryOut_76 (fun H locs hw hS _ => ?_)
    obtain ⟨C14, eC14, hF⟩ := nm_t hF
    have hw := Wd.cast eC14 hw
    refine lv_goto (tgt := 134) hx hb dX8_carryOut_77 (by decide) ?_
    exact m_vret hC hr hlk hw hS dX8_carryOut_134 hF
  have hF := it_f h3 hF
  by_cases h4 : x0 = (4 : Int32)
  · have hF := it_t h4 hF
    refine lv_tableIn (tgt := 80) (off := 79) hx hb dX8_carryOut_1 (by rw [h4]; decide) (by rw [h4]; decide) (by rw [h4]; rfl) (by decide) ?_
    refine lv_aload_n hx hb dX8_carryOut_80 rfl (lv_at hl 0 rfl) ?_
    refine gX8_23 hC hw (by omega)  dX8_carryOut_81 ?_
    refine lv_iload_n hx hb dX8_carryOut_84 rfl (lv_at hl 2 rfl) ?_
    refine lv_iload_n hx hb dX8_carryOut_85 rfl (lv_at hl 3 rfl) ?_
    refine lv_iconst (v := 1) hx hb dX8_carryOut_86 (by decide) ?_
    refine lv_icmp_ne (tgt := 94) hx hb dX8_carryOut_87 (by decide) (fun h15 => ?_) (fun h15 => ?_)
    · have hF := it_f h15 hF
      refine lv_iconst (v := 0) hx hb dX8_carryOut_94 (by decide) ?_
      obtain ⟨r16, C17, hc18, hF⟩ := b2_t hF
      refine call_Vi hC (c_X5_moveFlue l G n (by omega) hn2 1 (show 1 < 18 by decide) x1 (0 : Int32) _ _ _ hc18) wvX8_233 ⟨rfl, rfl, by decide, by decide⟩ hw hS (by have := po_lt (show 1 < 18 by decide); omega) (ca_plant (show 1 < 18 by decide)) rfl hl.1 rfl (rest := []) rfl (Nat.le_of_ble_eq_true rfl) dX8_carryOut_95 ⟨by decide, by decide⟩ (fun H locs hw hS _ => ?_)
      refine lv_pop hx hb dX8_carryOut_98 rfl ?_
      refine lv_goto (tgt := 134) hx hb dX8_carryOut_99 (by decide) ?_
      exact m_vret hC hr hlk hw hS dX8_carryOut_134 hF
    · have hF := it_t h15 hF
      refine lv_iconst (v := 1) hx hb dX8_carryOut_90 (by decide) ?_
      refine lv_goto (tgt := 95) hx hb dX8_carryOut_91 (by decide) ?_
      obtain ⟨r19, C20, hc21, hF⟩ := b2_t hF
      refine call_Vi hC (c_X5_moveFlue l G n (by omega) hn2 1 (show 1 < 18 by decide) x1 (1 : Int32) _ _ _ hc21) wvX8_233 ⟨rfl, rfl, by decide, by decide⟩ hw hS (by have := po_lt (show 1 < 18 by decide); omega) (ca_plant (show 1 < 18 by decide)) rfl hl.1 rfl (rest := []) rfl (Nat.le_of_ble_eq_true rfl) dX8_carryOut_95 ⟨by decide, by decide⟩ (fun H locs hw hS _ => ?_)
      refine lv_pop hx hb dX8_carryOut_98 rfl ?_
      refine lv_goto (tgt := 134) hx hb dX8_carryOut_99 (by decide) ?_
      exact m_vret hC hr hlk hw hS dX8_carryOut_134 hF
  have hF := it_f h4 hF
  by_cases h5 : x0 = (5 : Int32)
  · have hF := it_t h5 hF
    refine lv_tableIn (tgt := 102) (off := 101) hx hb dX8_carryOut_1 (by rw [h5]; decide) (by rw [h5]; decide) (by rw [h5]; rfl) (by decide) ?_
    refine lv_aload_n hx hb dX8_carryOut_102 rfl (lv_at hl 0 rfl) ?_
    refine gX8_23 hC hw (by omega)  dX8_carryOut_103 ?_
    refine gX8_133 hC hw (by omega) (show 1 < 18 by decide) dX8_carryOut_106 ?_
    refine lv_iload_n hx hb dX8_carryOut_109 rfl (lv_at hl 2 rfl) ?_
    obtain ⟨g22, hF⟩ := gi_t hF
    refine ld_barr hC hw (by omega) (show 1 < 18 by decide) g22 dX8_carryOut_110 ?_
    refine lv_iconst (v := 4) hx hb dX8_carryOut_111 (by decide) ?_
    obtain ⟨r23, C24, hc25, hF⟩ := b2_t hF
    refine call_Vv hC (c_X0_leaveFor l G n (by omega) hn2 1 (show 1 < 18 by decide) (x1).toNatClampNeg (vp_lt g22) (4 : Int32) _ _ _ hc25) wvX8_239 ⟨rfl, rfl, by decide, by decide⟩ hw hS (by have := po_lt (show 1 < 18 by decide); have := (vp_lt g22); omega) (ca_boiler (show 1 < 18 by decide) (vp_lt g22)) rfl hl.1 rfl (rest := []) rfl (Nat.le_of_ble_eq_true rfl) dX8_carryOut_112 ⟨by decide, by decide⟩ (fun H locs hw hS _ => ?_)
    refine lv_goto (tgt := 134) hx hb dX8_carryOut_115 (by decide) ?_
    exact m_vret hC hr hlk hw hS dX8_carryOut_134 hF
  have hF := it_f h5 hF
  by_cases h6 : x0 = (6 : Int32)
  · have hF := it_t h6 hF
    refine lv_tableIn (tgt := 118) (off := 117) hx hb dX8_carryOut_1 (by rw [h6]; decide) (by rw [h6]; decide) (by rw [h6]; rfl) (by decide) ?_
    refine lv_aload_n hx hb dX8_carryOut_118 rfl (lv_at hl 0 rfl) ?_
    refine gX8_23 hC hw (by omega)  dX8_carryOut_119 ?_
    refine gX8_133 hC hw (by omega) (show 1 < 18 by decide) dX8_carryOut_122 ?_
    refine lv_iload_n hx hb dX8_carryOut_125 rfl (lv_at hl 2 rfl) ?_
    obtain ⟨g26, hF⟩ := gi_t hF
    refine ld_barr hC hw (by omega) (show 1 < 18 by decide) g26 dX8_carryOut_126 ?_
    refine lv_iconst (v := 0) hx hb dX8_carryOut_127 (by decide) ?_
    obtain ⟨r27, C28, hc29, hF⟩ := b2_t hF
    refine call_Vv hC (c_X0_leaveFor l G n (by omega) hn2 1 (show 1 < 18 by decide) (x1).toNatClampNeg (vp_lt g26) (0 : Int32) _ _ _ hc29) wvX8_239 ⟨rfl, rfl, by decide, by decide⟩ hw hS (by have := po_lt (show 1 < 18 by decide); have := (vp_lt g26); omega) (ca_boiler (show 1 < 18 by decide) (vp_lt g26)) rfl hl.1 rfl (rest := []) rfl (Nat.le_of_ble_eq_true rfl) dX8_carryOut_128 ⟨by decide, by decide⟩ (fun H locs hw hS _ => ?_)
    refine lv_goto (tgt := 134) hx hb dX8_carryOut_131 (by decide) ?_
    exact m_vret hC hr hlk hw hS dX8_carryOut_134 hF
  have hF := it_f h6 hF
  refine lv_tableOut (tgt := 134) hx hb dX8_carryOut_1 (sw_out (fun k ka kb kc => by (have kd : k = 1 ∨ k = 2 ∨ k = 3 ∨ k = 4 ∨ k = 5 ∨ k = 6 := by omega); exact kd.elim (fun kd => by subst kd; exact lv_neT h1 (by decide) kc) (fun kd => kd.elim (fun kd => by subst kd; exact lv_neT h2 (by decide) kc) (fun kd => kd.elim (fun kd => by subst kd; exact lv_neT h3 (by decide) kc) (fun kd => kd.elim (fun kd => by subst kd; exact lv_neT h4 (by decide) kc) (fun kd => kd.elim (fun kd => by subst kd; exact lv_neT h5 (by decide) kc) (fun kd => (by subst kd; exact lv_neT h6 (by decide) kc)))))))) (by decide) ?_
  exact m_vret hC hr hlk hw hS dX8_carryOut_134 hF
set_option maxHeartbeats 4000000 in
set_option maxRecDepth 100000 in
theorem c_X8_runScript (l : Launch) (G : GG) (n : Nat) (hn : 244 ≤ n) (hn2 : 0 ≤ n) (hfl : l.stackTraces = false) (x0 : Int32) (x1 : Int64) (C : Mem) (rR : Rs) (CR : Mem) (hF : F_X8_runScript x0 x1 C = some (rR, CR)) : CtX l yX8_runScript cX8_runScript 11 (some .int) (rmX 7 140 2 12) 2 12 G n C [.ref (bb G + 0), .int x0, .long x1] (fun v => some (.int v)) rR CR := by
  refine CtX.of (by decide) (Nat.le_of_ble_eq_true rfl) ?_
  intro p e s m below meth c ls hC hr hlk ht hw hl
  have hx := hC.1
  have hb := hC.2.1
  have hS : LW G s s.heap [] := va_S.rf
  have hl : lv_has ls 11 [(0, .ref (bb G + 0)), (1, .int x0), (2, .long x1)] := hl
  unfold F_X8_runScript at hF
  refine lv_iload_n hx hb dX8_runScript_0 rfl (lv_at hl 1 rfl) ?_
  refine lv_iconst (v := 1) hx hb dX8_runScript_1 (by decide) ?_
  refine lv_iconst (v := 3) hx hb dX8_runScript_2 (by decide) ?_
  obtain ⟨r1, C2, hc3, hF⟩ := b2_t hF
  refine call_SXv hC (c_X8_requireWithin l G n (by omega) hn2 hfl x0 (1 : Int32) (3 : Int32) _ _ _ hc3) wsX8_47 ⟨rfl, rfl, by decide, by decide⟩ hw hS hl.1 rfl (rest := []) rfl (Nat.le_of_ble_eq_true rfl) dX8_runScript_3 ⟨by decide, by decide⟩ (fun k ce q9 H locs h5 b1 b2 hw hS hce hcv hcl => m_out hC hlk ht hw hS b1 b2 hce hcv hcl (by decide) (by decide) (se_x h5 hF)) (fun v4 H locs h5 hw hS => ?_)
  have hF := se_l h5 hF
  refine lv_lconst (v := 1) hx hb dX8_runScript_6 (by decide) ?_
  obtain ⟨v6, ev6, hF⟩ := nm_t hF
  refine lv_nml ev6 ?_
  refine lv_lstore (lv' := [(4, .long v6), (0, .ref (bb G + 0)), (1, .int x0), (2, .long x1)]) hx hb dX8_runScript_7 hl (by decide) rfl (fun ls hl => ?_)
  refine lv_iconst (v := 1) hx hb dX8_runScript_9 (by decide) ?_
  refine lv_istore (lv' := [(6, .int (1 : Int32)), (4, .long v6), (0, .ref (bb G + 0)), (1, .int x0), (2, .long x1)]) hx hb dX8_runScript_10 hl (by decide) rfl (fun ls hl => ?_)
  obtain ⟨o10, hit10, hG10⟩ := b1_t hF
  have hR10 : ∀ (v11 : Int64) (v12 : Int32) (C13 : Mem) (H : Heap) (locs : List Loc) (ls : Array Slot), o10 = (v11, v12, C13) → Wd G n C13 H → LW G s H locs → lv_has ls 11 [(0, .ref (bb G + 0)), (1, .int x0), (2, .long x1), (4, .long v11)] → W p l e (rmX 7 140 2 12) s m ([.ref (bb G + 0), .int x0, .long x1] : List Value).toArray below meth c H locs 1 6 (vx_MQ below (QX G n (fun v => some (.int v)) rR CR) (XX G n rR CR) ([.ref (bb G + 0), .int x0, .long x1] : List Value).toArray s 2 12 (frA G)) (F0 m 32 ls []) := by
    intro v11 v12 C13 H locs ls hE hw hS hl
    subst hE
    have hF := u3_t (hG10)
    refine lv_lload_n hx hb dX8_runScript_32 rfl (lv_at hl 2 rfl) ?_
    refine lv_lconst (v := 0) hx hb dX8_runScript_33 (by decide) ?_
    refine W.lcmp hx hb dX8_runScript_34 ?_
    refine lv_if_lt (tgt := 49) hx hb dX8_runScript_35 (by decide) (fun h17 => ?_) (fun h17 => ?_)
    · have hF := it_t h17 hF
      exact m_throwSW hC hfl hlk ht hw hS xat_1 (by decide +kernel : (295, "the script is negative or too long") ∈ strs) hl.1 dX8_runScript_49 dX8_runScript_52 dX8_runScript_53 dX8_runScript_56 dX8_runScript_59 (by decide) (by decide) (by decide) (by decide) (by decide) (by decide) hF
    · have hF := it_f h17 hF
      refine lv_lload_n hx hb dX8_runScript_38 rfl (lv_at hl 2 rfl) ?_
      refine lv_lload hx hb dX8_runScript_39 (lv_at hl 3 rfl) ?_
      refine lv_ldc2 (v := 100000) hx hb hC.2.2.2.1 (hC.2.2.2.2.1 _ kcX8_293) dX8_runScript_41 ?_
      refine lv_lmul hx hb dX8_runScript_44 ?_
      refine W.lcmp hx hb dX8_runScript_45 ?_
      refine lv_if_lt (tgt := 60) hx hb dX8_runScript_46 (by decide) (fun h18 => ?_) (fun h18 => ?_)
      · have hF := it_t h18 hF
        refine lv_aload_n hx hb dX8_runScript_60 rfl (lv_at hl 0 rfl) ?_
        refine gX8_23 hC hw (by omega)  dX8_runScript_61 ?_
        refine lv_aload_n hx hb dX8_runScript_64 rfl (lv_at hl 0 rfl) ?_
        refine gX8_19 hC hw (by omega)  dX8_runScript_65 ?_
        obtain ⟨r19, C20, hc21, hF⟩ := b2_t hF
        refine call_Vv hC (c_X5_copyFrom l G n (by omega) hn2 1 (show 1 < 18 by decide) 0 (show 0 < 18 by decide) _ _ _ hc21) wvX8_269 ⟨rfl, rfl, by decide, by decide⟩ hw hS (by have := po_lt (show 1 < 18 by decide); omega) (ca_plant (show 1 < 18 by decide)) rfl hl.1 rfl (rest := []) rfl (Nat.le_of_ble_eq_true rfl) dX8_runScript_68 ⟨by decide, by decide⟩ (fun H locs hw hS _ => ?_)
        refine lv_iconst (v := 0) hx hb dX8_runScript_71 (by decide) ?_
        refine lv_istore (lv' := [(6, .int (0 : Int32)), (0, .ref (bb G + 0)), (1, .int x0), (2, .long x1), (4, .long v11)]) hx hb dX8_runScript_72 hl (by decide) rfl (fun ls hl => ?_)
        obtain ⟨o25, hit25, hG25⟩ := b1_t hF
        have hR25 : ∀ (v26 : Int64) (v27 : Int32) (C28 : Mem) (H : Heap) (locs : List Loc) (ls : Array Slot), o25 = Sum.inl (v26, v27, C28) → Wd G n C28 H → LW G s H locs → lv_has ls 11 [] → W p l e (rmX 7 140 2 12) s m ([.ref (bb G + 0), .int x0, .long x1] : List Value).toArray below meth c H locs 1 6 (vx_MQ below (QX G n (fun v => some (.int v)) rR CR) (XX G n rR CR) ([.ref (bb G + 0), .int x0, .long x1] : List Value).toArray s 2 12 (frA G)) (F0 m 165 ls []) := by
          intro v26 v27 C28 H locs ls hE hw hS hl
          subst hE
          have hF := u3_t (se_l rfl hG25)
          refine lv_bipush (v := -9) hx hb dX8_runScript_165 (by decide) ?_
          exact m_iretX hC hr hlk hw hS (by decide) (by decide) dX8_runScript_167 hF
        refine iter_sound (P := fun x : Int64 × Int32 × Mem => ∀ (H : Heap) (locs : List Loc) (ls : Array Slot), Wd G n x.2.2 H → LW G s H locs → lv_has ls 11 [(0, .ref (bb G + 0)), (1, .int x0), (2, .long x1), (4, .long x.1), (6, .int x.2.1)] → W p l e (rmX 7 140 2 12) s m ([.ref (bb G + 0), .int x0, .long x1] : List Value).toArray below meth c H locs 1 6 (vx_MQ below (QX G n (fun v => some (.int v)) rR CR) (XX G n rR CR) ([.ref (bb G + 0), .int x0, .long x1] : List Value).toArray s 2 12 (frA G)) (F0 m 74 ls [])) (X := fun r => r = o25) ?_ fuel (v11, (0 : Int32), C20) o25 hit25 rfl _ _ _ hw hS (lv_sub hl [1, 2, 3, 4, 0] rfl)
        intro x oo25 hF hk25 hX25 H locs ls hw hS hl
        obtain ⟨v22, v23, C24⟩ := x
        have hF : S_X8_runScript_74 x0 x1 v22 v23 C24 = some oo25 := hF
        have hw : Wd G n C24 H := hw
        have hl : lv_has ls 11 [(0, .ref (bb G + 0)), (1, .int x0), (2, .long x1), (4, .long v22), (6, .int v23)] := hl
        unfold S_X8_runScript_74 at hF
        refine lv_iload hx hb dX8_runScript_74 (lv_at hl 4 rfl) ?_
        refine lv_iload_n hx hb dX8_runScript_76 rfl (lv_at hl 1 rfl) ?_
        refine lv_icmp_ge (tgt := 165) hx hb dX8_runScript_77 (by decide) (fun h29 => ?_) (fun h29 => ?_)
        · have hF := it_t h29 hF
          exact hR25 _ _ _ _ _ _ (it_exit hF hX25).symm hw hS (lv_sub hl [] rfl)
        · have hF := it_f h29 hF
          refine lv_lload hx hb dX8_runScript_80 (lv_at hl 3 rfl) ?_
          refine lv_lconst (v := 0) hx hb dX8_runScript_82 (by decide) ?_
          refine W.lcmp hx hb dX8_runScript_83 ?_
          refine lv_if_le (tgt := 165) hx hb dX8_runScript_84 (by decide) (fun h30 => ?_) (fun h30 => ?_)
          · have hF := it_t h30 hF
            exact hR25 _ _ _ _ _ _ (it_exit hF hX25).symm hw hS (lv_sub hl [] rfl)
          · have hF := it_f h30 hF
            refine lv_lload_n hx hb dX8_runScript_87 rfl (lv_at hl 2 rfl) ?_
            refine lv_lload hx hb dX8_runScript_88 (lv_at hl 3 rfl) ?_
            obtain ⟨g31, hF⟩ := gzL_t hF
            refine lv_ldiv hx hb dX8_runScript_90 g31 ?_
            refine lv_ldc2 (v := 100000) hx hb hC.2.2.2.1 (hC.2.2.2.2.1 _ kcX8_293) dX8_runScript_91 ?_
            refine lv_lrem hx hb dX8_runScript_94 (by decide) ?_
            refine lv_l2i (v := ((((x1 / v22) - (x1 / v22) / (100000 : Int64) * (100000 : Int64))).toInt32)) hx hb dX8_runScript_95 rfl ?_
            obtain ⟨v32, ev32, hF⟩ := nm_t hF
            refine lv_nmi ev32 ?_
            refine lv_istore (lv' := [(7, .int v32), (0, .ref (bb G + 0)), (1, .int x0), (2, .long x1), (4, .long v22), (6, .int v23)]) hx hb dX8_runScript_96 hl (by decide) rfl (fun ls hl => ?_)
            refine lv_iload hx hb dX8_runScript_98 (lv_at hl 0 rfl) ?_
            refine lv_sipush (v := 10000) hx hb dX8_runScript_100 (by decide) ?_
            refine lv_idiv hx hb dX8_runScript_103 (by decide) ?_
            obtain ⟨v33, ev33, hF⟩ := nm_t hF
            refine lv_nmi ev33 ?_
            refine lv_istore (lv' := [(8, .int v33), (7, .int v32), (0, .ref (bb G + 0)), (1, .int x0), (2, .long x1), (4, .long v22), (6, .int v23)]) hx hb dX8_runScript_104 hl (by decide) rfl (fun ls hl => ?_)
            refine lv_iload hx hb dX8_runScript_106 (lv_at hl 1 rfl) ?_
            refine lv_sipush (v := 1000) hx hb dX8_runScript_108 (by decide) ?_
            refine lv_idiv hx hb dX8_runScript_111 (by decide) ?_
            refine lv_bipush (v := 10) hx hb dX8_runScript_112 (by decide) ?_
            refine lv_irem hx hb dX8_runScript_114 (by decide) ?_
            obtain ⟨v34, ev34, hF⟩ := nm_t hF
            refine lv_nmi ev34 ?_
            refine lv_istore (lv' := [(9, .int v34), (8, .int v33), (7, .int v32), (0, .ref (bb G + 0)), (1, .int x0), (2, .long x1), (4, .long v22), (6, .int v23)]) hx hb dX8_runScript_115 hl (by decide) rfl (fun ls hl => ?_)
            refine lv_iload hx hb dX8_runScript_117 (lv_at hl 2 rfl) ?_
            refine lv_sipush (v := 1000) hx hb dX8_runScript_119 (by decide) ?_
            refine lv_irem hx hb dX8_runScript_122 (by decide) ?_
            obtain ⟨v35, ev35, hF⟩ := nm_t hF
            refine lv_nmi ev35 ?_
            refine lv_istore (lv' := [(10, .int v35), (9, .int v34), (8, .int v33), (7, .int v32), (0, .ref (bb G + 0)), (1, .int x0), (2, .long x1), (4, .long v22), (6, .int v23)]) hx hb dX8_runScript_123 hl (by decide) rfl (fun ls hl => ?_)
            refine lv_aload_n hx hb dX8_runScript_125 rfl (lv_at hl 4 rfl) ?_
            refine lv_iload hx hb dX8_runScript_126 (lv_at hl 2 rfl) ?_
            refine lv_iload hx hb dX8_runScript_128 (lv_at hl 1 rfl) ?_
            refine lv_iload hx hb dX8_runScript_130 (lv_at hl 0 rfl) ?_
            obtain ⟨r36, C37, hc38, hF⟩ := b2_t hF
            refine call_Vi hC (c_X8_isAllowed l G n (by omega) hn2 v33 v34 v35 _ _ _ hc38) wvX8_297 ⟨rfl, rfl, by decide, by decide⟩ hw hS (by omega) ca_casc rfl hl.1 rfl (rest := []) rfl (Nat.le_of_ble_eq_true rfl) dX8_runScript_132 ⟨by decide, by decide⟩ (fun H locs hw hS _ => ?_)
            refine lv_if_ne (tgt := 141) hx hb dX8_runScript_135 (by decide) (fun h39 => ?_) (fun h39 => ?_)
            · have hF := it_f h39 hF
              refine lv_aload_n hx hb dX8_runScript_141 rfl (lv_at hl 4 rfl) ?_
              refine lv_iload hx hb dX8_runScript_142 (lv_at hl 2 rfl) ?_
              refine lv_iload hx hb dX8_runScript_144 (lv_at hl 1 rfl) ?_
              refine lv_iload hx hb dX8_runScript_146 (lv_at hl 0 rfl) ?_
              obtain ⟨r40, C41, hc42, hF⟩ := b2_t hF
              refine call_Vv hC (c_X8_carryOut l G n (by omega) hn2 v33 v34 v35 _ _ _ hc42) wvX8_300 ⟨rfl, rfl, by decide, by decide⟩ hw hS (by omega) ca_casc rfl hl.1 rfl (rest := []) rfl (Nat.le_of_ble_eq_true rfl) dX8_runScript_148 ⟨by decide, by decide⟩ (fun H locs hw hS _ => ?_)
              refine lv_lload hx hb dX8_runScript_151 (lv_at hl 7 rfl) ?_
              refine lv_ldc2 (v := 100000) hx hb hC.2.2.2.1 (hC.2.2.2.2.1 _ kcX8_293) dX8_runScript_153 ?_
              refine lv_ldiv hx hb dX8_runScript_156 (by decide) ?_
              obtain ⟨v43, ev43, hF⟩ := nm_t hF
              refine lv_nml ev43 ?_
              refine lv_lstore (lv' := [(4, .long v43), (10, .int v35), (9, .int v34), (8, .int v33), (7, .int v32), (0, .ref (bb G + 0)), (1, .int x0), (2, .long x1), (6, .int v23)]) hx hb dX8_runScript_157 hl (by decide) rfl (fun ls hl => ?_)
              obtain ⟨v44, ev44, hF⟩ := nm_t hF
              refine lv_iinc (v := v44) (lv' := [(6, .int v44), (4, .long v43), (10, .int v35), (9, .int v34), (8, .int v33), (7, .int v32), (0, .ref (bb G + 0)), (1, .int x0), (2, .long x1)]) hx hb dX8_runScript_159 hl (k := 8) rfl (by rw [ev44]; rfl) (by decide) rfl (fun ls hl => ?_)
              refine lv_goto (tgt := 74) hx hb dX8_runScript_162 (by decide) ?_
              exact it_back hF hk25 _ _ _ hw hS (lv_sub hl [6, 7, 8, 1, 0] rfl)
            · have hF := it_t h39 hF
              refine lv_iload hx hb dX8_runScript_138 (lv_at hl 8 rfl) ?_
              have hF := se_r (it_exit hF hX25).symm hG25
              exact m_iretX hC hr hlk hw hS (by decide) (by decide) dX8_runScript_140 hF
      · have hF := it_f h18 hF
        exact m_throwSW hC hfl hlk ht hw hS xat_1 (by decide +kernel : (295, "the script is negative or too long") ∈ strs) hl.1 dX8_runScript_49 dX8_runScript_52 dX8_runScript_53 dX8_runScript_56 dX8_runScript_59 (by decide) (by decide) (by decide) (by decide) (by decide) (by decide) hF
  refine iter_sound (P := fun x : Int64 × Int32 × Mem => ∀ (H : Heap) (locs : List Loc) (ls : Array Slot), Wd G n x.2.2 H → LW G s H locs → lv_has ls 11 [(0, .ref (bb G + 0)), (1, .int x0), (2, .long x1), (4, .long x.1), (6, .int x.2.1)] → W p l e (rmX 7 140 2 12) s m ([.ref (bb G + 0), .int x0, .long x1] : List Value).toArray below meth c H locs 1 6 (vx_MQ below (QX G n (fun v => some (.int v)) rR CR) (XX G n rR CR) ([.ref (bb G + 0), .int x0, .long x1] : List Value).toArray s 2 12 (frA G)) (F0 m 12 ls [])) (X := fun r => r = o10) ?_ fuel (v6, (1 : Int32), C2) o10 hit10 rfl _ _ _ hw hS (lv_sub hl [2, 3, 4, 1, 0] rfl)
  intro x oo10 hF hk10 hX10 H locs ls hw hS hl
  obtain ⟨v7, v8, C9⟩ := x
  have hF : S_X8_runScript_12 x0 v7 v8 C9 = some oo10 := hF
  have hw : Wd G n C9 H := hw
  have hl : lv_has ls 11 [(0, .ref (bb G + 0)), (1, .int x0), (2, .long x1), (4, .long v7), (6, .int v8)] := hl
  unfold S_X8_runScript_12 at hF
  refine lv_iload hx hb dX8_runScript_12 (lv_at hl 4 rfl) ?_
  refine lv_iload_n hx hb dX8_runScript_14 rfl (lv_at hl 1 rfl) ?_
  refine lv_icmp_ge (tgt := 32) hx hb dX8_runScript_15 (by decide) (fun h14 => ?_) (fun h14 => ?_)
  · have hF := it_t h14 hF
    exact hR10 _ _ _ _ _ _ (it_exit hF hX10).symm hw hS (lv_sub hl [0, 1, 2, 3] rfl)
  · have hF := it_f h14 hF
    refine lv_lload hx hb dX8_runScript_18 (lv_at hl 3 rfl) ?_
    refine lv_ldc2 (v := 100000) hx hb hC.2.2.2.1 (hC.2.2.2.2.1 _ kcX8_293) dX8_runScript_20 ?_
    refine lv_lmul hx hb dX8_runScript_23 ?_
    obtain ⟨v15, ev15, hF⟩ := nm_t hF
    refine lv_nml ev15 ?_
    refine lv_lstore (lv' := [(4, .long v15), (0, .ref (bb G + 0)), (1, .int x0), (2, .long x1), (6, .int v8)]) hx hb dX8_runScript_24 hl (by decide) rfl (fun ls hl => ?_)
    obtain ⟨v16, ev16, hF⟩ := nm_t hF
    refine lv_iinc (v := v16) (lv' := [(6, .int v16), (4, .long v15), (0, .ref (bb G + 0)), (1, .int x0), (2, .long x1)]) hx hb dX8_runScript_26 hl (k := 4) rfl (by rw [ev16]; rfl) (by decide) rfl (fun ls hl => ?_)
    refine lv_goto (tgt := 12) hx hb dX8_runScript_29 (by decide) ?_
    exact it_back hF hk10 _ _ _ hw hS (lv_sub hl [2, 3, 4, 1, 0] rfl)
set_option maxHeartbeats 4000000 in
set_option maxRecDepth 100000 in
theorem c_X8_simulate (l : Launch) (G : GG) (n : Nat) (hn : 244 ≤ n) (hn2 : 0 ≤ n) (hfl : l.stackTraces = false) (x0 : Int64) (x1 : Int32) (C : Mem) (rR : Rs) (CR : Mem) (hF : F_X8_simulate x0 x1 C = some (rR, CR)) : CtX l yX8_simulate cX8_simulate 9 (some .int) (rmX 7 117 1 6) 1 6 G n C [.ref (bb G + 0), .long x0, .int x1] (fun v => some (.int v)) rR CR := by
  refine CtX.of (by decide) (Nat.le_of_ble_eq_true rfl) ?_
  intro p e s m below meth c ls hC hr hlk ht hw hl
  have hx := hC.1
  have hb := hC.2.1
  have hS : LW G s s.heap [] := va_S.rf
  have hl : lv_has ls 9 [(0, .ref (bb G + 0)), (1, .long x0), (3, .int x1)] := hl
  unfold F_X8_simulate at hF
  refine lv_iload_n hx hb dX8_simulate_0 rfl (lv_at hl 2 rfl) ?_
  refine lv_iconst (v := 1) hx hb dX8_simulate_1 (by decide) ?_
  refine lv_bipush (v := 96) hx hb dX8_simulate_2 (by decide) ?_
  obtain ⟨r1, C2, hc3, hF⟩ := b2_t hF
  refine call_SXv hC (c_X8_requireWithin l G n (by omega) hn2 hfl x1 (1 : Int32) (96 : Int32) _ _ _ hc3) wsX8_47 ⟨rfl, rfl, by decide, by decide⟩ hw hS hl.1 rfl (rest := []) rfl (Nat.le_of_ble_eq_true rfl) dX8_simulate_4 ⟨by decide, by decide⟩ (fun k ce q9 H locs h5 b1 b2 hw hS hce hcv hcl => m_out hC hlk ht hw hS b1 b2 hce hcv hcl (by decide) (by decide) (se_x h5 hF)) (fun v4 H locs h5 hw hS => ?_)
  have hF := se_l h5 hF
  refine lv_aload_n hx hb dX8_simulate_7 rfl (lv_at hl 0 rfl) ?_
  refine gX8_23 hC hw (by omega)  dX8_simulate_8 ?_
  refine lv_aload_n hx hb dX8_simulate_11 rfl (lv_at hl 0 rfl) ?_
  refine gX8_19 hC hw (by omega)  dX8_simulate_12 ?_
  obtain ⟨r6, C7, hc8, hF⟩ := b2_t hF
  refine call_Vv hC (c_X5_copyFrom l G n (by omega) hn2 1 (show 1 < 18 by decide) 0 (show 0 < 18 by decide) _ _ _ hc8) wvX8_269 ⟨rfl, rfl, by decide, by decide⟩ hw hS (by have := po_lt (show 1 < 18 by decide); omega) (ca_plant (show 1 < 18 by decide)) rfl hl.1 rfl (rest := []) rfl (Nat.le_of_ble_eq_true rfl) dX8_simulate_15 ⟨by decide, by decide⟩ (fun H locs hw hS _ => ?_)
  refine lv_lload_n hx hb dX8_simulate_18 rfl (lv_at hl 1 rfl) ?_
  refine lv_lstore (lv' := [(4, .long x0), (0, .ref (bb G + 0)), (1, .long x0), (3, .int x1)]) hx hb dX8_simulate_19 hl (by decide) rfl (fun ls hl => ?_)
  refine lv_iconst (v := 0) hx hb dX8_simulate_21 (by decide) ?_
  refine lv_istore (lv' := [(6, .int (0 : Int32)), (4, .long x0), (0, .ref (bb G + 0)), (1, .long x0), (3, .int x1)]) hx hb dX8_simulate_22 hl (by decide) rfl (fun ls hl => ?_)
  obtain ⟨o12, hit12, hG12⟩ := b1_t hF
  have hR12 : ∀ (v13 : Int64) (v14 : Int32) (C15 : Mem) (H : Heap) (locs : List Loc) (ls : Array Slot), o12 = (v13, v14, C15) → Wd G n C15 H → LW G s H locs → lv_has ls 9 [(0, .ref (bb G + 0))] → W p l e (rmX 7 117 1 6) s m ([.ref (bb G + 0), .long x0, .int x1] : List Value).toArray below meth c H locs 1 6 (vx_MQ below (QX G n (fun v => some (.int v)) rR CR) (XX G n rR CR) ([.ref (bb G + 0), .long x0, .int x1] : List Value).toArray s 1 6 (frA G)) (F0 m 118 ls []) := by
    intro v13 v14 C15 H locs ls hE hw hS hl
    subst hE
    have hF := u3_t (hG12)
    refine lv_sipush (v := 1000) hx hb dX8_simulate_118 (by decide) ?_
    refine lv_aload_n hx hb dX8_simulate_121 rfl (lv_at hl 0 rfl) ?_
    refine gX8_23 hC hw (by omega)  dX8_simulate_122 ?_
    obtain ⟨r37, C38, hc39, hF⟩ := b2_t hF
    refine call_Vi hC (c_X5_fuel l G n (by omega) hn2 1 (show 1 < 18 by decide) _ _ _ hc39) wvX8_205 ⟨rfl, rfl, by decide, by decide⟩ hw hS (by have := po_lt (show 1 < 18 by decide); omega) (ca_plant (show 1 < 18 by decide)) rfl hl.1 rfl (rest := [.int (1000 : Int32)]) rfl (Nat.le_of_ble_eq_true rfl) dX8_simulate_125 ⟨by decide, by decide⟩ (fun H locs hw hS _ => ?_)
    refine lv_aload_n hx hb dX8_simulate_128 rfl (lv_at hl 0 rfl) ?_
    refine gX8_19 hC hw (by omega)  dX8_simulate_129 ?_
    obtain ⟨r40, C41, hc42, hF⟩ := b2_t hF
    refine call_Vi hC (c_X5_fuel l G n (by omega) hn2 0 (show 0 < 18 by decide) _ _ _ hc42) wvX8_205 ⟨rfl, rfl, by decide, by decide⟩ hw hS (by have := po_lt (show 0 < 18 by decide); omega) (ca_plant (show 0 < 18 by decide)) rfl hl.1 rfl (rest := [.int r37, .int (1000 : Int32)]) rfl (Nat.le_of_ble_eq_true rfl) dX8_simulate_132 ⟨by decide, by decide⟩ (fun H locs hw hS _ => ?_)
    refine lv_isub hx hb dX8_simulate_135 ?_
    refine lv_imul hx hb dX8_simulate_136 ?_
    refine lv_aload_n hx hb dX8_simulate_137 rfl (lv_at hl 0 rfl) ?_
    refine gX8_23 hC hw (by omega)  dX8_simulate_138 ?_
    refine gX8_86 hC hw (by omega) (show 1 < 18 by decide) dX8_simulate_141 ?_
    obtain ⟨r43, C44, hc45, hF⟩ := b2_t hF
    refine call_Vi hC (c_X7_mean l G n (by omega) hn2 1 (show 1 < 18 by decide) _ _ _ hc45) wvX8_98 ⟨rfl, rfl, by decide, by decide⟩ hw hS (by have := po_lt (show 1 < 18 by decide); omega) (ca_tank (show 1 < 18 by decide)) rfl hl.1 rfl (rest := [.int ((1000 : Int32) * (r37 - r40))]) rfl (Nat.le_of_ble_eq_true rfl) dX8_simulate_144 ⟨by decide, by decide⟩ (fun H locs hw hS _ => ?_)
    refine lv_iadd hx hb dX8_simulate_147 ?_
    exact m_iretX hC hr hlk hw hS (by decide) (by decide) dX8_simulate_148 hF
  refine iter_sound (P := fun x : Int64 × Int32 × Mem => ∀ (H : Heap) (locs : List Loc) (ls : Array Slot), Wd G n x.2.2 H → LW G s H locs → lv_has ls 9 [(0, .ref (bb G + 0)), (3, .int x1), (4, .long x.1), (6, .int x.2.1)] → W p l e (rmX 7 117 1 6) s m ([.ref (bb G + 0), .long x0, .int x1] : List Value).toArray below meth c H locs 1 6 (vx_MQ below (QX G n (fun v => some (.int v)) rR CR) (XX G n rR CR) ([.ref (bb G + 0), .long x0, .int x1] : List Value).toArray s 1 6 (frA G)) (F0 m 24 ls [])) (X := fun r => r = o12) ?_ fuel (x0, (0 : Int32), C7) o12 hit12 rfl _ _ _ hw hS (lv_sub hl [2, 4, 1, 0] rfl)
  intro x oo12 hF hk12 hX12 H locs ls hw hS hl
  obtain ⟨v9, v10, C11⟩ := x
  have hF : S_X8_simulate_24 x1 v9 v10 C11 = some oo12 := hF
  have hw : Wd G n C11 H := hw
  have hl : lv_has ls 9 [(0, .ref (bb G + 0)), (3, .int x1), (4, .long v9), (6, .int v10)] := hl
  unfold S_X8_simulate_24 at hF
  refine lv_iload hx hb dX8_simulate_24 (lv_at hl 3 rfl) ?_
  refine lv_iload_n hx hb dX8_simulate_26 rfl (lv_at hl 1 rfl) ?_
  refine lv_icmp_ge (tgt := 118) hx hb dX8_simulate_27 (by decide) (fun h16 => ?_) (fun h16 => ?_)
  · have hF := it_t h16 hF
    exact hR12 _ _ _ _ _ _ (it_exit hF hX12).symm hw hS (lv_sub hl [0] rfl)
  · have hF := it_f h16 hF
    refine lv_lload hx hb dX8_simulate_30 (lv_at hl 2 rfl) ?_
    refine lv_ldc2 (v := 6364136223846793005) hx hb hC.2.2.2.1 (hC.2.2.2.2.1 _ kcX8_303) dX8_simulate_32 ?_
    refine lv_lmul hx hb dX8_simulate_35 ?_
    refine lv_ldc2 (v := 1442695040888963407) hx hb hC.2.2.2.1 (hC.2.2.2.2.1 _ kcX8_305) dX8_simulate_36 ?_
    refine lv_ladd hx hb dX8_simulate_39 ?_
    obtain ⟨v17, ev17, hF⟩ := nm_t hF
    refine lv_nml ev17 ?_
    refine lv_lstore (lv' := [(4, .long v17), (0, .ref (bb G + 0)), (3, .int x1), (6, .int v10)]) hx hb dX8_simulate_40 hl (by decide) rfl (fun ls hl => ?_)
    refine lv_lload hx hb dX8_simulate_42 (lv_at hl 0 rfl) ?_
    refine lv_bipush (v := 33) hx hb dX8_simulate_44 (by decide) ?_
    refine lv_lushr (v := (((v17).toUInt64 >>> (((33 : Int32)).toInt64.toUInt64 &&& Int64.toUInt64 63)).toInt64)) hx hb dX8_simulate_46 rfl ?_
    refine lv_l2i (v := (((((v17).toUInt64 >>> (((33 : Int32)).toInt64.toUInt64 &&& Int64.toUInt64 63)).toInt64)).toInt32)) hx hb dX8_simulate_47 rfl ?_
    obtain ⟨v18, ev18, hF⟩ := nm_t hF
    refine lv_nmi ev18 ?_
    refine lv_istore (lv' := [(7, .int v18), (4, .long v17), (0, .ref (bb G + 0)), (3, .int x1), (6, .int v10)]) hx hb dX8_simulate_48 hl (by decide) rfl (fun ls hl => ?_)
    refine lv_iload hx hb dX8_simulate_50 (lv_at hl 0 rfl) ?_
    refine lv_bipush (v := 16) hx hb dX8_simulate_52 (by decide) ?_
    refine lv_irem hx hb dX8_simulate_54 (by decide) ?_
    have hJ97 : ∀ (C20 : Mem) (H : Heap) (locs : List Loc) (ls : Array Slot), J_X8_simulate_97 v10 v17 v18 C20 = some oo12 → Wd G n C20 H → LW G s H locs → lv_has ls 9 [(0, .ref (bb G + 0)), (3, .int x1), (4, .long v17), (6, .int v10), (7, .int v18)] → W p l e (rmX 7 117 1 6) s m ([.ref (bb G + 0), .long x0, .int x1] : List Value).toArray below meth c H locs 1 6 (vx_MQ below (QX G n (fun v => some (.int v)) rR CR) (XX G n rR CR) ([.ref (bb G + 0), .long x0, .int x1] : List Value).toArray s 1 6 (frA G)) (F0 m 97 ls []) := by
      intro C20 H locs ls hF hw hS hl
      unfold J_X8_simulate_97 at hF
      refine lv_aload_n hx hb dX8_simulate_97 rfl (lv_at hl 0 rfl) ?_
      refine gX8_23 hC hw (by omega)  dX8_simulate_98 ?_
      refine lv_iconst (v := 1) hx hb dX8_simulate_101 (by decide) ?_
      refine lv_iload hx hb dX8_simulate_102 (lv_at hl 4 rfl) ?_
      refine lv_bipush (v := 64) hx hb dX8_simulate_104 (by decide) ?_
      refine lv_idiv hx hb dX8_simulate_106 (by decide) ?_
      refine lv_iconst (v := 4) hx hb dX8_simulate_107 (by decide) ?_
      refine lv_irem hx hb dX8_simulate_108 (by decide) ?_
      obtain ⟨r21, C22, hc23, hF⟩ := b2_t hF
      refine call_Vv hC (c_X5_passTicks l G n (by omega) hn2 1 (show 1 < 18 by decide) (1 : Int32) ((v18 / (64 : Int32)) - (v18 / (64 : Int32)) / (4 : Int32) * (4 : Int32)) _ _ _ hc23) wvX8_218 ⟨rfl, rfl, by decide, by decide⟩ hw hS (by have := po_lt (show 1 < 18 by decide); omega) (ca_plant (show 1 < 18 by decide)) rfl hl.1 rfl (rest := []) rfl (Nat.le_of_ble_eq_true rfl) dX8_simulate_109 ⟨by decide, by decide⟩ (fun H locs hw hS _ => ?_)
      obtain ⟨v24, ev24, hF⟩ := nm_t hF
      refine lv_iinc (v := v24) (lv' := [(6, .int v24), (0, .ref (bb G + 0)), (3, .int x1), (4, .long v17), (7, .int v18)]) hx hb dX8_simulate_112 hl (k := 3) rfl (by rw [ev24]; rfl) (by decide) rfl (fun ls hl => ?_)
      refine lv_goto (tgt := 24) hx hb dX8_simulate_115 (by decide) ?_
      exact it_back hF hk12 _ _ _ hw hS (lv_sub hl [1, 2, 3, 0] rfl)
    refine lv_if_ne (tgt := 97) hx hb dX8_simulate_55 (by decide) (fun h19 => ?_) (fun h19 => ?_)
    · have hF := it_f h19 hF
      exact hJ97 C11 _ _ _ hF hw hS (lv_sub hl [2, 3, 1, 4, 0] rfl)
    · have hF := it_t h19 hF
      refine lv_iload hx hb dX8_simulate_58 (lv_at hl 0 rfl) ?_
      refine lv_bipush (v := 16) hx hb dX8_simulate_60 (by decide) ?_
      refine lv_idiv hx hb dX8_simulate_62 (by decide) ?_
      refine lv_iconst (v := 2) hx hb dX8_simulate_63 (by decide) ?_
      refine lv_irem hx hb dX8_simulate_64 (by decide) ?_
      obtain ⟨v25, ev25, hF⟩ := nm_t hF
      refine lv_nmi ev25 ?_
      refine lv_istore (lv' := [(8, .int v25), (7, .int v18), (4, .long v17), (0, .ref (bb G + 0)), (3, .int x1), (6, .int v10)]) hx hb dX8_simulate_65 hl (by decide) rfl (fun ls hl => ?_)
      refine lv_aload_n hx hb dX8_simulate_67 rfl (lv_at hl 3 rfl) ?_
      refine gX8_23 hC hw (by omega)  dX8_simulate_68 ?_
      refine lv_iload hx hb dX8_simulate_71 (lv_at hl 0 rfl) ?_
      refine lv_aload_n hx hb dX8_simulate_73 rfl (lv_at hl 3 rfl) ?_
      refine gX8_23 hC hw (by omega)  dX8_simulate_74 ?_
      refine lv_iload hx hb dX8_simulate_77 (lv_at hl 0 rfl) ?_
      obtain ⟨r26, C27, hc28, hF⟩ := b2_t hF
      refine call_Vr hC (c_X5_flueOf l G n (by omega) hn2 1 (show 1 < 18 by decide) v25 _ _ _ hc28) wvX8_167 ⟨rfl, rfl, by decide, by decide⟩ hw hS (by have := po_lt (show 1 < 18 by decide); omega) (ca_plant (show 1 < 18 by decide)) rfl hl.1 rfl (rest := [.int v25, .ref (bb G + po 1)]) rfl (Nat.le_of_ble_eq_true rfl) dX8_simulate_79 ⟨by decide, by decide⟩ (fun H locs hw hS _ => ?_)
      obtain ⟨g29, hF⟩ := gn_t hF
      refine gX8_179 hC hw (by omega) (show 1 < 18 by decide) g29 dX8_simulate_82 ?_
      refine lv_if_ne (tgt := 92) hx hb dX8_simulate_85 (by decide) (fun h30 => ?_) (fun h30 => ?_)
      · have hF := it_f h30 hF
        refine lv_iconst (v := 0) hx hb dX8_simulate_92 (by decide) ?_
        obtain ⟨r31, C32, hc33, hF⟩ := b2_t hF
        refine call_Vi hC (c_X5_moveFlue l G n (by omega) hn2 1 (show 1 < 18 by decide) v25 (0 : Int32) _ _ _ hc33) wvX8_233 ⟨rfl, rfl, by decide, by decide⟩ hw hS (by have := po_lt (show 1 < 18 by decide); omega) (ca_plant (show 1 < 18 by decide)) rfl hl.1 rfl (rest := []) rfl (Nat.le_of_ble_eq_true rfl) dX8_simulate_93 ⟨by decide, by decide⟩ (fun H locs hw hS _ => ?_)
        refine lv_pop hx hb dX8_simulate_96 rfl ?_
        exact hJ97 C32 _ _ _ hF hw hS (lv_sub hl [3, 4, 2, 5, 1] rfl)
      · have hF := it_t h30 hF
        refine lv_iconst (v := 1) hx hb dX8_simulate_88 (by decide) ?_
        refine lv_goto (tgt := 93) hx hb dX8_simulate_89 (by decide) ?_
        obtain ⟨r34, C35, hc36, hF⟩ := b2_t hF
        refine call_Vi hC (c_X5_moveFlue l G n (by omega) hn2 1 (show 1 < 18 by decide) v25 (1 : Int32) _ _ _ hc36) wvX8_233 ⟨rfl, rfl, by decide, by decide⟩ hw hS (by have := po_lt (show 1 < 18 by decide); omega) (ca_plant (show 1 < 18 by decide)) rfl hl.1 rfl (rest := []) rfl (Nat.le_of_ble_eq_true rfl) dX8_simulate_93 ⟨by decide, by decide⟩ (fun H locs hw hS _ => ?_)
        refine lv_pop hx hb dX8_simulate_96 rfl ?_
        exact hJ97 C35 _ _ _ hF hw hS (lv_sub hl [3, 4, 2, 5, 1] rfl)
set_option maxHeartbeats 4000000 in
set_option maxRecDepth 100000 in
theorem c_X8_requireSlot (l : Launch) (G : GG) (n : Nat) (hn : 244 ≤ n) (hn2 : 0 ≤ n) (hfl : l.stackTraces = false) (x0 : Int32) (C : Mem) (rR : Rs) (CR : Mem) (hF : F_X8_requireSlot x0 C = some (rR, CR)) : CtX l yX8_requireSlot cX8_requireSlot 1 none (rmX 6 86 1 6) 1 6 G n C [.int x0] (fun _ => none) rR CR := by
  refine CtX.of (by decide) (Nat.le_of_ble_eq_true rfl) ?_
  intro p e s m below meth c ls hC hr hlk ht hw hl
  have hx := hC.1
  have hb := hC.2.1
  have hS : LW G s s.heap [] := va_S.rf
  have hl : lv_has ls 1 [(0, .int x0)] := hl
  unfold F_X8_requireSlot at hF
  refine lv_iload_n hx hb dX8_requireSlot_0 rfl (lv_at hl 0 rfl) ?_
  refine lv_if_eq (tgt := 20) hx hb dX8_requireSlot_1 (by decide) (fun h1 => ?_) (fun h1 => ?_)
  · have hF := it_t h1 hF
    exact m_vretX hC hr hlk hw hS (by decide) (by decide) dX8_requireSlot_20 hF
  · have hF := it_f h1 hF
    refine lv_iload_n hx hb dX8_requireSlot_4 rfl (lv_at hl 0 rfl) ?_
    refine lv_iconst (v := 1) hx hb dX8_requireSlot_5 (by decide) ?_
    refine lv_icmp_eq (tgt := 20) hx hb dX8_requireSlot_6 (by decide) (fun h2 => ?_) (fun h2 => ?_)
    · have hF := it_t h2 hF
      exact m_vretX hC hr hlk hw hS (by decide) (by decide) dX8_requireSlot_20 hF
    · have hF := it_f h2 hF
      exact m_throwSW hC hfl hlk ht hw hS xat_3 (by decide +kernel : (319, "there is no such save slot") ∈ strs) hl.1 dX8_requireSlot_9 dX8_requireSlot_12 dX8_requireSlot_13 dX8_requireSlot_16 dX8_requireSlot_19 (by decide) (by decide) (by decide) (by decide) (by decide) (by decide) hF
set_option maxHeartbeats 4000000 in
set_option maxRecDepth 100000 in
theorem c_X8_save (l : Launch) (G : GG) (n : Nat) (hn : 244 ≤ n) (hn2 : 0 ≤ n) (hfl : l.stackTraces = false) (x0 : Int32) (C : Mem) (rR : Rs) (CR : Mem) (hF : F_X8_save x0 C = some (rR, CR)) : CtX l yX8_save cX8_save 3 (some .int) (rmX 7 106 1 6) 1 6 G n C [.ref (bb G + 0), .int x0] (fun v => some (.int v)) rR CR := by
  refine CtX.of (by decide) (Nat.le_of_ble_eq_true rfl) ?_
  intro p e s m below meth c ls hC hr hlk ht hw hl
  have hx := hC.1
  have hb := hC.2.1
  have hS : LW G s s.heap [] := va_S.rf
  have hl : lv_has ls 3 [(0, .ref (bb G + 0)), (1, .int x0)] := hl
  unfold F_X8_save at hF
  refine lv_iload_n hx hb dX8_save_0 rfl (lv_at hl 1 rfl) ?_
  obtain ⟨r1, C2, hc3, hF⟩ := b2_t hF
  refine call_SXv hC (c_X8_requireSlot l G n (by omega) hn2 hfl x0 _ _ _ hc3) wsX8_307 ⟨rfl, rfl, by decide, by decide⟩ hw hS hl.1 rfl (rest := []) rfl (Nat.le_of_ble_eq_true rfl) dX8_save_1 ⟨by decide, by decide⟩ (fun k ce q9 H locs h5 b1 b2 hw hS hce hcv hcl => m_out hC hlk ht hw hS b1 b2 hce hcv hcl (by decide) (by decide) (se_x h5 hF)) (fun v4 H locs h5 hw hS => ?_)
  have hF := se_l h5 hF
  refine lv_iload_n hx hb dX8_save_4 rfl (lv_at hl 1 rfl) ?_
  refine lv_if_ne (tgt := 15) hx hb dX8_save_5 (by decide) (fun h6 => ?_) (fun h6 => ?_)
  · have hF := it_f h6 hF
    refine lv_aload_n hx hb dX8_save_15 rfl (lv_at hl 0 rfl) ?_
    refine gX8_40 hC hw (by omega)  dX8_save_16 ?_
    refine lv_astore_n (lv' := [(2, .ref (bb G + (216 + 14 * 1))), (0, .ref (bb G + 0)), (1, .int x0)]) hx hb dX8_save_19 rfl hl (by decide) rfl (fun ls hl => ?_)
    refine lv_aload_n hx hb dX8_save_20 rfl (lv_at hl 0 rfl) ?_
    refine gX8_310 hC hw (by omega) (show 1 < 2 by decide) dX8_save_21 ?_
    refine lv_aload_n hx hb dX8_save_24 rfl (lv_at hl 1 rfl) ?_
    refine gX8_19 hC hw (by omega)  dX8_save_25 ?_
    obtain ⟨r7, C8, hc9, hF⟩ := b2_t hF
    refine call_Vv hC (c_X5_copyFrom l G n (by omega) hn2 (16 + 1) (show (16 + 1) < 18 by decide) 0 (show 0 < 18 by decide) _ _ _ hc9) wvX8_269 ⟨rfl, rfl, by decide, by decide⟩ hw hS (by have := po_lt (show (16 + 1) < 18 by decide); omega) (ca_plant (show (16 + 1) < 18 by decide)) rfl hl.1 rfl (rest := []) rfl (Nat.le_of_ble_eq_true rfl) dX8_save_28 ⟨by decide, by decide⟩ (fun H locs hw hS _ => ?_)
    refine lv_aload_n hx hb dX8_save_31 rfl (lv_at hl 0 rfl) ?_
    refine lv_iconst (v := 1) hx hb dX8_save_32 (by decide) ?_
    refine pX8_75 hC hw hS (by omega) hn2 (show 1 < 2 by decide) (by decide) dX8_save_33 (fun H locs hw hS _ => ?_)
    obtain ⟨C10, eC10, hF⟩ := nm_t hF
    have hw := Wd.cast eC10 hw
    refine lv_aload_n hx hb dX8_save_36 rfl (lv_at hl 1 rfl) ?_
    refine gX8_19 hC hw (by omega)  dX8_save_37 ?_
    refine gX8_95 hC hw (by omega) (show 0 < 18 by decide) dX8_save_40 ?_
    exact m_iretX hC hr hlk hw hS (by decide) (by decide) dX8_save_43 hF
  · have hF := it_t h6 hF
    refine lv_aload_n hx hb dX8_save_8 rfl (lv_at hl 0 rfl) ?_
    refine gX8_36 hC hw (by omega)  dX8_save_9 ?_
    refine lv_goto (tgt := 19) hx hb dX8_save_12 (by decide) ?_
    refine lv_astore_n (lv' := [(2, .ref (bb G + (216 + 14 * 0))), (0, .ref (bb G + 0)), (1, .int x0)]) hx hb dX8_save_19 rfl hl (by decide) rfl (fun ls hl => ?_)
    refine lv_aload_n hx hb dX8_save_20 rfl (lv_at hl 0 rfl) ?_
    refine gX8_310 hC hw (by omega) (show 0 < 2 by decide) dX8_save_21 ?_
    refine lv_aload_n hx hb dX8_save_24 rfl (lv_at hl 1 rfl) ?_
    refine gX8_19 hC hw (by omega)  dX8_save_25 ?_
    obtain ⟨r11, C12, hc13, hF⟩ := b2_t hF
    refine call_Vv hC (c_X5_copyFrom l G n (by omega) hn2 (16 + 0) (show (16 + 0) < 18 by decide) 0 (show 0 < 18 by decide) _ _ _ hc13) wvX8_269 ⟨rfl, rfl, by decide, by decide⟩ hw hS (by have := po_lt (show (16 + 0) < 18 by decide); omega) (ca_plant (show (16 + 0) < 18 by decide)) rfl hl.1 rfl (rest := []) rfl (Nat.le_of_ble_eq_true rfl) dX8_save_28 ⟨by decide, by decide⟩ (fun H locs hw hS _ => ?_)
    refine lv_aload_n hx hb dX8_save_31 rfl (lv_at hl 0 rfl) ?_
    refine lv_iconst (v := 1) hx hb dX8_save_32 (by decide) ?_
    refine pX8_75 hC hw hS (by omega) hn2 (show 0 < 2 by decide) (by decide) dX8_save_33 (fun H locs hw hS _ => ?_)
    obtain ⟨C14, eC14, hF⟩ := nm_t hF
    have hw := Wd.cast eC14 hw
    refine lv_aload_n hx hb dX8_save_36 rfl (lv_at hl 1 rfl) ?_
    refine gX8_19 hC hw (by omega)  dX8_save_37 ?_
    refine gX8_95 hC hw (by omega) (show 0 < 18 by decide) dX8_save_40 ?_
    exact m_iretX hC hr hlk hw hS (by decide) (by decide) dX8_save_43 hF
set_option maxHeartbeats 4000000 in
set_option maxRecDepth 100000 in
theorem c_X8_restore (l : Launch) (G : GG) (n : Nat) (hn : 244 ≤ n) (hn2 : 0 ≤ n) (hfl : l.stackTraces = false) (x0 : Int32) (C : Mem) (rR : Rs) (CR : Mem) (hF : F_X8_restore x0 C = some (rR, CR)) : CtX l yX8_restore cX8_restore 3 (some .int) (rmX 7 106 2 12) 2 12 G n C [.ref (bb G + 0), .int x0] (fun v => some (.int v)) rR CR := by
  refine CtX.of (by decide) (Nat.le_of_ble_eq_true rfl) ?_
  intro p e s m below meth c ls hC hr hlk ht hw hl
  have hx := hC.1
  have hb := hC.2.1
  have hS : LW G s s.heap [] := va_S.rf
  have hl : lv_has ls 3 [(0, .ref (bb G + 0)), (1, .int x0)] := hl
  unfold F_X8_restore at hF
  refine lv_iload_n hx hb dX8_restore_0 rfl (lv_at hl 1 rfl) ?_
  obtain ⟨r1, C2, hc3, hF⟩ := b2_t hF
  refine call_SXv hC (c_X8_requireSlot l G n (by omega) hn2 hfl x0 _ _ _ hc3) wsX8_307 ⟨rfl, rfl, by decide, by decide⟩ hw hS hl.1 rfl (rest := []) rfl (Nat.le_of_ble_eq_true rfl) dX8_restore_1 ⟨by decide, by decide⟩ (fun k ce q9 H locs h5 b1 b2 hw hS hce hcv hcl => m_out hC hlk ht hw hS b1 b2 hce hcv hcl (by decide) (by decide) (se_x h5 hF)) (fun v4 H locs h5 hw hS => ?_)
  have hF := se_l h5 hF
  refine lv_iload_n hx hb dX8_restore_4 rfl (lv_at hl 1 rfl) ?_
  refine lv_if_ne (tgt := 15) hx hb dX8_restore_5 (by decide) (fun h6 => ?_) (fun h6 => ?_)
  · have hF := it_f h6 hF
    refine lv_aload_n hx hb dX8_restore_15 rfl (lv_at hl 0 rfl) ?_
    refine gX8_40 hC hw (by omega)  dX8_restore_16 ?_
    refine lv_astore_n (lv' := [(2, .ref (bb G + (216 + 14 * 1))), (0, .ref (bb G + 0)), (1, .int x0)]) hx hb dX8_restore_19 rfl hl (by decide) rfl (fun ls hl => ?_)
    refine lv_aload_n hx hb dX8_restore_20 rfl (lv_at hl 0 rfl) ?_
    refine gX8_75 hC hw (by omega) (show 1 < 2 by decide) dX8_restore_21 ?_
    refine lv_if_ne (tgt := 38) hx hb dX8_restore_24 (by decide) (fun h7 => ?_) (fun h7 => ?_)
    · have hF := it_f h7 hF
      refine lv_aload_n hx hb dX8_restore_38 rfl (lv_at hl 1 rfl) ?_
      refine gX8_19 hC hw (by omega)  dX8_restore_39 ?_
      refine lv_aload_n hx hb dX8_restore_42 rfl (lv_at hl 0 rfl) ?_
      refine gX8_310 hC hw (by omega) (show 1 < 2 by decide) dX8_restore_43 ?_
      obtain ⟨r8, C9, hc10, hF⟩ := b2_t hF
      refine call_Vv hC (c_X5_copyFrom l G n (by omega) hn2 0 (show 0 < 18 by decide) (16 + 1) (show (16 + 1) < 18 by decide) _ _ _ hc10) wvX8_269 ⟨rfl, rfl, by decide, by decide⟩ hw hS (by have := po_lt (show 0 < 18 by decide); omega) (ca_plant (show 0 < 18 by decide)) rfl hl.1 rfl (rest := []) rfl (Nat.le_of_ble_eq_true rfl) dX8_restore_46 ⟨by decide, by decide⟩ (fun H locs hw hS _ => ?_)
      refine lv_aload_n hx hb dX8_restore_49 rfl (lv_at hl 1 rfl) ?_
      refine gX8_29 hC hw (by omega)  dX8_restore_50 ?_
      obtain ⟨r11, C12, hc13, hF⟩ := b2_t hF
      refine call_Vv hC (c_X2_forgetAll l G n (by omega) hn2  _ _ _ hc13) wvX8_72 ⟨rfl, rfl, by decide, by decide⟩ hw hS (by omega) ca_hist rfl hl.1 rfl (rest := []) rfl (Nat.le_of_ble_eq_true rfl) dX8_restore_53 ⟨by decide, by decide⟩ (fun H locs hw hS _ => ?_)
      refine lv_aload_n hx hb dX8_restore_56 rfl (lv_at hl 1 rfl) ?_
      refine gX8_19 hC hw (by omega)  dX8_restore_57 ?_
      refine gX8_95 hC hw (by omega) (show 0 < 18 by decide) dX8_restore_60 ?_
      exact m_iretX hC hr hlk hw hS (by decide) (by decide) dX8_restore_63 hF
    · have hF := it_t h7 hF
      exact m_throwSW hC hfl hlk ht hw hS xat_2 (by decide +kernel : (313, "nothing is saved in this slot") ∈ strs) hl.1 dX8_restore_27 dX8_restore_30 dX8_restore_31 dX8_restore_34 dX8_restore_37 (by decide) (by decide) (by decide) (by decide) (by decide) (by decide) hF
  · have hF := it_t h6 hF
    refine lv_aload_n hx hb dX8_restore_8 rfl (lv_at hl 0 rfl) ?_
    refine gX8_36 hC hw (by omega)  dX8_restore_9 ?_
    refine lv_goto (tgt := 19) hx hb dX8_restore_12 (by decide) ?_
    refine lv_astore_n (lv' := [(2, .ref (bb G + (216 + 14 * 0))), (0, .ref (bb G + 0)), (1, .int x0)]) hx hb dX8_restore_19 rfl hl (by decide) rfl (fun ls hl => ?_)
    refine lv_aload_n hx hb dX8_restore_20 rfl (lv_at hl 0 rfl) ?_
    refine gX8_75 hC hw (by omega) (show 0 < 2 by decide) dX8_restore_21 ?_
    refine lv_if_ne (tgt := 38) hx hb dX8_restore_24 (by decide) (fun h14 => ?_) (fun h14 => ?_)
    · have hF := it_f h14 hF
      refine lv_aload_n hx hb dX8_restore_38 rfl (lv_at hl 1 rfl) ?_
      refine gX8_19 hC hw (by omega)  dX8_restore_39 ?_
      refine lv_aload_n hx hb dX8_restore_42 rfl (lv_at hl 0 rfl) ?_
      refine gX8_310 hC hw (by omega) (show 0 < 2 by decide) dX8_restore_43 ?_
      obtain ⟨r15, C16, hc17, hF⟩ := b2_t hF
      refine call_Vv hC (c_X5_copyFrom l G n (by omega) hn2 0 (show 0 < 18 by decide) (16 + 0) (show (16 + 0) < 18 by decide) _ _ _ hc17) wvX8_269 ⟨rfl, rfl, by decide, by decide⟩ hw hS (by have := po_lt (show 0 < 18 by decide); omega) (ca_plant (show 0 < 18 by decide)) rfl hl.1 rfl (rest := []) rfl (Nat.le_of_ble_eq_true rfl) dX8_restore_46 ⟨by decide, by decide⟩ (fun H locs hw hS _ => ?_)
      refine lv_aload_n hx hb dX8_restore_49 rfl (lv_at hl 1 rfl) ?_
      refine gX8_29 hC hw (by omega)  dX8_restore_50 ?_
      obtain ⟨r18, C19, hc20, hF⟩ := b2_t hF
      refine call_Vv hC (c_X2_forgetAll l G n (by omega) hn2  _ _ _ hc20) wvX8_72 ⟨rfl, rfl, by decide, by decide⟩ hw hS (by omega) ca_hist rfl hl.1 rfl (rest := []) rfl (Nat.le_of_ble_eq_true rfl) dX8_restore_53 ⟨by decide, by decide⟩ (fun H locs hw hS _ => ?_)
      refine lv_aload_n hx hb dX8_restore_56 rfl (lv_at hl 1 rfl) ?_
      refine gX8_19 hC hw (by omega)  dX8_restore_57 ?_
      refine gX8_95 hC hw (by omega) (show 0 < 18 by decide) dX8_restore_60 ?_
      exact m_iretX hC hr hlk hw hS (by decide) (by decide) dX8_restore_63 hF
    · have hF := it_t h14 hF
      exact m_throwSW hC hfl hlk ht hw hS xat_2 (by decide +kernel : (313, "nothing is saved in this slot") ∈ strs) hl.1 dX8_restore_27 dX8_restore_30 dX8_restore_31 dX8_restore_34 dX8_restore_37 (by decide) (by decide) (by decide) (by decide) (by decide) (by decide) hF
