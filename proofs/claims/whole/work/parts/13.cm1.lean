/-! contracts, by program out of the bytecode -/
set_option maxHeartbeats 4000000 in
set_option maxRecDepth 100000 in
theorem c_X9_thrown (l : Launch) (G : GG) (n : Nat) (hn : 252 ≤ n) (hn2 : n ≤ 253)  (C : Mem) (rR : Int32) (CR : Mem) (hF : F_X9_thrown  C = some (rR, CR)) : Ct l yX9_thrown cX9_thrown 1 (some .int) (rmN 0 0) G n C [.ref (bb G + 244)] (some (.int rR)) CR := by
  refine Ct.of (by decide) (Nat.le_of_ble_eq_true rfl) ?_
  intro p e s m below meth c ls hC hr hlk hw hl
  have hx := hC.1
  have hb := hC.2.1
  have hS : LW G s s.heap [] := va_S.rf
  have hl : lv_has ls 1 [(0, .ref (bb G + 244))] := hl
  unfold F_X9_thrown at hF
  refine lv_aload_n hx hb dX9_thrown_0 rfl (lv_at hl 0 rfl) ?_
  refine gX9_43 hC hw (by omega)  dX9_thrown_1 ?_
  exact m_iret hC hr hlk hw hS dX9_thrown_4 hF
set_option maxHeartbeats 4000000 in
set_option maxRecDepth 100000 in
theorem c_X9_refused (l : Launch) (G : GG) (n : Nat) (hn : 252 ≤ n) (hn2 : n ≤ 253) (x0 : Int32) (C : Mem) (rR : Int32) (CR : Mem) (hF : F_X9_refused x0 C = some (rR, CR)) : Ct l yX9_refused cX9_refused 2 (some .boolean) (rmN 0 0) G n C [.ref (bb G + 244), .int x0] (some (.int rR)) CR := by
  refine Ct.of (by decide) (Nat.le_of_ble_eq_true rfl) ?_
  intro p e s m below meth c ls hC hr hlk hw hl
  have hx := hC.1
  have hb := hC.2.1
  have hS : LW G s s.heap [] := va_S.rf
  have hl : lv_has ls 2 [(0, .ref (bb G + 244)), (1, .int x0)] := hl
  unfold F_X9_refused at hF
  refine lv_aload_n hx hb dX9_refused_0 rfl (lv_at hl 0 rfl) ?_
  refine lv_iload_n hx hb dX9_refused_1 rfl (lv_at hl 1 rfl) ?_
  refine pX9_43 hC hw hS (by omega) hn2  dX9_refused_2 (fun H locs hw hS _ => ?_)
  obtain ⟨C1, eC1, hF⟩ := nm_t hF
  have hw := Wd.cast eC1 hw
  refine lv_iload_n hx hb dX9_refused_5 rfl (lv_at hl 1 rfl) ?_
  refine lv_if_le (tgt := 13) hx hb dX9_refused_6 (by decide) (fun h2 => ?_) (fun h2 => ?_)
  · have hF := it_t h2 hF
    refine lv_iconst (v := 0) hx hb dX9_refused_13 (by decide) ?_
    exact m_zret hC hr hlk hw hS dX9_refused_14 (by decide) hF
  · have hF := it_f h2 hF
    refine lv_iconst (v := 1) hx hb dX9_refused_9 (by decide) ?_
    refine lv_goto (tgt := 14) hx hb dX9_refused_10 (by decide) ?_
    exact m_zret hC hr hlk hw hS dX9_refused_14 (by decide) hF
set_option maxHeartbeats 4000000 in
set_option maxRecDepth 100000 in
theorem c_X9_in (l : Launch) (G : GG) (n : Nat) (hn : 252 ≤ n) (hn2 : n ≤ 253) (x0 : Int64) (x1 : Int64) (x2 : Int64) (C : Mem) (rR : Int32) (CR : Mem) (hF : F_X9_in x0 x1 x2 C = some (rR, CR)) : Ct l yX9_in cX9_in 6 (some .boolean) (rmN 0 0) G n C [.long x0, .long x1, .long x2] (some (.int rR)) CR := by
  refine Ct.of (by decide) (Nat.le_of_ble_eq_true rfl) ?_
  intro p e s m below meth c ls hC hr hlk hw hl
  have hx := hC.1
  have hb := hC.2.1
  have hS : LW G s s.heap [] := va_S.rf
  have hl : lv_has ls 6 [(0, .long x0), (2, .long x1), (4, .long x2)] := hl
  unfold F_X9_in at hF
  refine lv_lload_n hx hb dX9_in_0 rfl (lv_at hl 0 rfl) ?_
  refine lv_lload_n hx hb dX9_in_1 rfl (lv_at hl 1 rfl) ?_
  refine W.lcmp hx hb dX9_in_2 ?_
  refine lv_if_lt (tgt := 17) hx hb dX9_in_3 (by decide) (fun h1 => ?_) (fun h1 => ?_)
  · have hF := it_t h1 hF
    refine lv_iconst (v := 0) hx hb dX9_in_17 (by decide) ?_
    exact m_zret hC hr hlk hw hS dX9_in_18 (by decide) hF
  · have hF := it_f h1 hF
    refine lv_lload_n hx hb dX9_in_6 rfl (lv_at hl 0 rfl) ?_
    refine lv_lload hx hb dX9_in_7 (lv_at hl 2 rfl) ?_
    refine W.lcmp hx hb dX9_in_9 ?_
    refine lv_if_gt (tgt := 17) hx hb dX9_in_10 (by decide) (fun h2 => ?_) (fun h2 => ?_)
    · have hF := it_t h2 hF
      refine lv_iconst (v := 0) hx hb dX9_in_17 (by decide) ?_
      exact m_zret hC hr hlk hw hS dX9_in_18 (by decide) hF
    · have hF := it_f h2 hF
      refine lv_iconst (v := 1) hx hb dX9_in_13 (by decide) ?_
      refine lv_goto (tgt := 18) hx hb dX9_in_14 (by decide) ?_
      exact m_zret hC hr hlk hw hS dX9_in_18 (by decide) hF
set_option maxHeartbeats 4000000 in
set_option maxRecDepth 100000 in
theorem c_X9_copyPage (l : Launch) (G : GG) (n : Nat) (hn : 252 ≤ n) (hn2 : n ≤ 253) (r0 : Nat) (hr0 : 31 ≤ r0 ∧ r0 ≤ 36) (x1 : Int32) (r2 : Nat) (hr2 : 31 ≤ r2 ∧ r2 ≤ 36) (x3 : Int32) (C : Mem) (rR : Int32) (CR : Mem) (hF : F_X9_copyPage r0 x1 r2 x3 C = some (rR, CR)) : Ct l yX9_copyPage cX9_copyPage 5 none (rmN 0 0) G n C [.ref (bb G + (r0 + 214)), .int x1, .ref (bb G + (r2 + 214)), .int x3] none CR := by
  refine Ct.of (by decide) (Nat.le_of_ble_eq_true rfl) ?_
  intro p e s m below meth c ls hC hr hlk hw hl
  have hx := hC.1
  have hb := hC.2.1
  have hS : LW G s s.heap [] := va_S.rf
  have hl : lv_has ls 5 [(0, .ref (bb G + (r0 + 214))), (1, .int x1), (2, .ref (bb G + (r2 + 214))), (3, .int x3)] := hl
  unfold F_X9_copyPage at hF
  refine lv_iconst (v := 0) hx hb dX9_copyPage_0 (by decide) ?_
  refine lv_istore (lv' := [(4, .int (0 : Int32)), (0, .ref (bb G + (r0 + 214))), (1, .int x1), (2, .ref (bb G + (r2 + 214))), (3, .int x3)]) hx hb dX9_copyPage_1 hl (by decide) rfl (fun ls hl => ?_)
  obtain ⟨o3, hit3, hG3⟩ := b1_t hF
  have hR3 : ∀ (v4 : Int32) (C5 : Mem) (H : Heap) (locs : List Loc) (ls : Array Slot), o3 = (v4, C5) → Wd G n C5 H → LW G s H locs → lv_has ls 5 [] → W p l e (rmN 0 0) s m ([.ref (bb G + (r0 + 214)), .int x1, .ref (bb G + (r2 + 214)), .int x3] : List Value).toArray below meth c H locs 0 0 (MQ below (QR G n none CR) ([.ref (bb G + (r0 + 214)), .int x1, .ref (bb G + (r2 + 214)), .int x3] : List Value).toArray s 0 0 (frA G)) (F0 m 28 ls []) := by
    intro v4 C5 H locs ls hE hw hS hl
    subst hE
    have hF := u2_t (hG3)
    exact m_vret hC hr hlk hw hS dX9_copyPage_28 hF
  refine iter_sound (P := fun x : Int32 × Mem => ∀ (H : Heap) (locs : List Loc) (ls : Array Slot), Wd G n x.2 H → LW G s H locs → lv_has ls 5 [(0, .ref (bb G + (r0 + 214))), (1, .int x1), (2, .ref (bb G + (r2 + 214))), (3, .int x3), (4, .int x.1)] → W p l e (rmN 0 0) s m ([.ref (bb G + (r0 + 214)), .int x1, .ref (bb G + (r2 + 214)), .int x3] : List Value).toArray below meth c H locs 0 0 (MQ below (QR G n none CR) ([.ref (bb G + (r0 + 214)), .int x1, .ref (bb G + (r2 + 214)), .int x3] : List Value).toArray s 0 0 (frA G)) (F0 m 3 ls [])) (X := fun r => r = o3) ?_ fuel ((0 : Int32), C) o3 hit3 rfl _ _ _ hw hS (lv_sub hl [1, 2, 3, 4, 0] rfl)
  intro x oo3 hF hk3 hX3 H locs ls hw hS hl
  obtain ⟨v1, C2⟩ := x
  have hF : S_X9_copyPage_3 r0 x1 r2 x3 v1 C2 = some oo3 := hF
  have hw : Wd G n C2 H := hw
  have hl : lv_has ls 5 [(0, .ref (bb G + (r0 + 214))), (1, .int x1), (2, .ref (bb G + (r2 + 214))), (3, .int x3), (4, .int v1)] := hl
  unfold S_X9_copyPage_3 at hF
  refine lv_iload hx hb dX9_copyPage_3 (lv_at hl 4 rfl) ?_
  refine lv_bipush (v := 65) hx hb dX9_copyPage_5 (by decide) ?_
  refine lv_icmp_ge (tgt := 28) hx hb dX9_copyPage_7 (by decide) (fun h6 => ?_) (fun h6 => ?_)
  · have hF := it_t h6 hF
    exact hR3 _ _ _ _ _ (it_exit hF hX3).symm hw hS (lv_sub hl [] rfl)
  · have hF := it_f h6 hF
    refine lv_aload_n hx hb dX9_copyPage_10 rfl (lv_at hl 2 rfl) ?_
    refine lv_iload_n hx hb dX9_copyPage_11 rfl (lv_at hl 3 rfl) ?_
    refine lv_iload hx hb dX9_copyPage_12 (lv_at hl 4 rfl) ?_
    refine lv_iadd hx hb dX9_copyPage_14 ?_
    refine lv_aload_n hx hb dX9_copyPage_15 rfl (lv_at hl 0 rfl) ?_
    refine lv_iload_n hx hb dX9_copyPage_16 rfl (lv_at hl 1 rfl) ?_
    refine lv_iload hx hb dX9_copyPage_17 (lv_at hl 4 rfl) ?_
    refine lv_iadd hx hb dX9_copyPage_19 ?_
    obtain ⟨g7, hF⟩ := gi_t hF
    refine ld_marr hC hw (by omega) hr0 g7 dX9_copyPage_20 ?_
    obtain ⟨g8, hF⟩ := gi_t hF
    refine st_marr hC hw hS (by omega) hn2 hr2 g8 dX9_copyPage_21 (fun H locs hw hS _ => ?_)
    obtain ⟨C9, eC9, hF⟩ := nm_t hF
    have hw := Wd.cast eC9 hw
    obtain ⟨v10, ev10, hF⟩ := nm_t hF
    refine lv_iinc (v := v10) (lv' := [(4, .int v10), (0, .ref (bb G + (r0 + 214))), (1, .int x1), (2, .ref (bb G + (r2 + 214))), (3, .int x3)]) hx hb dX9_copyPage_22 hl (k := 4) rfl (by rw [ev10]; rfl) (by decide) rfl (fun ls hl => ?_)
    refine lv_goto (tgt := 3) hx hb dX9_copyPage_25 (by decide) ?_
    exact it_back hF hk3 _ _ _ hw hS (lv_sub hl [1, 2, 3, 4, 0] rfl)
set_option maxHeartbeats 4000000 in
set_option maxRecDepth 100000 in
theorem c_X9_begin (l : Launch) (G : GG) (n : Nat) (hn : 252 ≤ n) (hn2 : n ≤ 253) (r0 : Nat) (hr0 : 31 ≤ r0 ∧ r0 ≤ 36) (C : Mem) (rR : Int32) (CR : Mem) (hF : F_X9_begin r0 C = some (rR, CR)) : Ct l yX9_begin cX9_begin 2 none (rmN 1 25) G n C [.ref (bb G + (r0 + 214))] none CR := by
  refine Ct.of (by decide) (Nat.le_of_ble_eq_true rfl) ?_
  intro p e s m below meth c ls hC hr hlk hw hl
  have hx := hC.1
  have hb := hC.2.1
  have hS : LW G s s.heap [] := va_S.rf
  have hl : lv_has ls 2 [(0, .ref (bb G + (r0 + 214)))] := hl
  unfold F_X9_begin at hF
  refine lv_iconst (v := 0) hx hb dX9_begin_0 (by decide) ?_
  refine lv_istore_n (lv' := [(1, .int (0 : Int32)), (0, .ref (bb G + (r0 + 214)))]) hx hb dX9_begin_1 rfl hl (by decide) rfl (fun ls hl => ?_)
  obtain ⟨o3, hit3, hG3⟩ := b1_t hF
  have hR3 : ∀ (v4 : Int32) (C5 : Mem) (H : Heap) (locs : List Loc) (ls : Array Slot), o3 = (v4, C5) → Wd G n C5 H → LW G s H locs → lv_has ls 2 [(0, .ref (bb G + (r0 + 214)))] → W p l e (rmN 1 25) s m ([.ref (bb G + (r0 + 214))] : List Value).toArray below meth c H locs 0 0 (MQ below (QR G n none CR) ([.ref (bb G + (r0 + 214))] : List Value).toArray s 0 0 (frA G)) (F0 m 37 ls []) := by
    intro v4 C5 H locs ls hE hw hS hl
    subst hE
    have hF := u2_t (hG3)
    refine lv_aload_n hx hb dX9_begin_37 rfl (lv_at hl 0 rfl) ?_
    refine lv_iconst (v := 0) hx hb dX9_begin_38 (by decide) ?_
    refine lv_bipush (v := 60) hx hb dX9_begin_39 (by decide) ?_
    obtain ⟨g17, hF⟩ := gi_t hF
    refine st_marr hC hw hS (by omega) hn2 hr0 g17 dX9_begin_41 (fun H locs hw hS _ => ?_)
    obtain ⟨C18, eC18, hF⟩ := nm_t hF
    have hw := Wd.cast eC18 hw
    refine lv_aload_n hx hb dX9_begin_42 rfl (lv_at hl 0 rfl) ?_
    refine lv_iconst (v := 1) hx hb dX9_begin_43 (by decide) ?_
    refine lv_iconst (v := 3) hx hb dX9_begin_44 (by decide) ?_
    obtain ⟨g19, hF⟩ := gi_t hF
    refine st_marr hC hw hS (by omega) hn2 hr0 g19 dX9_begin_45 (fun H locs hw hS _ => ?_)
    obtain ⟨C20, eC20, hF⟩ := nm_t hF
    have hw := Wd.cast eC20 hw
    refine lv_aload_n hx hb dX9_begin_46 rfl (lv_at hl 0 rfl) ?_
    refine lv_iconst (v := 2) hx hb dX9_begin_47 (by decide) ?_
    refine lv_iconst (v := 2) hx hb dX9_begin_48 (by decide) ?_
    obtain ⟨g21, hF⟩ := gi_t hF
    refine st_marr hC hw hS (by omega) hn2 hr0 g21 dX9_begin_49 (fun H locs hw hS _ => ?_)
    obtain ⟨C22, eC22, hF⟩ := nm_t hF
    have hw := Wd.cast eC22 hw
    refine lv_aload_n hx hb dX9_begin_50 rfl (lv_at hl 0 rfl) ?_
    refine lv_iconst (v := 3) hx hb dX9_begin_51 (by decide) ?_
    refine lv_bipush (v := 70) hx hb dX9_begin_52 (by decide) ?_
    obtain ⟨g23, hF⟩ := gi_t hF
    refine st_marr hC hw hS (by omega) hn2 hr0 g23 dX9_begin_54 (fun H locs hw hS _ => ?_)
    obtain ⟨C24, eC24, hF⟩ := nm_t hF
    have hw := Wd.cast eC24 hw
    refine lv_aload_n hx hb dX9_begin_55 rfl (lv_at hl 0 rfl) ?_
    refine lv_iconst (v := 4) hx hb dX9_begin_56 (by decide) ?_
    refine lv_iconst (v := 2) hx hb dX9_begin_57 (by decide) ?_
    obtain ⟨g25, hF⟩ := gi_t hF
    refine st_marr hC hw hS (by omega) hn2 hr0 g25 dX9_begin_58 (fun H locs hw hS _ => ?_)
    obtain ⟨C26, eC26, hF⟩ := nm_t hF
    have hw := Wd.cast eC26 hw
    refine lv_aload_n hx hb dX9_begin_59 rfl (lv_at hl 0 rfl) ?_
    refine lv_iconst (v := 5) hx hb dX9_begin_60 (by decide) ?_
    refine lv_iconst (v := 2) hx hb dX9_begin_61 (by decide) ?_
    obtain ⟨g27, hF⟩ := gi_t hF
    refine st_marr hC hw hS (by omega) hn2 hr0 g27 dX9_begin_62 (fun H locs hw hS _ => ?_)
    obtain ⟨C28, eC28, hF⟩ := nm_t hF
    have hw := Wd.cast eC28 hw
    refine lv_aload_n hx hb dX9_begin_63 rfl (lv_at hl 0 rfl) ?_
    refine lv_bipush (v := 20) hx hb dX9_begin_64 (by decide) ?_
    refine lv_iconst (v := 1) hx hb dX9_begin_66 (by decide) ?_
    obtain ⟨g29, hF⟩ := gi_t hF
    refine st_marr hC hw hS (by omega) hn2 hr0 g29 dX9_begin_67 (fun H locs hw hS _ => ?_)
    obtain ⟨C30, eC30, hF⟩ := nm_t hF
    have hw := Wd.cast eC30 hw
    refine lv_aload_n hx hb dX9_begin_68 rfl (lv_at hl 0 rfl) ?_
    refine lv_bipush (v := 21) hx hb dX9_begin_69 (by decide) ?_
    refine lv_iconst (v := 1) hx hb dX9_begin_71 (by decide) ?_
    obtain ⟨g31, hF⟩ := gi_t hF
    refine st_marr hC hw hS (by omega) hn2 hr0 g31 dX9_begin_72 (fun H locs hw hS _ => ?_)
    obtain ⟨C32, eC32, hF⟩ := nm_t hF
    have hw := Wd.cast eC32 hw
    exact m_vret hC hr hlk hw hS dX9_begin_73 hF
  refine iter_sound (P := fun x : Int32 × Mem => ∀ (H : Heap) (locs : List Loc) (ls : Array Slot), Wd G n x.2 H → LW G s H locs → lv_has ls 2 [(0, .ref (bb G + (r0 + 214))), (1, .int x.1)] → W p l e (rmN 1 25) s m ([.ref (bb G + (r0 + 214))] : List Value).toArray below meth c H locs 0 0 (MQ below (QR G n none CR) ([.ref (bb G + (r0 + 214))] : List Value).toArray s 0 0 (frA G)) (F0 m 2 ls [])) (X := fun r => r = o3) ?_ fuel ((0 : Int32), C) o3 hit3 rfl _ _ _ hw hS (lv_sub hl [1, 0] rfl)
  intro x oo3 hF hk3 hX3 H locs ls hw hS hl
  obtain ⟨v1, C2⟩ := x
  have hF : S_X9_begin_2 r0 v1 C2 = some oo3 := hF
  have hw : Wd G n C2 H := hw
  have hl : lv_has ls 2 [(0, .ref (bb G + (r0 + 214))), (1, .int v1)] := hl
  unfold S_X9_begin_2 at hF
  refine lv_iload_n hx hb dX9_begin_2 rfl (lv_at hl 1 rfl) ?_
  refine lv_bipush (v := 65) hx hb dX9_begin_3 (by decide) ?_
  refine lv_icmp_ge (tgt := 37) hx hb dX9_begin_5 (by decide) (fun h6 => ?_) (fun h6 => ?_)
  · have hF := it_t h6 hF
    exact hR3 _ _ _ _ _ (it_exit hF hX3).symm hw hS (lv_sub hl [0] rfl)
  · have hF := it_f h6 hF
    refine lv_aload_n hx hb dX9_begin_8 rfl (lv_at hl 0 rfl) ?_
    refine lv_iload_n hx hb dX9_begin_9 rfl (lv_at hl 1 rfl) ?_
    refine lv_iload_n hx hb dX9_begin_10 rfl (lv_at hl 1 rfl) ?_
    refine lv_i2l (v := (v1).toInt64) hx hb dX9_begin_11 rfl ?_
    refine lv_ldc2 (v := 22) hx hb hC.2.2.2.1 (hC.2.2.2.2.1 _ kcX9_46) dX9_begin_12 ?_
    refine lv_ldc2 (v := 29) hx hb hC.2.2.2.1 (hC.2.2.2.2.1 _ kcX9_48) dX9_begin_15 ?_
    obtain ⟨r7, C8, hc9, hF⟩ := b2_t hF
    refine call_Si hC (c_X9_in l G n (by omega) hn2 ((v1).toInt64) (22 : Int64) (29 : Int64) _ _ _ hc9) wsX9_50 ⟨rfl, rfl, by decide, by decide⟩ hw hS hl.1 rfl (rest := [.int v1, .ref (bb G + (r0 + 214))]) rfl (Nat.le_of_ble_eq_true rfl) dX9_begin_18 ⟨by decide, by decide⟩ (fun H locs hw hS _ => ?_)
    refine lv_if_eq (tgt := 29) hx hb dX9_begin_21 (by decide) (fun h10 => ?_) (fun h10 => ?_)
    · have hF := it_t h10 hF
      refine lv_iconst (v := 0) hx hb dX9_begin_29 (by decide) ?_
      obtain ⟨g11, hF⟩ := gi_t hF
      refine st_marr hC hw hS (by omega) hn2 hr0 g11 dX9_begin_30 (fun H locs hw hS _ => ?_)
      obtain ⟨C12, eC12, hF⟩ := nm_t hF
      have hw := Wd.cast eC12 hw
      obtain ⟨v13, ev13, hF⟩ := nm_t hF
      refine lv_iinc (v := v13) (lv' := [(1, .int v13), (0, .ref (bb G + (r0 + 214)))]) hx hb dX9_begin_31 hl (k := 1) rfl (by rw [ev13]; rfl) (by decide) rfl (fun ls hl => ?_)
      refine lv_goto (tgt := 2) hx hb dX9_begin_34 (by decide) ?_
      exact it_back hF hk3 _ _ _ hw hS (lv_sub hl [1, 0] rfl)
    · have hF := it_f h10 hF
      refine lv_bipush (v := 40) hx hb dX9_begin_24 (by decide) ?_
      refine lv_goto (tgt := 30) hx hb dX9_begin_26 (by decide) ?_
      obtain ⟨g14, hF⟩ := gi_t hF
      refine st_marr hC hw hS (by omega) hn2 hr0 g14 dX9_begin_30 (fun H locs hw hS _ => ?_)
      obtain ⟨C15, eC15, hF⟩ := nm_t hF
      have hw := Wd.cast eC15 hw
      obtain ⟨v16, ev16, hF⟩ := nm_t hF
      refine lv_iinc (v := v16) (lv' := [(1, .int v16), (0, .ref (bb G + (r0 + 214)))]) hx hb dX9_begin_31 hl (k := 1) rfl (by rw [ev16]; rfl) (by decide) rfl (fun ls hl => ?_)
      refine lv_goto (tgt := 2) hx hb dX9_begin_34 (by decide) ?_
      exact it_back hF hk3 _ _ _ hw hS (lv_sub hl [1, 0] rfl)
set_option maxHeartbeats 4000000 in
set_option maxRecDepth 100000 in
theorem c_X9_isSetting (l : Launch) (G : GG) (n : Nat) (hn : 252 ≤ n) (hn2 : n ≤ 253) (x0 : Int32) (x1 : Int32) (C : Mem) (rR : Int32) (CR : Mem) (hF : F_X9_isSetting x0 x1 C = some (rR, CR)) : Ct l yX9_isSetting cX9_isSetting 2 (some .boolean) (rmN 1 25) G n C [.int x0, .int x1] (some (.int rR)) CR := by
  refine Ct.of (by decide) (Nat.le_of_ble_eq_true rfl) ?_
  intro p e s m below meth c ls hC hr hlk hw hl
  have hx := hC.1
  have hb := hC.2.1
  have hS : LW G s s.heap [] := va_S.rf
  have hl : lv_has ls 2 [(0, .int x0), (1, .int x1)] := hl
  unfold F_X9_isSetting at hF
  refine lv_iload_n hx hb dX9_isSetting_0 rfl (lv_at hl 0 rfl) ?_
  by_cases h1 : x0 = (0 : Int32)
  · have hF := it_t h1 hF
    refine lv_tableIn (tgt := 36) (off := 35) hx hb dX9_isSetting_1 (by rw [h1]; decide) (by rw [h1]; decide) (by rw [h1]; rfl) (by decide) ?_
    refine lv_iload_n hx hb dX9_isSetting_36 rfl (lv_at hl 1 rfl) ?_
    refine lv_i2l (v := (x1).toInt64) hx hb dX9_isSetting_37 rfl ?_
    refine lv_ldc2 (v := 40) hx hb hC.2.2.2.1 (hC.2.2.2.2.1 _ kcX9_54) dX9_isSetting_38 ?_
    refine lv_ldc2 (v := 80) hx hb hC.2.2.2.1 (hC.2.2.2.2.1 _ kcX9_56) dX9_isSetting_41 ?_
    obtain ⟨r6, C7, hc8, hF⟩ := b2_t hF
    refine call_Si hC (c_X9_in l G n (by omega) hn2 ((x1).toInt64) (40 : Int64) (80 : Int64) _ _ _ hc8) wsX9_50 ⟨rfl, rfl, by decide, by decide⟩ hw hS hl.1 rfl (rest := []) rfl (Nat.le_of_ble_eq_true rfl) dX9_isSetting_44 ⟨by decide, by decide⟩ (fun H locs hw hS _ => ?_)
    obtain ⟨g9, hF⟩ := gb_t hF
    exact m_zret hC hr hlk hw hS dX9_isSetting_47 g9 hF
  have hF := it_f h1 hF
  by_cases h2 : x0 = (1 : Int32)
  · have hF := it_t h2 hF
    refine lv_tableIn (tgt := 48) (off := 47) hx hb dX9_isSetting_1 (by rw [h2]; decide) (by rw [h2]; decide) (by rw [h2]; rfl) (by decide) ?_
    refine lv_iload_n hx hb dX9_isSetting_48 rfl (lv_at hl 1 rfl) ?_
    refine lv_i2l (v := (x1).toInt64) hx hb dX9_isSetting_49 rfl ?_
    refine lv_lconst (v := 1) hx hb dX9_isSetting_50 (by decide) ?_
    refine lv_ldc2 (v := 9) hx hb hC.2.2.2.1 (hC.2.2.2.2.1 _ kcX9_58) dX9_isSetting_51 ?_
    obtain ⟨r10, C11, hc12, hF⟩ := b2_t hF
    refine call_Si hC (c_X9_in l G n (by omega) hn2 ((x1).toInt64) (1 : Int64) (9 : Int64) _ _ _ hc12) wsX9_50 ⟨rfl, rfl, by decide, by decide⟩ hw hS hl.1 rfl (rest := []) rfl (Nat.le_of_ble_eq_true rfl) dX9_isSetting_54 ⟨by decide, by decide⟩ (fun H locs hw hS _ => ?_)
    obtain ⟨g13, hF⟩ := gb_t hF
    exact m_zret hC hr hlk hw hS dX9_isSetting_57 g13 hF
  have hF := it_f h2 hF
  by_cases h3 : x0 = (2 : Int32)
  · have hF := it_t h3 hF
    refine lv_tableIn (tgt := 58) (off := 57) hx hb dX9_isSetting_1 (by rw [h3]; decide) (by rw [h3]; decide) (by rw [h3]; rfl) (by decide) ?_
    refine lv_iload_n hx hb dX9_isSetting_58 rfl (lv_at hl 1 rfl) ?_
    refine lv_i2l (v := (x1).toInt64) hx hb dX9_isSetting_59 rfl ?_
    refine lv_lconst (v := 1) hx hb dX9_isSetting_60 (by decide) ?_
    refine lv_ldc2 (v := 5) hx hb hC.2.2.2.1 (hC.2.2.2.2.1 _ kcX9_60) dX9_isSetting_61 ?_
    obtain ⟨r14, C15, hc16, hF⟩ := b2_t hF
    refine call_Si hC (c_X9_in l G n (by omega) hn2 ((x1).toInt64) (1 : Int64) (5 : Int64) _ _ _ hc16) wsX9_50 ⟨rfl, rfl, by decide, by decide⟩ hw hS hl.1 rfl (rest := []) rfl (Nat.le_of_ble_eq_true rfl) dX9_isSetting_64 ⟨by decide, by decide⟩ (fun H locs hw hS _ => ?_)
    obtain ⟨g17, hF⟩ := gb_t hF
    exact m_zret hC hr hlk hw hS dX9_isSetting_67 g17 hF
  have hF := it_f h3 hF
  by_cases h4 : x0 = (3 : Int32)
  · have hF := it_t h4 hF
    refine lv_tableIn (tgt := 68) (off := 67) hx hb dX9_isSetting_1 (by rw [h4]; decide) (by rw [h4]; decide) (by rw [h4]; rfl) (by decide) ?_
    refine lv_iload_n hx hb dX9_isSetting_68 rfl (lv_at hl 1 rfl) ?_
    refine lv_i2l (v := (x1).toInt64) hx hb dX9_isSetting_69 rfl ?_
    refine lv_ldc2 (v := 60) hx hb hC.2.2.2.1 (hC.2.2.2.2.1 _ kcX9_62) dX9_isSetting_70 ?_
    refine lv_ldc2 (v := 90) hx hb hC.2.2.2.1 (hC.2.2.2.2.1 _ kcX9_64) dX9_isSetting_73 ?_
    obtain ⟨r18, C19, hc20, hF⟩ := b2_t hF
    refine call_Si hC (c_X9_in l G n (by omega) hn2 ((x1).toInt64) (60 : Int64) (90 : Int64) _ _ _ hc20) wsX9_50 ⟨rfl, rfl, by decide, by decide⟩ hw hS hl.1 rfl (rest := []) rfl (Nat.le_of_ble_eq_true rfl) dX9_isSetting_76 ⟨by decide, by decide⟩ (fun H locs hw hS _ => ?_)
    obtain ⟨g21, hF⟩ := gb_t hF
    exact m_zret hC hr hlk hw hS dX9_isSetting_79 g21 hF
  have hF := it_f h4 hF
  by_cases h5 : x0 = (4 : Int32)
  · have hF := it_t h5 hF
    refine lv_tableIn (tgt := 48) (off := 47) hx hb dX9_isSetting_1 (by rw [h5]; decide) (by rw [h5]; decide) (by rw [h5]; rfl) (by decide) ?_
    refine lv_iload_n hx hb dX9_isSetting_48 rfl (lv_at hl 1 rfl) ?_
    refine lv_i2l (v := (x1).toInt64) hx hb dX9_isSetting_49 rfl ?_
    refine lv_lconst (v := 1) hx hb dX9_isSetting_50 (by decide) ?_
    refine lv_ldc2 (v := 9) hx hb hC.2.2.2.1 (hC.2.2.2.2.1 _ kcX9_58) dX9_isSetting_51 ?_
    obtain ⟨r22, C23, hc24, hF⟩ := b2_t hF
    refine call_Si hC (c_X9_in l G n (by omega) hn2 ((x1).toInt64) (1 : Int64) (9 : Int64) _ _ _ hc24) wsX9_50 ⟨rfl, rfl, by decide, by decide⟩ hw hS hl.1 rfl (rest := []) rfl (Nat.le_of_ble_eq_true rfl) dX9_isSetting_54 ⟨by decide, by decide⟩ (fun H locs hw hS _ => ?_)
    obtain ⟨g25, hF⟩ := gb_t hF
    exact m_zret hC hr hlk hw hS dX9_isSetting_57 g25 hF
  have hF := it_f h5 hF
  refine lv_tableOut (tgt := 80) hx hb dX9_isSetting_1 (sw_out (fun k ka kb kc => by (have kd : k = 0 ∨ k = 1 ∨ k = 2 ∨ k = 3 ∨ k = 4 := by omega); exact kd.elim (fun kd => by subst kd; exact lv_neT h1 (by decide) kc) (fun kd => kd.elim (fun kd => by subst kd; exact lv_neT h2 (by decide) kc) (fun kd => kd.elim (fun kd => by subst kd; exact lv_neT h3 (by decide) kc) (fun kd => kd.elim (fun kd => by subst kd; exact lv_neT h4 (by decide) kc) (fun kd => (by subst kd; exact lv_neT h5 (by decide) kc))))))) (by decide) ?_
  refine lv_iload_n hx hb dX9_isSetting_80 rfl (lv_at hl 0 rfl) ?_
  refine lv_iconst (v := 5) hx hb dX9_isSetting_81 (by decide) ?_
  refine lv_icmp_ne (tgt := 101) hx hb dX9_isSetting_82 (by decide) (fun h26 => ?_) (fun h26 => ?_)
  · have hF := it_f h26 hF
    refine lv_iconst (v := 0) hx hb dX9_isSetting_101 (by decide) ?_
    exact m_zret hC hr hlk hw hS dX9_isSetting_102 (by decide) hF
  · have hF := it_t h26 hF
    refine lv_iload_n hx hb dX9_isSetting_85 rfl (lv_at hl 1 rfl) ?_
    refine lv_i2l (v := (x1).toInt64) hx hb dX9_isSetting_86 rfl ?_
    refine lv_lconst (v := 0) hx hb dX9_isSetting_87 (by decide) ?_
    refine lv_ldc2 (v := 23) hx hb hC.2.2.2.1 (hC.2.2.2.2.1 _ kcX9_66) dX9_isSetting_88 ?_
    obtain ⟨r27, C28, hc29, hF⟩ := b2_t hF
    refine call_Si hC (c_X9_in l G n (by omega) hn2 ((x1).toInt64) (0 : Int64) (23 : Int64) _ _ _ hc29) wsX9_50 ⟨rfl, rfl, by decide, by decide⟩ hw hS hl.1 rfl (rest := []) rfl (Nat.le_of_ble_eq_true rfl) dX9_isSetting_91 ⟨by decide, by decide⟩ (fun H locs hw hS _ => ?_)
    refine lv_if_eq (tgt := 101) hx hb dX9_isSetting_94 (by decide) (fun h30 => ?_) (fun h30 => ?_)
    · have hF := it_t h30 hF
      refine lv_iconst (v := 0) hx hb dX9_isSetting_101 (by decide) ?_
      exact m_zret hC hr hlk hw hS dX9_isSetting_102 (by decide) hF
    · have hF := it_f h30 hF
      refine lv_iconst (v := 1) hx hb dX9_isSetting_97 (by decide) ?_
      refine lv_goto (tgt := 102) hx hb dX9_isSetting_98 (by decide) ?_
      exact m_zret hC hr hlk hw hS dX9_isSetting_102 (by decide) hF
set_option maxHeartbeats 4000000 in
set_option maxRecDepth 100000 in
theorem c_X9_at (l : Launch) (G : GG) (n : Nat) (hn : 252 ≤ n) (hn2 : n ≤ 253) (x0 : Int32) (C : Mem) (rR : Int32) (CR : Mem) (hF : F_X9_at x0 C = some (rR, CR)) : Ct l yX9_at cX9_at 1 (some .int) (rmN 0 0) G n C [.int x0] (some (.int rR)) CR := by
  refine Ct.of (by decide) (Nat.le_of_ble_eq_true rfl) ?_
  intro p e s m below meth c ls hC hr hlk hw hl
  have hx := hC.1
  have hb := hC.2.1
  have hS : LW G s s.heap [] := va_S.rf
  have hl : lv_has ls 1 [(0, .int x0)] := hl
  unfold F_X9_at at hF
  refine lv_bipush (v := 30) hx hb dX9_at_0 (by decide) ?_
  refine lv_bipush (v := 7) hx hb dX9_at_2 (by decide) ?_
  refine lv_iload_n hx hb dX9_at_4 rfl (lv_at hl 0 rfl) ?_
  refine lv_imul hx hb dX9_at_5 ?_
  refine lv_iadd hx hb dX9_at_6 ?_
  exact m_iret hC hr hlk hw hS dX9_at_7 hF
set_option maxHeartbeats 4000000 in
set_option maxRecDepth 100000 in
theorem c_X9_works (l : Launch) (G : GG) (n : Nat) (hn : 252 ≤ n) (hn2 : n ≤ 253) (x0 : Int32) (C : Mem) (rR : Int32) (CR : Mem) (hF : F_X9_works x0 C = some (rR, CR)) : Ct l yX9_works cX9_works 1 (some .boolean) (rmN 0 0) G n C [.int x0] (some (.int rR)) CR := by
  refine Ct.of (by decide) (Nat.le_of_ble_eq_true rfl) ?_
  intro p e s m below meth c ls hC hr hlk hw hl
  have hx := hC.1
  have hb := hC.2.1
  have hS : LW G s s.heap [] := va_S.rf
  have hl : lv_has ls 1 [(0, .int x0)] := hl
  unfold F_X9_works at hF
  refine lv_iload_n hx hb dX9_works_0 rfl (lv_at hl 0 rfl) ?_
  refine lv_iconst (v := 1) hx hb dX9_works_1 (by decide) ?_
  refine lv_icmp_eq (tgt := 10) hx hb dX9_works_2 (by decide) (fun h1 => ?_) (fun h1 => ?_)
  · have hF := it_t h1 hF
    refine lv_iconst (v := 1) hx hb dX9_works_10 (by decide) ?_
    refine lv_goto (tgt := 15) hx hb dX9_works_11 (by decide) ?_
    exact m_zret hC hr hlk hw hS dX9_works_15 (by decide) hF
  · have hF := it_f h1 hF
    refine lv_iload_n hx hb dX9_works_5 rfl (lv_at hl 0 rfl) ?_
    refine lv_iconst (v := 2) hx hb dX9_works_6 (by decide) ?_
    refine lv_icmp_ne (tgt := 14) hx hb dX9_works_7 (by decide) (fun h2 => ?_) (fun h2 => ?_)
    · have hF := it_f h2 hF
      refine lv_iconst (v := 0) hx hb dX9_works_14 (by decide) ?_
      exact m_zret hC hr hlk hw hS dX9_works_15 (by decide) hF
    · have hF := it_t h2 hF
      refine lv_iconst (v := 1) hx hb dX9_works_10 (by decide) ?_
      refine lv_goto (tgt := 15) hx hb dX9_works_11 (by decide) ?_
      exact m_zret hC hr hlk hw hS dX9_works_15 (by decide) hF
set_option maxHeartbeats 4000000 in
set_option maxRecDepth 100000 in
theorem c_X9_idles (l : Launch) (G : GG) (n : Nat) (hn : 252 ≤ n) (hn2 : n ≤ 253) (x0 : Int32) (C : Mem) (rR : Int32) (CR : Mem) (hF : F_X9_idles x0 C = some (rR, CR)) : Ct l yX9_idles cX9_idles 1 (some .boolean) (rmN 0 0) G n C [.int x0] (some (.int rR)) CR := by
  refine Ct.of (by decide) (Nat.le_of_ble_eq_true rfl) ?_
  intro p e s m below meth c ls hC hr hlk hw hl
  have hx := hC.1
  have hb := hC.2.1
  have hS : LW G s s.heap [] := va_S.rf
  have hl : lv_has ls 1 [(0, .int x0)] := hl
  unfold F_X9_idles at hF
  refine lv_iload_n hx hb dX9_idles_0 rfl (lv_at hl 0 rfl) ?_
  refine lv_if_eq (tgt := 9) hx hb dX9_idles_1 (by decide) (fun h1 => ?_) (fun h1 => ?_)
  · have hF := it_t h1 hF
    refine lv_iconst (v := 1) hx hb dX9_idles_9 (by decide) ?_
    refine lv_goto (tgt := 14) hx hb dX9_idles_10 (by decide) ?_
    exact m_zret hC hr hlk hw hS dX9_idles_14 (by decide) hF
  · have hF := it_f h1 hF
    refine lv_iload_n hx hb dX9_idles_4 rfl (lv_at hl 0 rfl) ?_
    refine lv_iconst (v := 3) hx hb dX9_idles_5 (by decide) ?_
    refine lv_icmp_ne (tgt := 13) hx hb dX9_idles_6 (by decide) (fun h2 => ?_) (fun h2 => ?_)
    · have hF := it_f h2 hF
      refine lv_iconst (v := 0) hx hb dX9_idles_13 (by decide) ?_
      exact m_zret hC hr hlk hw hS dX9_idles_14 (by decide) hF
    · have hF := it_t h2 hF
      refine lv_iconst (v := 1) hx hb dX9_idles_9 (by decide) ?_
      refine lv_goto (tgt := 14) hx hb dX9_idles_10 (by decide) ?_
      exact m_zret hC hr hlk hw hS dX9_idles_14 (by decide) hF
set_option maxHeartbeats 4000000 in
set_option maxRecDepth 100000 in
theorem c_X9_use (l : Launch) (G : GG) (n : Nat) (hn : 252 ≤ n) (hn2 : n ≤ 253) (r0 : Nat) (hr0 : 31 ≤ r0 ∧ r0 ≤ 36) (x1 : Int32) (C : Mem) (rR : Int32) (CR : Mem) (hF : F_X9_use r0 x1 C = some (rR, CR)) : Ct l yX9_use cX9_use 5 (some .int) (rmN 1 20) G n C [.ref (bb G + 244), .ref (bb G + (r0 + 214)), .int x1] (some (.int rR)) CR := by
  refine Ct.of (by decide) (Nat.le_of_ble_eq_true rfl) ?_
  intro p e s m below meth c ls hC hr hlk hw hl
  have hx := hC.1
  have hb := hC.2.1
  have hS : LW G s s.heap [] := va_S.rf
  have hl : lv_has ls 5 [(0, .ref (bb G + 244)), (1, .ref (bb G + (r0 + 214))), (2, .int x1)] := hl
  unfold F_X9_use at hF
  refine lv_iconst (v := 0) hx hb dX9_use_0 (by decide) ?_
  refine lv_istore_n (lv' := [(3, .int (0 : Int32)), (0, .ref (bb G + 244)), (1, .ref (bb G + (r0 + 214))), (2, .int x1)]) hx hb dX9_use_1 rfl hl (by decide) rfl (fun ls hl => ?_)
  refine lv_iconst (v := 0) hx hb dX9_use_2 (by decide) ?_
  refine lv_istore (lv' := [(4, .int (0 : Int32)), (3, .int (0 : Int32)), (0, .ref (bb G + 244)), (1, .ref (bb G + (r0 + 214))), (2, .int x1)]) hx hb dX9_use_3 hl (by decide) rfl (fun ls hl => ?_)
  obtain ⟨o4, hit4, hG4⟩ := b1_t hF
  have hR4 : ∀ (v5 : Int32) (v6 : Int32) (C7 : Mem) (H : Heap) (locs : List Loc) (ls : Array Slot), o4 = (v5, v6, C7) → Wd G n C7 H → LW G s H locs → lv_has ls 5 [(3, .int v5)] → W p l e (rmN 1 20) s m ([.ref (bb G + 244), .ref (bb G + (r0 + 214)), .int x1] : List Value).toArray below meth c H locs 0 0 (MQ below (QR G n (some (.int rR)) CR) ([.ref (bb G + 244), .ref (bb G + (r0 + 214)), .int x1] : List Value).toArray s 0 0 (frA G)) (F0 m 62 ls []) := by
    intro v5 v6 C7 H locs ls hE hw hS hl
    subst hE
    have hF := u3_t (hG4)
    refine lv_iload_n hx hb dX9_use_62 rfl (lv_at hl 0 rfl) ?_
    exact m_iret hC hr hlk hw hS dX9_use_63 hF
  refine iter_sound (P := fun x : Int32 × Int32 × Mem => ∀ (H : Heap) (locs : List Loc) (ls : Array Slot), Wd G n x.2.2 H → LW G s H locs → lv_has ls 5 [(0, .ref (bb G + 244)), (1, .ref (bb G + (r0 + 214))), (2, .int x1), (3, .int x.1), (4, .int x.2.1)] → W p l e (rmN 1 20) s m ([.ref (bb G + 244), .ref (bb G + (r0 + 214)), .int x1] : List Value).toArray below meth c H locs 0 0 (MQ below (QR G n (some (.int rR)) CR) ([.ref (bb G + 244), .ref (bb G + (r0 + 214)), .int x1] : List Value).toArray s 0 0 (frA G)) (F0 m 5 ls [])) (X := fun r => r = o4) ?_ fuel ((0 : Int32), (0 : Int32), C) o4 hit4 rfl _ _ _ hw hS (lv_sub hl [2, 3, 4, 1, 0] rfl)
  intro x oo4 hF hk4 hX4 H locs ls hw hS hl
  obtain ⟨v1, v2, C3⟩ := x
  have hF : S_X9_use_5 r0 x1 v1 v2 C3 = some oo4 := hF
  have hw : Wd G n C3 H := hw
  have hl : lv_has ls 5 [(0, .ref (bb G + 244)), (1, .ref (bb G + (r0 + 214))), (2, .int x1), (3, .int v1), (4, .int v2)] := hl
  unfold S_X9_use_5 at hF
  refine lv_iload hx hb dX9_use_5 (lv_at hl 4 rfl) ?_
  refine lv_aload_n hx hb dX9_use_7 rfl (lv_at hl 0 rfl) ?_
  refine gX9_13 hC hw (by omega)  dX9_use_8 ?_
  refine lv_icmp_ge (tgt := 62) hx hb dX9_use_11 (by decide) (fun h8 => ?_) (fun h8 => ?_)
  · have hF := it_t h8 hF
    exact hR4 _ _ _ _ _ _ (it_exit hF hX4).symm hw hS (lv_sub hl [3] rfl)
  · have hF := it_f h8 hF
    refine lv_iload_n hx hb dX9_use_14 rfl (lv_at hl 3 rfl) ?_
    refine lv_aload_n hx hb dX9_use_15 rfl (lv_at hl 1 rfl) ?_
    refine lv_iload hx hb dX9_use_16 (lv_at hl 4 rfl) ?_
    obtain ⟨r9, C10, hc11, hF⟩ := b2_t hF
    refine call_Si hC (c_X9_at l G n (by omega) hn2 v2 _ _ _ hc11) wsX9_68 ⟨rfl, rfl, by decide, by decide⟩ hw hS hl.1 rfl (rest := [.ref (bb G + (r0 + 214)), .int v1]) rfl (Nat.le_of_ble_eq_true rfl) dX9_use_18 ⟨by decide, by decide⟩ (fun H locs hw hS _ => ?_)
    refine lv_iconst (v := 1) hx hb dX9_use_21 (by decide) ?_
    refine lv_iadd hx hb dX9_use_22 ?_
    obtain ⟨g12, hF⟩ := gi_t hF
    refine ld_marr hC hw (by omega) hr0 g12 dX9_use_23 ?_
    refine lv_iload_n hx hb dX9_use_24 rfl (lv_at hl 2 rfl) ?_
    refine lv_icmp_ne (tgt := 53) hx hb dX9_use_25 (by decide) (fun h13 => ?_) (fun h13 => ?_)
    · have hF := it_f h13 hF
      refine lv_iconst (v := 0) hx hb dX9_use_53 (by decide) ?_
      refine lv_iadd hx hb dX9_use_54 ?_
      obtain ⟨v14, ev14, hF⟩ := nm_t hF
      refine lv_nmi ev14 ?_
      refine lv_istore_n (lv' := [(3, .int v14), (0, .ref (bb G + 244)), (1, .ref (bb G + (r0 + 214))), (2, .int x1), (4, .int v2)]) hx hb dX9_use_55 rfl hl (by decide) rfl (fun ls hl => ?_)
      obtain ⟨v15, ev15, hF⟩ := nm_t hF
      refine lv_iinc (v := v15) (lv' := [(4, .int v15), (3, .int v14), (0, .ref (bb G + 244)), (1, .ref (bb G + (r0 + 214))), (2, .int x1)]) hx hb dX9_use_56 hl (k := 4) rfl (by rw [ev15]; rfl) (by decide) rfl (fun ls hl => ?_)
      refine lv_goto (tgt := 5) hx hb dX9_use_59 (by decide) ?_
      exact it_back hF hk4 _ _ _ hw hS (lv_sub hl [2, 3, 4, 1, 0] rfl)
    · have hF := it_t h13 hF
      refine lv_aload_n hx hb dX9_use_28 rfl (lv_at hl 1 rfl) ?_
      refine lv_iload hx hb dX9_use_29 (lv_at hl 4 rfl) ?_
      obtain ⟨r16, C17, hc18, hF⟩ := b2_t hF
      refine call_Si hC (c_X9_at l G n (by omega) hn2 v2 _ _ _ hc18) wsX9_68 ⟨rfl, rfl, by decide, by decide⟩ hw hS hl.1 rfl (rest := [.ref (bb G + (r0 + 214)), .int v1]) rfl (Nat.le_of_ble_eq_true rfl) dX9_use_31 ⟨by decide, by decide⟩ (fun H locs hw hS _ => ?_)
      refine lv_iconst (v := 2) hx hb dX9_use_34 (by decide) ?_
      refine lv_iadd hx hb dX9_use_35 ?_
      obtain ⟨g19, hF⟩ := gi_t hF
      refine ld_marr hC hw (by omega) hr0 g19 dX9_use_36 ?_
      obtain ⟨r20, C21, hc22, hF⟩ := b2_t hF
      refine call_Si hC (c_X9_works l G n (by omega) hn2 (C17 r0 ((r16 + (2 : Int32))).toNatClampNeg) _ _ _ hc22) wsX9_72 ⟨rfl, rfl, by decide, by decide⟩ hw hS hl.1 rfl (rest := [.int v1]) rfl (Nat.le_of_ble_eq_true rfl) dX9_use_37 ⟨by decide, by decide⟩ (fun H locs hw hS _ => ?_)
      refine lv_if_eq (tgt := 53) hx hb dX9_use_40 (by decide) (fun h23 => ?_) (fun h23 => ?_)
      · have hF := it_t h23 hF
        refine lv_iconst (v := 0) hx hb dX9_use_53 (by decide) ?_
        refine lv_iadd hx hb dX9_use_54 ?_
        obtain ⟨v24, ev24, hF⟩ := nm_t hF
        refine lv_nmi ev24 ?_
        refine lv_istore_n (lv' := [(3, .int v24), (0, .ref (bb G + 244)), (1, .ref (bb G + (r0 + 214))), (2, .int x1), (4, .int v2)]) hx hb dX9_use_55 rfl hl (by decide) rfl (fun ls hl => ?_)
        obtain ⟨v25, ev25, hF⟩ := nm_t hF
        refine lv_iinc (v := v25) (lv' := [(4, .int v25), (3, .int v24), (0, .ref (bb G + 244)), (1, .ref (bb G + (r0 + 214))), (2, .int x1)]) hx hb dX9_use_56 hl (k := 4) rfl (by rw [ev25]; rfl) (by decide) rfl (fun ls hl => ?_)
        refine lv_goto (tgt := 5) hx hb dX9_use_59 (by decide) ?_
        exact it_back hF hk4 _ _ _ hw hS (lv_sub hl [2, 3, 4, 1, 0] rfl)
      · have hF := it_f h23 hF
        refine lv_aload_n hx hb dX9_use_43 rfl (lv_at hl 1 rfl) ?_
        refine lv_iload hx hb dX9_use_44 (lv_at hl 4 rfl) ?_
        obtain ⟨r26, C27, hc28, hF⟩ := b2_t hF
        refine call_Si hC (c_X9_at l G n (by omega) hn2 v2 _ _ _ hc28) wsX9_68 ⟨rfl, rfl, by decide, by decide⟩ hw hS hl.1 rfl (rest := [.ref (bb G + (r0 + 214)), .int v1]) rfl (Nat.le_of_ble_eq_true rfl) dX9_use_46 ⟨by decide, by decide⟩ (fun H locs hw hS _ => ?_)
        obtain ⟨g29, hF⟩ := gi_t hF
        refine ld_marr hC hw (by omega) hr0 g29 dX9_use_49 ?_
        refine lv_goto (tgt := 54) hx hb dX9_use_50 (by decide) ?_
        refine lv_iadd hx hb dX9_use_54 ?_
        obtain ⟨v30, ev30, hF⟩ := nm_t hF
        refine lv_nmi ev30 ?_
        refine lv_istore_n (lv' := [(3, .int v30), (0, .ref (bb G + 244)), (1, .ref (bb G + (r0 + 214))), (2, .int x1), (4, .int v2)]) hx hb dX9_use_55 rfl hl (by decide) rfl (fun ls hl => ?_)
        obtain ⟨v31, ev31, hF⟩ := nm_t hF
        refine lv_iinc (v := v31) (lv' := [(4, .int v31), (3, .int v30), (0, .ref (bb G + 244)), (1, .ref (bb G + (r0 + 214))), (2, .int x1)]) hx hb dX9_use_56 hl (k := 4) rfl (by rw [ev31]; rfl) (by decide) rfl (fun ls hl => ?_)
        refine lv_goto (tgt := 5) hx hb dX9_use_59 (by decide) ?_
        exact it_back hF hk4 _ _ _ hw hS (lv_sub hl [2, 3, 4, 1, 0] rfl)
set_option maxHeartbeats 4000000 in
set_option maxRecDepth 100000 in
theorem c_X9_canStart (l : Launch) (G : GG) (n : Nat) (hn : 252 ≤ n) (hn2 : n ≤ 253) (r0 : Nat) (hr0 : 31 ≤ r0 ∧ r0 ≤ 36) (x1 : Int32) (C : Mem) (rR : Int32) (CR : Mem) (hF : F_X9_canStart r0 x1 C = some (rR, CR)) : Ct l yX9_canStart cX9_canStart 4 (some .boolean) (rmN 2 44) G n C [.ref (bb G + 244), .ref (bb G + (r0 + 214)), .int x1] (some (.int rR)) CR := by
  refine Ct.of (by decide) (Nat.le_of_ble_eq_true rfl) ?_
  intro p e s m below meth c ls hC hr hlk hw hl
  have hx := hC.1
  have hb := hC.2.1
  have hS : LW G s s.heap [] := va_S.rf
  have hl : lv_has ls 4 [(0, .ref (bb G + 244)), (1, .ref (bb G + (r0 + 214))), (2, .int x1)] := hl
  unfold F_X9_canStart at hF
  refine lv_aload_n hx hb dX9_canStart_0 rfl (lv_at hl 1 rfl) ?_
  refine lv_iload_n hx hb dX9_canStart_1 rfl (lv_at hl 2 rfl) ?_
  obtain ⟨r1, C2, hc3, hF⟩ := b2_t hF
  refine call_Si hC (c_X9_at l G n (by omega) hn2 x1 _ _ _ hc3) wsX9_68 ⟨rfl, rfl, by decide, by decide⟩ hw hS hl.1 rfl (rest := [.ref (bb G + (r0 + 214))]) rfl (Nat.le_of_ble_eq_true rfl) dX9_canStart_2 ⟨by decide, by decide⟩ (fun H locs hw hS _ => ?_)
  refine lv_iconst (v := 1) hx hb dX9_canStart_5 (by decide) ?_
  refine lv_iadd hx hb dX9_canStart_6 ?_
  obtain ⟨g4, hF⟩ := gi_t hF
  refine ld_marr hC hw (by omega) hr0 g4 dX9_canStart_7 ?_
  obtain ⟨v5, ev5, hF⟩ := nm_t hF
  refine lv_nmi ev5 ?_
  refine lv_istore_n (lv' := [(3, .int v5), (0, .ref (bb G + 244)), (1, .ref (bb G + (r0 + 214))), (2, .int x1)]) hx hb dX9_canStart_8 rfl hl (by decide) rfl (fun ls hl => ?_)
  refine lv_aload_n hx hb dX9_canStart_9 rfl (lv_at hl 2 rfl) ?_
  refine lv_bipush (v := 20) hx hb dX9_canStart_10 (by decide) ?_
  refine lv_iload_n hx hb dX9_canStart_12 rfl (lv_at hl 0 rfl) ?_
  refine lv_iadd hx hb dX9_canStart_13 ?_
  obtain ⟨g6, hF⟩ := gi_t hF
  refine ld_marr hC hw (by omega) hr0 g6 dX9_canStart_14 ?_
  refine lv_iconst (v := 1) hx hb dX9_canStart_15 (by decide) ?_
  refine lv_icmp_ne (tgt := 45) hx hb dX9_canStart_16 (by decide) (fun h7 => ?_) (fun h7 => ?_)
  · have hF := it_f h7 hF
    refine lv_iconst (v := 0) hx hb dX9_canStart_45 (by decide) ?_
    exact m_zret hC hr hlk hw hS dX9_canStart_46 (by decide) hF
  · have hF := it_t h7 hF
    refine lv_aload_n hx hb dX9_canStart_19 rfl (lv_at hl 1 rfl) ?_
    refine lv_aload_n hx hb dX9_canStart_20 rfl (lv_at hl 2 rfl) ?_
    refine lv_iload_n hx hb dX9_canStart_21 rfl (lv_at hl 0 rfl) ?_
    obtain ⟨r8, C9, hc10, hF⟩ := b2_t hF
    refine call_Vi hC (c_X9_use l G n (by omega) hn2 r0 hr0 v5 _ _ _ hc10) wvX9_76 ⟨rfl, rfl, by decide, by decide⟩ hw hS (by omega) ca_model rfl hl.1 rfl (rest := []) rfl (Nat.le_of_ble_eq_true rfl) dX9_canStart_22 ⟨by decide, by decide⟩ (fun H locs hw hS _ => ?_)
    refine lv_aload_n hx hb dX9_canStart_25 rfl (lv_at hl 2 rfl) ?_
    refine lv_iload_n hx hb dX9_canStart_26 rfl (lv_at hl 3 rfl) ?_
    obtain ⟨r11, C12, hc13, hF⟩ := b2_t hF
    refine call_Si hC (c_X9_at l G n (by omega) hn2 x1 _ _ _ hc13) wsX9_68 ⟨rfl, rfl, by decide, by decide⟩ hw hS hl.1 rfl (rest := [.ref (bb G + (r0 + 214)), .int r8]) rfl (Nat.le_of_ble_eq_true rfl) dX9_canStart_27 ⟨by decide, by decide⟩ (fun H locs hw hS _ => ?_)
    obtain ⟨g14, hF⟩ := gi_t hF
    refine ld_marr hC hw (by omega) hr0 g14 dX9_canStart_30 ?_
    refine lv_iadd hx hb dX9_canStart_31 ?_
    refine lv_aload_n hx hb dX9_canStart_32 rfl (lv_at hl 2 rfl) ?_
    refine lv_bipush (v := 18) hx hb dX9_canStart_33 (by decide) ?_
    refine lv_iload_n hx hb dX9_canStart_35 rfl (lv_at hl 0 rfl) ?_
    refine lv_iadd hx hb dX9_canStart_36 ?_
    obtain ⟨g15, hF⟩ := gi_t hF
    refine ld_marr hC hw (by omega) hr0 g15 dX9_canStart_37 ?_
    refine lv_icmp_gt (tgt := 45) hx hb dX9_canStart_38 (by decide) (fun h16 => ?_) (fun h16 => ?_)
    · have hF := it_t h16 hF
      refine lv_iconst (v := 0) hx hb dX9_canStart_45 (by decide) ?_
      exact m_zret hC hr hlk hw hS dX9_canStart_46 (by decide) hF
    · have hF := it_f h16 hF
      refine lv_iconst (v := 1) hx hb dX9_canStart_41 (by decide) ?_
      refine lv_goto (tgt := 46) hx hb dX9_canStart_42 (by decide) ?_
      exact m_zret hC hr hlk hw hS dX9_canStart_46 (by decide) hF
set_option maxHeartbeats 4000000 in
set_option maxRecDepth 100000 in
theorem c_X9_nextOf (l : Launch) (G : GG) (n : Nat) (hn : 252 ≤ n) (hn2 : n ≤ 253) (r0 : Nat) (hr0 : 31 ≤ r0 ∧ r0 ≤ 36) (C : Mem) (rR : Int32) (CR : Mem) (hF : F_X9_nextOf r0 C = some (rR, CR)) : Ct l yX9_nextOf cX9_nextOf 5 (some .int) (rmN 3 67) G n C [.ref (bb G + 244), .ref (bb G + (r0 + 214))] (some (.int rR)) CR := by
  refine Ct.of (by decide) (Nat.le_of_ble_eq_true rfl) ?_
  intro p e s m below meth c ls hC hr hlk hw hl
  have hx := hC.1
  have hb := hC.2.1
  have hS : LW G s s.heap [] := va_S.rf
  have hl : lv_has ls 5 [(0, .ref (bb G + 244)), (1, .ref (bb G + (r0 + 214)))] := hl
  unfold F_X9_nextOf at hF
  refine lv_bipush (v := -9) hx hb dX9_nextOf_0 (by decide) ?_
  refine lv_istore_n (lv' := [(2, .int (-9 : Int32)), (0, .ref (bb G + 244)), (1, .ref (bb G + (r0 + 214)))]) hx hb dX9_nextOf_2 rfl hl (by decide) rfl (fun ls hl => ?_)
  refine lv_iconst (v := 0) hx hb dX9_nextOf_3 (by decide) ?_
  refine lv_istore_n (lv' := [(3, .int (0 : Int32)), (2, .int (-9 : Int32)), (0, .ref (bb G + 244)), (1, .ref (bb G + (r0 + 214)))]) hx hb dX9_nextOf_4 rfl hl (by decide) rfl (fun ls hl => ?_)
  obtain ⟨o4, hit4, hG4⟩ := b1_t hF
  have hR4 : ∀ (v5 : Int32) (v6 : Int32) (C7 : Mem) (H : Heap) (locs : List Loc) (ls : Array Slot), o4 = (v5, v6, C7) → Wd G n C7 H → LW G s H locs → lv_has ls 5 [(2, .int v5)] → W p l e (rmN 3 67) s m ([.ref (bb G + 244), .ref (bb G + (r0 + 214))] : List Value).toArray below meth c H locs 0 0 (MQ below (QR G n (some (.int rR)) CR) ([.ref (bb G + 244), .ref (bb G + (r0 + 214))] : List Value).toArray s 0 0 (frA G)) (F0 m 85 ls []) := by
    intro v5 v6 C7 H locs ls hE hw hS hl
    subst hE
    have hF := u3_t (hG4)
    refine lv_iload_n hx hb dX9_nextOf_85 rfl (lv_at hl 0 rfl) ?_
    exact m_iret hC hr hlk hw hS dX9_nextOf_86 hF
  refine iter_sound (P := fun x : Int32 × Int32 × Mem => ∀ (H : Heap) (locs : List Loc) (ls : Array Slot), Wd G n x.2.2 H → LW G s H locs → lv_has ls 5 [(0, .ref (bb G + 244)), (1, .ref (bb G + (r0 + 214))), (2, .int x.1), (3, .int x.2.1)] → W p l e (rmN 3 67) s m ([.ref (bb G + 244), .ref (bb G + (r0 + 214))] : List Value).toArray below meth c H locs 0 0 (MQ below (QR G n (some (.int rR)) CR) ([.ref (bb G + 244), .ref (bb G + (r0 + 214))] : List Value).toArray s 0 0 (frA G)) (F0 m 5 ls [])) (X := fun r => r = o4) ?_ fuel ((-9 : Int32), (0 : Int32), C) o4 hit4 rfl _ _ _ hw hS (lv_sub hl [2, 3, 1, 0] rfl)
  intro x oo4 hF hk4 hX4 H locs ls hw hS hl
  obtain ⟨v1, v2, C3⟩ := x
  have hF : S_X9_nextOf_5 r0 v1 v2 C3 = some oo4 := hF
  have hw : Wd G n C3 H := hw
  have hl : lv_has ls 5 [(0, .ref (bb G + 244)), (1, .ref (bb G + (r0 + 214))), (2, .int v1), (3, .int v2)] := hl
  unfold S_X9_nextOf_5 at hF
  refine lv_iload_n hx hb dX9_nextOf_5 rfl (lv_at hl 3 rfl) ?_
  refine lv_aload_n hx hb dX9_nextOf_6 rfl (lv_at hl 0 rfl) ?_
  refine gX9_13 hC hw (by omega)  dX9_nextOf_7 ?_
  refine lv_icmp_ge (tgt := 85) hx hb dX9_nextOf_10 (by decide) (fun h8 => ?_) (fun h8 => ?_)
  · have hF := it_t h8 hF
    exact hR4 _ _ _ _ _ _ (it_exit hF hX4).symm hw hS (lv_sub hl [2] rfl)
  · have hF := it_f h8 hF
    refine lv_aload_n hx hb dX9_nextOf_13 rfl (lv_at hl 1 rfl) ?_
    refine lv_iload_n hx hb dX9_nextOf_14 rfl (lv_at hl 3 rfl) ?_
    obtain ⟨r9, C10, hc11, hF⟩ := b2_t hF
    refine call_Si hC (c_X9_at l G n (by omega) hn2 v2 _ _ _ hc11) wsX9_68 ⟨rfl, rfl, by decide, by decide⟩ hw hS hl.1 rfl (rest := [.ref (bb G + (r0 + 214))]) rfl (Nat.le_of_ble_eq_true rfl) dX9_nextOf_15 ⟨by decide, by decide⟩ (fun H locs hw hS _ => ?_)
    refine lv_iconst (v := 2) hx hb dX9_nextOf_18 (by decide) ?_
    refine lv_iadd hx hb dX9_nextOf_19 ?_
    obtain ⟨g12, hF⟩ := gi_t hF
    refine ld_marr hC hw (by omega) hr0 g12 dX9_nextOf_20 ?_
    obtain ⟨r13, C14, hc15, hF⟩ := b2_t hF
    refine call_Si hC (c_X9_idles l G n (by omega) hn2 (C10 r0 ((r9 + (2 : Int32))).toNatClampNeg) _ _ _ hc15) wsX9_80 ⟨rfl, rfl, by decide, by decide⟩ hw hS hl.1 rfl (rest := []) rfl (Nat.le_of_ble_eq_true rfl) dX9_nextOf_21 ⟨by decide, by decide⟩ (fun H locs hw hS _ => ?_)
    have hJ41 : ∀ (v17 : Int32) (C18 : Mem) (H : Heap) (locs : List Loc) (ls : Array Slot), J_X9_nextOf_41 r0 v1 v2 v17 C18 = some oo4 → Wd G n C18 H → LW G s H locs → lv_has ls 5 [(0, .ref (bb G + 244)), (1, .ref (bb G + (r0 + 214))), (2, .int v1), (3, .int v2)] → W p l e (rmN 3 67) s m ([.ref (bb G + 244), .ref (bb G + (r0 + 214))] : List Value).toArray below meth c H locs 0 0 (MQ below (QR G n (some (.int rR)) CR) ([.ref (bb G + 244), .ref (bb G + (r0 + 214))] : List Value).toArray s 0 0 (frA G)) (F0 m 41 ls [.int v17]) := by
      intro v17 C18 H locs ls hF hw hS hl
      unfold J_X9_nextOf_41 at hF
      refine lv_istore (lv' := [(4, .int v17), (0, .ref (bb G + 244)), (1, .ref (bb G + (r0 + 214))), (2, .int v1), (3, .int v2)]) hx hb dX9_nextOf_41 hl (by decide) rfl (fun ls hl => ?_)
      refine lv_iload hx hb dX9_nextOf_43 (lv_at hl 0 rfl) ?_
      refine lv_if_eq (tgt := 77) hx hb dX9_nextOf_45 (by decide) (fun h19 => ?_) (fun h19 => ?_)
      · have hF := it_t h19 hF
        refine lv_iload_n hx hb dX9_nextOf_77 rfl (lv_at hl 3 rfl) ?_
        refine lv_istore_n (lv' := [(2, .int v1), (4, .int v17), (0, .ref (bb G + 244)), (1, .ref (bb G + (r0 + 214))), (3, .int v2)]) hx hb dX9_nextOf_78 rfl hl (by decide) rfl (fun ls hl => ?_)
        obtain ⟨v20, ev20, hF⟩ := nm_t hF
        refine lv_iinc (v := v20) (lv' := [(3, .int v20), (2, .int v1), (4, .int v17), (0, .ref (bb G + 244)), (1, .ref (bb G + (r0 + 214)))]) hx hb dX9_nextOf_79 hl (k := 4) rfl (by rw [ev20]; rfl) (by decide) rfl (fun ls hl => ?_)
        refine lv_goto (tgt := 5) hx hb dX9_nextOf_82 (by decide) ?_
        exact it_back hF hk4 _ _ _ hw hS (lv_sub hl [3, 4, 1, 0] rfl)
      · have hF := it_f h19 hF
        refine lv_iload_n hx hb dX9_nextOf_48 rfl (lv_at hl 3 rfl) ?_
        refine lv_bipush (v := -9) hx hb dX9_nextOf_49 (by decide) ?_
        refine lv_icmp_eq (tgt := 73) hx hb dX9_nextOf_51 (by decide) (fun h21 => ?_) (fun h21 => ?_)
        · have hF := it_t h21 hF
          refine lv_iload_n hx hb dX9_nextOf_73 rfl (lv_at hl 4 rfl) ?_
          refine lv_goto (tgt := 78) hx hb dX9_nextOf_74 (by decide) ?_
          refine lv_istore_n (lv' := [(2, .int v2), (4, .int v17), (0, .ref (bb G + 244)), (1, .ref (bb G + (r0 + 214))), (3, .int v2)]) hx hb dX9_nextOf_78 rfl hl (by decide) rfl (fun ls hl => ?_)
          obtain ⟨v22, ev22, hF⟩ := nm_t hF
          refine lv_iinc (v := v22) (lv' := [(3, .int v22), (2, .int v2), (4, .int v17), (0, .ref (bb G + 244)), (1, .ref (bb G + (r0 + 214)))]) hx hb dX9_nextOf_79 hl (k := 4) rfl (by rw [ev22]; rfl) (by decide) rfl (fun ls hl => ?_)
          refine lv_goto (tgt := 5) hx hb dX9_nextOf_82 (by decide) ?_
          exact it_back hF hk4 _ _ _ hw hS (lv_sub hl [3, 4, 1, 0] rfl)
        · have hF := it_f h21 hF
          refine lv_aload_n hx hb dX9_nextOf_54 rfl (lv_at hl 2 rfl) ?_
          refine lv_iload_n hx hb dX9_nextOf_55 rfl (lv_at hl 4 rfl) ?_
          obtain ⟨r23, C24, hc25, hF⟩ := b2_t hF
          refine call_Si hC (c_X9_at l G n (by omega) hn2 v2 _ _ _ hc25) wsX9_68 ⟨rfl, rfl, by decide, by decide⟩ hw hS hl.1 rfl (rest := [.ref (bb G + (r0 + 214))]) rfl (Nat.le_of_ble_eq_true rfl) dX9_nextOf_56 ⟨by decide, by decide⟩ (fun H locs hw hS _ => ?_)
          refine lv_iconst (v := 4) hx hb dX9_nextOf_59 (by decide) ?_
          refine lv_iadd hx hb dX9_nextOf_60 ?_
          obtain ⟨g26, hF⟩ := gi_t hF
          refine ld_marr hC hw (by omega) hr0 g26 dX9_nextOf_61 ?_
          refine lv_aload_n hx hb dX9_nextOf_62 rfl (lv_at hl 2 rfl) ?_
          refine lv_iload_n hx hb dX9_nextOf_63 rfl (lv_at hl 3 rfl) ?_
          obtain ⟨r27, C28, hc29, hF⟩ := b2_t hF
          refine call_Si hC (c_X9_at l G n (by omega) hn2 v1 _ _ _ hc29) wsX9_68 ⟨rfl, rfl, by decide, by decide⟩ hw hS hl.1 rfl (rest := [.ref (bb G + (r0 + 214)), .int (C24 r0 ((r23 + (4 : Int32))).toNatClampNeg)]) rfl (Nat.le_of_ble_eq_true rfl) dX9_nextOf_64 ⟨by decide, by decide⟩ (fun H locs hw hS _ => ?_)
          refine lv_iconst (v := 4) hx hb dX9_nextOf_67 (by decide) ?_
          refine lv_iadd hx hb dX9_nextOf_68 ?_
          obtain ⟨g30, hF⟩ := gi_t hF
          refine ld_marr hC hw (by omega) hr0 g30 dX9_nextOf_69 ?_
          refine lv_icmp_ge (tgt := 77) hx hb dX9_nextOf_70 (by decide) (fun h31 => ?_) (fun h31 => ?_)
          · have hF := it_t h31 hF
            refine lv_iload_n hx hb dX9_nextOf_77 rfl (lv_at hl 3 rfl) ?_
            refine lv_istore_n (lv' := [(2, .int v1), (4, .int v17), (0, .ref (bb G + 244)), (1, .ref (bb G + (r0 + 214))), (3, .int v2)]) hx hb dX9_nextOf_78 rfl hl (by decide) rfl (fun ls hl => ?_)
            obtain ⟨v32, ev32, hF⟩ := nm_t hF
            refine lv_iinc (v := v32) (lv' := [(3, .int v32), (2, .int v1), (4, .int v17), (0, .ref (bb G + 244)), (1, .ref (bb G + (r0 + 214)))]) hx hb dX9_nextOf_79 hl (k := 4) rfl (by rw [ev32]; rfl) (by decide) rfl (fun ls hl => ?_)
            refine lv_goto (tgt := 5) hx hb dX9_nextOf_82 (by decide) ?_
            exact it_back hF hk4 _ _ _ hw hS (lv_sub hl [3, 4, 1, 0] rfl)
          · have hF := it_f h31 hF
            refine lv_iload_n hx hb dX9_nextOf_73 rfl (lv_at hl 4 rfl) ?_
            refine lv_goto (tgt := 78) hx hb dX9_nextOf_74 (by decide) ?_
            refine lv_istore_n (lv' := [(2, .int v2), (4, .int v17), (0, .ref (bb G + 244)), (1, .ref (bb G + (r0 + 214))), (3, .int v2)]) hx hb dX9_nextOf_78 rfl hl (by decide) rfl (fun ls hl => ?_)
            obtain ⟨v33, ev33, hF⟩ := nm_t hF
            refine lv_iinc (v := v33) (lv' := [(3, .int v33), (2, .int v2), (4, .int v17), (0, .ref (bb G + 244)), (1, .ref (bb G + (r0 + 214)))]) hx hb dX9_nextOf_79 hl (k := 4) rfl (by rw [ev33]; rfl) (by decide) rfl (fun ls hl => ?_)
            refine lv_goto (tgt := 5) hx hb dX9_nextOf_82 (by decide) ?_
            exact it_back hF hk4 _ _ _ hw hS (lv_sub hl [3, 4, 1, 0] rfl)
    refine lv_if_eq (tgt := 40) hx hb dX9_nextOf_24 (by decide) (fun h16 => ?_) (fun h16 => ?_)
    · have hF := it_t h16 hF
      refine lv_iconst (v := 0) hx hb dX9_nextOf_40 (by decide) ?_
      exact hJ41 (0 : Int32) C14 _ _ _ hF hw hS (lv_sub hl [0, 1, 2, 3] rfl)
    · have hF := it_f h16 hF
      refine lv_aload_n hx hb dX9_nextOf_27 rfl (lv_at hl 0 rfl) ?_
      refine lv_aload_n hx hb dX9_nextOf_28 rfl (lv_at hl 1 rfl) ?_
      refine lv_iload_n hx hb dX9_nextOf_29 rfl (lv_at hl 3 rfl) ?_
      obtain ⟨r34, C35, hc36, hF⟩ := b2_t hF
      refine call_Vi hC (c_X9_canStart l G n (by omega) hn2 r0 hr0 v2 _ _ _ hc36) wvX9_83 ⟨rfl, rfl, by decide, by decide⟩ hw hS (by omega) ca_model rfl hl.1 rfl (rest := []) rfl (Nat.le_of_ble_eq_true rfl) dX9_nextOf_30 ⟨by decide, by decide⟩ (fun H locs hw hS _ => ?_)
      refine lv_if_eq (tgt := 40) hx hb dX9_nextOf_33 (by decide) (fun h37 => ?_) (fun h37 => ?_)
      · have hF := it_t h37 hF
        refine lv_iconst (v := 0) hx hb dX9_nextOf_40 (by decide) ?_
        exact hJ41 (0 : Int32) C35 _ _ _ hF hw hS (lv_sub hl [0, 1, 2, 3] rfl)
      · have hF := it_f h37 hF
        refine lv_iconst (v := 1) hx hb dX9_nextOf_36 (by decide) ?_
        refine lv_goto (tgt := 41) hx hb dX9_nextOf_37 (by decide) ?_
        exact hJ41 (1 : Int32) C35 _ _ _ hF hw hS (lv_sub hl [0, 1, 2, 3] rfl)
set_option maxHeartbeats 4000000 in
set_option maxRecDepth 100000 in
theorem c_X9_meanOf (l : Launch) (G : GG) (n : Nat) (hn : 252 ≤ n) (hn2 : n ≤ 253) (r0 : Nat) (hr0 : 31 ≤ r0 ∧ r0 ≤ 36) (C : Mem) (rR : Int32) (CR : Mem) (hF : F_X9_meanOf r0 C = some (rR, CR)) : Ct l yX9_meanOf cX9_meanOf 4 (some .int) (rmN 0 0) G n C [.ref (bb G + 244), .ref (bb G + (r0 + 214))] (some (.int rR)) CR := by
  refine Ct.of (by decide) (Nat.le_of_ble_eq_true rfl) ?_
  intro p e s m below meth c ls hC hr hlk hw hl
  have hx := hC.1
  have hb := hC.2.1
  have hS : LW G s s.heap [] := va_S.rf
  have hl : lv_has ls 4 [(0, .ref (bb G + 244)), (1, .ref (bb G + (r0 + 214)))] := hl
  unfold F_X9_meanOf at hF
  refine lv_iconst (v := 0) hx hb dX9_meanOf_0 (by decide) ?_
  refine lv_istore_n (lv' := [(2, .int (0 : Int32)), (0, .ref (bb G + 244)), (1, .ref (bb G + (r0 + 214)))]) hx hb dX9_meanOf_1 rfl hl (by decide) rfl (fun ls hl => ?_)
  refine lv_iconst (v := 0) hx hb dX9_meanOf_2 (by decide) ?_
  refine lv_istore_n (lv' := [(3, .int (0 : Int32)), (2, .int (0 : Int32)), (0, .ref (bb G + 244)), (1, .ref (bb G + (r0 + 214)))]) hx hb dX9_meanOf_3 rfl hl (by decide) rfl (fun ls hl => ?_)
  obtain ⟨o4, hit4, hG4⟩ := b1_t hF
  have hR4 : ∀ (v5 : Int32) (v6 : Int32) (C7 : Mem) (H : Heap) (locs : List Loc) (ls : Array Slot), o4 = (v5, v6, C7) → Wd G n C7 H → LW G s H locs → lv_has ls 4 [(0, .ref (bb G + 244)), (2, .int v5)] → W p l e (rmN 0 0) s m ([.ref (bb G + 244), .ref (bb G + (r0 + 214))] : List Value).toArray below meth c H locs 0 0 (MQ below (QR G n (some (.int rR)) CR) ([.ref (bb G + 244), .ref (bb G + (r0 + 214))] : List Value).toArray s 0 0 (frA G)) (F0 m 27 ls []) := by
    intro v5 v6 C7 H locs ls hE hw hS hl
    subst hE
    have hF := u3_t (hG4)
    refine lv_iload_n hx hb dX9_meanOf_27 rfl (lv_at hl 1 rfl) ?_
    refine lv_aload_n hx hb dX9_meanOf_28 rfl (lv_at hl 0 rfl) ?_
    refine gX9_17 hC hw (by omega)  dX9_meanOf_29 ?_
    obtain ⟨g12, hF⟩ := gz_t hF
    refine lv_idiv hx hb dX9_meanOf_32 g12 ?_
    exact m_iret hC hr hlk hw hS dX9_meanOf_33 hF
  refine iter_sound (P := fun x : Int32 × Int32 × Mem => ∀ (H : Heap) (locs : List Loc) (ls : Array Slot), Wd G n x.2.2 H → LW G s H locs → lv_has ls 4 [(0, .ref (bb G + 244)), (1, .ref (bb G + (r0 + 214))), (2, .int x.1), (3, .int x.2.1)] → W p l e (rmN 0 0) s m ([.ref (bb G + 244), .ref (bb G + (r0 + 214))] : List Value).toArray below meth c H locs 0 0 (MQ below (QR G n (some (.int rR)) CR) ([.ref (bb G + 244), .ref (bb G + (r0 + 214))] : List Value).toArray s 0 0 (frA G)) (F0 m 4 ls [])) (X := fun r => r = o4) ?_ fuel ((0 : Int32), (0 : Int32), C) o4 hit4 rfl _ _ _ hw hS (lv_sub hl [2, 3, 1, 0] rfl)
  intro x oo4 hF hk4 hX4 H locs ls hw hS hl
  obtain ⟨v1, v2, C3⟩ := x
  have hF : S_X9_meanOf_4 r0 v1 v2 C3 = some oo4 := hF
  have hw : Wd G n C3 H := hw
  have hl : lv_has ls 4 [(0, .ref (bb G + 244)), (1, .ref (bb G + (r0 + 214))), (2, .int v1), (3, .int v2)] := hl
  unfold S_X9_meanOf_4 at hF
  refine lv_iload_n hx hb dX9_meanOf_4 rfl (lv_at hl 3 rfl) ?_
  refine lv_aload_n hx hb dX9_meanOf_5 rfl (lv_at hl 0 rfl) ?_
  refine gX9_17 hC hw (by omega)  dX9_meanOf_6 ?_
  refine lv_icmp_ge (tgt := 27) hx hb dX9_meanOf_9 (by decide) (fun h8 => ?_) (fun h8 => ?_)
  · have hF := it_t h8 hF
    exact hR4 _ _ _ _ _ _ (it_exit hF hX4).symm hw hS (lv_sub hl [0, 2] rfl)
  · have hF := it_f h8 hF
    refine lv_iload_n hx hb dX9_meanOf_12 rfl (lv_at hl 2 rfl) ?_
    refine lv_aload_n hx hb dX9_meanOf_13 rfl (lv_at hl 1 rfl) ?_
    refine lv_bipush (v := 22) hx hb dX9_meanOf_14 (by decide) ?_
    refine lv_iload_n hx hb dX9_meanOf_16 rfl (lv_at hl 3 rfl) ?_
    refine lv_iadd hx hb dX9_meanOf_17 ?_
    obtain ⟨g9, hF⟩ := gi_t hF
    refine ld_marr hC hw (by omega) hr0 g9 dX9_meanOf_18 ?_
    refine lv_iadd hx hb dX9_meanOf_19 ?_
    obtain ⟨v10, ev10, hF⟩ := nm_t hF
    refine lv_nmi ev10 ?_
    refine lv_istore_n (lv' := [(2, .int v10), (0, .ref (bb G + 244)), (1, .ref (bb G + (r0 + 214))), (3, .int v2)]) hx hb dX9_meanOf_20 rfl hl (by decide) rfl (fun ls hl => ?_)
    obtain ⟨v11, ev11, hF⟩ := nm_t hF
    refine lv_iinc (v := v11) (lv' := [(3, .int v11), (2, .int v10), (0, .ref (bb G + 244)), (1, .ref (bb G + (r0 + 214)))]) hx hb dX9_meanOf_21 hl (k := 3) rfl (by rw [ev11]; rfl) (by decide) rfl (fun ls hl => ?_)
    refine lv_goto (tgt := 4) hx hb dX9_meanOf_24 (by decide) ?_
    exact it_back hF hk4 _ _ _ hw hS (lv_sub hl [2, 3, 1, 0] rfl)
set_option maxHeartbeats 4000000 in
set_option maxRecDepth 100000 in
theorem c_X9_fuelOf (l : Launch) (G : GG) (n : Nat) (hn : 252 ≤ n) (hn2 : n ≤ 253) (r0 : Nat) (hr0 : 31 ≤ r0 ∧ r0 ≤ 36) (C : Mem) (rR : Int32) (CR : Mem) (hF : F_X9_fuelOf r0 C = some (rR, CR)) : Ct l yX9_fuelOf cX9_fuelOf 4 (some .int) (rmN 1 20) G n C [.ref (bb G + 244), .ref (bb G + (r0 + 214))] (some (.int rR)) CR := by
  refine Ct.of (by decide) (Nat.le_of_ble_eq_true rfl) ?_
  intro p e s m below meth c ls hC hr hlk hw hl
  have hx := hC.1
  have hb := hC.2.1
  have hS : LW G s s.heap [] := va_S.rf
  have hl : lv_has ls 4 [(0, .ref (bb G + 244)), (1, .ref (bb G + (r0 + 214)))] := hl
  unfold F_X9_fuelOf at hF
  refine lv_iconst (v := 0) hx hb dX9_fuelOf_0 (by decide) ?_
  refine lv_istore_n (lv' := [(2, .int (0 : Int32)), (0, .ref (bb G + 244)), (1, .ref (bb G + (r0 + 214)))]) hx hb dX9_fuelOf_1 rfl hl (by decide) rfl (fun ls hl => ?_)
  refine lv_iconst (v := 0) hx hb dX9_fuelOf_2 (by decide) ?_
  refine lv_istore_n (lv' := [(3, .int (0 : Int32)), (2, .int (0 : Int32)), (0, .ref (bb G + 244)), (1, .ref (bb G + (r0 + 214)))]) hx hb dX9_fuelOf_3 rfl hl (by decide) rfl (fun ls hl => ?_)
  obtain ⟨o4, hit4, hG4⟩ := b1_t hF
  have hR4 : ∀ (v5 : Int32) (v6 : Int32) (C7 : Mem) (H : Heap) (locs : List Loc) (ls : Array Slot), o4 = (v5, v6, C7) → Wd G n C7 H → LW G s H locs → lv_has ls 4 [(2, .int v5)] → W p l e (rmN 1 20) s m ([.ref (bb G + 244), .ref (bb G + (r0 + 214))] : List Value).toArray below meth c H locs 0 0 (MQ below (QR G n (some (.int rR)) CR) ([.ref (bb G + 244), .ref (bb G + (r0 + 214))] : List Value).toArray s 0 0 (frA G)) (F0 m 30 ls []) := by
    intro v5 v6 C7 H locs ls hE hw hS hl
    subst hE
    have hF := u3_t (hG4)
    refine lv_iload_n hx hb dX9_fuelOf_30 rfl (lv_at hl 0 rfl) ?_
    exact m_iret hC hr hlk hw hS dX9_fuelOf_31 hF
  refine iter_sound (P := fun x : Int32 × Int32 × Mem => ∀ (H : Heap) (locs : List Loc) (ls : Array Slot), Wd G n x.2.2 H → LW G s H locs → lv_has ls 4 [(0, .ref (bb G + 244)), (1, .ref (bb G + (r0 + 214))), (2, .int x.1), (3, .int x.2.1)] → W p l e (rmN 1 20) s m ([.ref (bb G + 244), .ref (bb G + (r0 + 214))] : List Value).toArray below meth c H locs 0 0 (MQ below (QR G n (some (.int rR)) CR) ([.ref (bb G + 244), .ref (bb G + (r0 + 214))] : List Value).toArray s 0 0 (frA G)) (F0 m 4 ls [])) (X := fun r => r = o4) ?_ fuel ((0 : Int32), (0 : Int32), C) o4 hit4 rfl _ _ _ hw hS (lv_sub hl [2, 3, 1, 0] rfl)
  intro x oo4 hF hk4 hX4 H locs ls hw hS hl
  obtain ⟨v1, v2, C3⟩ := x
  have hF : S_X9_fuelOf_4 r0 v1 v2 C3 = some oo4 := hF
  have hw : Wd G n C3 H := hw
  have hl : lv_has ls 4 [(0, .ref (bb G + 244)), (1, .ref (bb G + (r0 + 214))), (2, .int v1), (3, .int v2)] := hl
  unfold S_X9_fuelOf_4 at hF
  refine lv_iload_n hx hb dX9_fuelOf_4 rfl (lv_at hl 3 rfl) ?_
  refine lv_aload_n hx hb dX9_fuelOf_5 rfl (lv_at hl 0 rfl) ?_
  refine gX9_13 hC hw (by omega)  dX9_fuelOf_6 ?_
  refine lv_icmp_ge (tgt := 30) hx hb dX9_fuelOf_9 (by decide) (fun h8 => ?_) (fun h8 => ?_)
  · have hF := it_t h8 hF
    exact hR4 _ _ _ _ _ _ (it_exit hF hX4).symm hw hS (lv_sub hl [2] rfl)
  · have hF := it_f h8 hF
    refine lv_iload_n hx hb dX9_fuelOf_12 rfl (lv_at hl 2 rfl) ?_
    refine lv_aload_n hx hb dX9_fuelOf_13 rfl (lv_at hl 1 rfl) ?_
    refine lv_iload_n hx hb dX9_fuelOf_14 rfl (lv_at hl 3 rfl) ?_
    obtain ⟨r9, C10, hc11, hF⟩ := b2_t hF
    refine call_Si hC (c_X9_at l G n (by omega) hn2 v2 _ _ _ hc11) wsX9_68 ⟨rfl, rfl, by decide, by decide⟩ hw hS hl.1 rfl (rest := [.ref (bb G + (r0 + 214)), .int v1]) rfl (Nat.le_of_ble_eq_true rfl) dX9_fuelOf_15 ⟨by decide, by decide⟩ (fun H locs hw hS _ => ?_)
    refine lv_bipush (v := 6) hx hb dX9_fuelOf_18 (by decide) ?_
    refine lv_iadd hx hb dX9_fuelOf_20 ?_
    obtain ⟨g12, hF⟩ := gi_t hF
    refine ld_marr hC hw (by omega) hr0 g12 dX9_fuelOf_21 ?_
    refine lv_iadd hx hb dX9_fuelOf_22 ?_
    obtain ⟨v13, ev13, hF⟩ := nm_t hF
    refine lv_nmi ev13 ?_
    refine lv_istore_n (lv' := [(2, .int v13), (0, .ref (bb G + 244)), (1, .ref (bb G + (r0 + 214))), (3, .int v2)]) hx hb dX9_fuelOf_23 rfl hl (by decide) rfl (fun ls hl => ?_)
    obtain ⟨v14, ev14, hF⟩ := nm_t hF
    refine lv_iinc (v := v14) (lv' := [(3, .int v14), (2, .int v13), (0, .ref (bb G + 244)), (1, .ref (bb G + (r0 + 214)))]) hx hb dX9_fuelOf_24 hl (k := 3) rfl (by rw [ev14]; rfl) (by decide) rfl (fun ls hl => ?_)
    refine lv_goto (tgt := 4) hx hb dX9_fuelOf_27 (by decide) ?_
    exact it_back hF hk4 _ _ _ hw hS (lv_sub hl [2, 3, 1, 0] rfl)
set_option maxHeartbeats 4000000 in
set_option maxRecDepth 100000 in
theorem c_X9_startsOf (l : Launch) (G : GG) (n : Nat) (hn : 252 ≤ n) (hn2 : n ≤ 253) (r0 : Nat) (hr0 : 31 ≤ r0 ∧ r0 ≤ 36) (C : Mem) (rR : Int32) (CR : Mem) (hF : F_X9_startsOf r0 C = some (rR, CR)) : Ct l yX9_startsOf cX9_startsOf 4 (some .int) (rmN 1 20) G n C [.ref (bb G + 244), .ref (bb G + (r0 + 214))] (some (.int rR)) CR := by
  refine Ct.of (by decide) (Nat.le_of_ble_eq_true rfl) ?_
  intro p e s m below meth c ls hC hr hlk hw hl
  have hx := hC.1
  have hb := hC.2.1
  have hS : LW G s s.heap [] := va_S.rf
  have hl : lv_has ls 4 [(0, .ref (bb G + 244)), (1, .ref (bb G + (r0 + 214)))] := hl
  unfold F_X9_startsOf at hF
  refine lv_iconst (v := 0) hx hb dX9_startsOf_0 (by decide) ?_
  refine lv_istore_n (lv' := [(2, .int (0 : Int32)), (0, .ref (bb G + 244)), (1, .ref (bb G + (r0 + 214)))]) hx hb dX9_startsOf_1 rfl hl (by decide) rfl (fun ls hl => ?_)
  refine lv_iconst (v := 0) hx hb dX9_startsOf_2 (by decide) ?_
  refine lv_istore_n (lv' := [(3, .int (0 : Int32)), (2, .int (0 : Int32)), (0, .ref (bb G + 244)), (1, .ref (bb G + (r0 + 214)))]) hx hb dX9_startsOf_3 rfl hl (by decide) rfl (fun ls hl => ?_)
  obtain ⟨o4, hit4, hG4⟩ := b1_t hF
  have hR4 : ∀ (v5 : Int32) (v6 : Int32) (C7 : Mem) (H : Heap) (locs : List Loc) (ls : Array Slot), o4 = (v5, v6, C7) → Wd G n C7 H → LW G s H locs → lv_has ls 4 [(2, .int v5)] → W p l e (rmN 1 20) s m ([.ref (bb G + 244), .ref (bb G + (r0 + 214))] : List Value).toArray below meth c H locs 0 0 (MQ below (QR G n (some (.int rR)) CR) ([.ref (bb G + 244), .ref (bb G + (r0 + 214))] : List Value).toArray s 0 0 (frA G)) (F0 m 29 ls []) := by
    intro v5 v6 C7 H locs ls hE hw hS hl
    subst hE
    have hF := u3_t (hG4)
    refine lv_iload_n hx hb dX9_startsOf_29 rfl (lv_at hl 0 rfl) ?_
    exact m_iret hC hr hlk hw hS dX9_startsOf_30 hF
  refine iter_sound (P := fun x : Int32 × Int32 × Mem => ∀ (H : Heap) (locs : List Loc) (ls : Array Slot), Wd G n x.2.2 H → LW G s H locs → lv_has ls 4 [(0, .ref (bb G + 244)), (1, .ref (bb G + (r0 + 214))), (2, .int x.1), (3, .int x.2.1)] → W p l e (rmN 1 20) s m ([.ref (bb G + 244), .ref (bb G + (r0 + 214))] : List Value).toArray below meth c H locs 0 0 (MQ below (QR G n (some (.int rR)) CR) ([.ref (bb G + 244), .ref (bb G + (r0 + 214))] : List Value).toArray s 0 0 (frA G)) (F0 m 4 ls [])) (X := fun r => r = o4) ?_ fuel ((0 : Int32), (0 : Int32), C) o4 hit4 rfl _ _ _ hw hS (lv_sub hl [2, 3, 1, 0] rfl)
  intro x oo4 hF hk4 hX4 H locs ls hw hS hl
  obtain ⟨v1, v2, C3⟩ := x
  have hF : S_X9_startsOf_4 r0 v1 v2 C3 = some oo4 := hF
  have hw : Wd G n C3 H := hw
  have hl : lv_has ls 4 [(0, .ref (bb G + 244)), (1, .ref (bb G + (r0 + 214))), (2, .int v1), (3, .int v2)] := hl
  unfold S_X9_startsOf_4 at hF
  refine lv_iload_n hx hb dX9_startsOf_4 rfl (lv_at hl 3 rfl) ?_
  refine lv_aload_n hx hb dX9_startsOf_5 rfl (lv_at hl 0 rfl) ?_
  refine gX9_13 hC hw (by omega)  dX9_startsOf_6 ?_
  refine lv_icmp_ge (tgt := 29) hx hb dX9_startsOf_9 (by decide) (fun h8 => ?_) (fun h8 => ?_)
  · have hF := it_t h8 hF
    exact hR4 _ _ _ _ _ _ (it_exit hF hX4).symm hw hS (lv_sub hl [2] rfl)
  · have hF := it_f h8 hF
    refine lv_iload_n hx hb dX9_startsOf_12 rfl (lv_at hl 2 rfl) ?_
    refine lv_aload_n hx hb dX9_startsOf_13 rfl (lv_at hl 1 rfl) ?_
    refine lv_iload_n hx hb dX9_startsOf_14 rfl (lv_at hl 3 rfl) ?_
    obtain ⟨r9, C10, hc11, hF⟩ := b2_t hF
    refine call_Si hC (c_X9_at l G n (by omega) hn2 v2 _ _ _ hc11) wsX9_68 ⟨rfl, rfl, by decide, by decide⟩ hw hS hl.1 rfl (rest := [.ref (bb G + (r0 + 214)), .int v1]) rfl (Nat.le_of_ble_eq_true rfl) dX9_startsOf_15 ⟨by decide, by decide⟩ (fun H locs hw hS _ => ?_)
    refine lv_iconst (v := 5) hx hb dX9_startsOf_18 (by decide) ?_
    refine lv_iadd hx hb dX9_startsOf_19 ?_
    obtain ⟨g12, hF⟩ := gi_t hF
    refine ld_marr hC hw (by omega) hr0 g12 dX9_startsOf_20 ?_
    refine lv_iadd hx hb dX9_startsOf_21 ?_
    obtain ⟨v13, ev13, hF⟩ := nm_t hF
    refine lv_nmi ev13 ?_
    refine lv_istore_n (lv' := [(2, .int v13), (0, .ref (bb G + 244)), (1, .ref (bb G + (r0 + 214))), (3, .int v2)]) hx hb dX9_startsOf_22 rfl hl (by decide) rfl (fun ls hl => ?_)
    obtain ⟨v14, ev14, hF⟩ := nm_t hF
    refine lv_iinc (v := v14) (lv' := [(3, .int v14), (2, .int v13), (0, .ref (bb G + 244)), (1, .ref (bb G + (r0 + 214)))]) hx hb dX9_startsOf_23 hl (k := 3) rfl (by rw [ev14]; rfl) (by decide) rfl (fun ls hl => ?_)
    refine lv_goto (tgt := 4) hx hb dX9_startsOf_26 (by decide) ?_
    exact it_back hF hk4 _ _ _ hw hS (lv_sub hl [2, 3, 1, 0] rfl)
set_option maxHeartbeats 4000000 in
set_option maxRecDepth 100000 in
theorem c_X9_count (l : Launch) (G : GG) (n : Nat) (hn : 252 ≤ n) (hn2 : n ≤ 253) (r0 : Nat) (hr0 : 31 ≤ r0 ∧ r0 ≤ 36) (x1 : Int32) (C : Mem) (rR : Int32) (CR : Mem) (hF : F_X9_count r0 x1 C = some (rR, CR)) : Ct l yX9_count cX9_count 5 (some .int) (rmN 1 20) G n C [.ref (bb G + 244), .ref (bb G + (r0 + 214)), .int x1] (some (.int rR)) CR := by
  refine Ct.of (by decide) (Nat.le_of_ble_eq_true rfl) ?_
  intro p e s m below meth c ls hC hr hlk hw hl
  have hx := hC.1
  have hb := hC.2.1
  have hS : LW G s s.heap [] := va_S.rf
  have hl : lv_has ls 5 [(0, .ref (bb G + 244)), (1, .ref (bb G + (r0 + 214))), (2, .int x1)] := hl
  unfold F_X9_count at hF
  refine lv_iconst (v := 0) hx hb dX9_count_0 (by decide) ?_
  refine lv_istore_n (lv' := [(3, .int (0 : Int32)), (0, .ref (bb G + 244)), (1, .ref (bb G + (r0 + 214))), (2, .int x1)]) hx hb dX9_count_1 rfl hl (by decide) rfl (fun ls hl => ?_)
  refine lv_iconst (v := 0) hx hb dX9_count_2 (by decide) ?_
  refine lv_istore (lv' := [(4, .int (0 : Int32)), (3, .int (0 : Int32)), (0, .ref (bb G + 244)), (1, .ref (bb G + (r0 + 214))), (2, .int x1)]) hx hb dX9_count_3 hl (by decide) rfl (fun ls hl => ?_)
  obtain ⟨o4, hit4, hG4⟩ := b1_t hF
  have hR4 : ∀ (v5 : Int32) (v6 : Int32) (C7 : Mem) (H : Heap) (locs : List Loc) (ls : Array Slot), o4 = (v5, v6, C7) → Wd G n C7 H → LW G s H locs → lv_has ls 5 [(3, .int v5)] → W p l e (rmN 1 20) s m ([.ref (bb G + 244), .ref (bb G + (r0 + 214)), .int x1] : List Value).toArray below meth c H locs 0 0 (MQ below (QR G n (some (.int rR)) CR) ([.ref (bb G + 244), .ref (bb G + (r0 + 214)), .int x1] : List Value).toArray s 0 0 (frA G)) (F0 m 41 ls []) := by
    intro v5 v6 C7 H locs ls hE hw hS hl
    subst hE
    have hF := u3_t (hG4)
    refine lv_iload_n hx hb dX9_count_41 rfl (lv_at hl 0 rfl) ?_
    exact m_iret hC hr hlk hw hS dX9_count_42 hF
  refine iter_sound (P := fun x : Int32 × Int32 × Mem => ∀ (H : Heap) (locs : List Loc) (ls : Array Slot), Wd G n x.2.2 H → LW G s H locs → lv_has ls 5 [(0, .ref (bb G + 244)), (1, .ref (bb G + (r0 + 214))), (2, .int x1), (3, .int x.1), (4, .int x.2.1)] → W p l e (rmN 1 20) s m ([.ref (bb G + 244), .ref (bb G + (r0 + 214)), .int x1] : List Value).toArray below meth c H locs 0 0 (MQ below (QR G n (some (.int rR)) CR) ([.ref (bb G + 244), .ref (bb G + (r0 + 214)), .int x1] : List Value).toArray s 0 0 (frA G)) (F0 m 5 ls [])) (X := fun r => r = o4) ?_ fuel ((0 : Int32), (0 : Int32), C) o4 hit4 rfl _ _ _ hw hS (lv_sub hl [2, 3, 4, 1, 0] rfl)
  intro x oo4 hF hk4 hX4 H locs ls hw hS hl
  obtain ⟨v1, v2, C3⟩ := x
  have hF : S_X9_count_5 r0 x1 v1 v2 C3 = some oo4 := hF
  have hw : Wd G n C3 H := hw
  have hl : lv_has ls 5 [(0, .ref (bb G + 244)), (1, .ref (bb G + (r0 + 214))), (2, .int x1), (3, .int v1), (4, .int v2)] := hl
  unfold S_X9_count_5 at hF
  refine lv_iload hx hb dX9_count_5 (lv_at hl 4 rfl) ?_
  refine lv_aload_n hx hb dX9_count_7 rfl (lv_at hl 0 rfl) ?_
  refine gX9_13 hC hw (by omega)  dX9_count_8 ?_
  refine lv_icmp_ge (tgt := 41) hx hb dX9_count_11 (by decide) (fun h8 => ?_) (fun h8 => ?_)
  · have hF := it_t h8 hF
    exact hR4 _ _ _ _ _ _ (it_exit hF hX4).symm hw hS (lv_sub hl [3] rfl)
  · have hF := it_f h8 hF
    refine lv_iload_n hx hb dX9_count_14 rfl (lv_at hl 3 rfl) ?_
    refine lv_aload_n hx hb dX9_count_15 rfl (lv_at hl 1 rfl) ?_
    refine lv_iload hx hb dX9_count_16 (lv_at hl 4 rfl) ?_
    obtain ⟨r9, C10, hc11, hF⟩ := b2_t hF
    refine call_Si hC (c_X9_at l G n (by omega) hn2 v2 _ _ _ hc11) wsX9_68 ⟨rfl, rfl, by decide, by decide⟩ hw hS hl.1 rfl (rest := [.ref (bb G + (r0 + 214)), .int v1]) rfl (Nat.le_of_ble_eq_true rfl) dX9_count_18 ⟨by decide, by decide⟩ (fun H locs hw hS _ => ?_)
    refine lv_iconst (v := 2) hx hb dX9_count_21 (by decide) ?_
    refine lv_iadd hx hb dX9_count_22 ?_
    obtain ⟨g12, hF⟩ := gi_t hF
    refine ld_marr hC hw (by omega) hr0 g12 dX9_count_23 ?_
    refine lv_iload_n hx hb dX9_count_24 rfl (lv_at hl 2 rfl) ?_
    refine lv_icmp_ne (tgt := 32) hx hb dX9_count_25 (by decide) (fun h13 => ?_) (fun h13 => ?_)
    · have hF := it_f h13 hF
      refine lv_iconst (v := 0) hx hb dX9_count_32 (by decide) ?_
      refine lv_iadd hx hb dX9_count_33 ?_
      obtain ⟨v14, ev14, hF⟩ := nm_t hF
      refine lv_nmi ev14 ?_
      refine lv_istore_n (lv' := [(3, .int v14), (0, .ref (bb G + 244)), (1, .ref (bb G + (r0 + 214))), (2, .int x1), (4, .int v2)]) hx hb dX9_count_34 rfl hl (by decide) rfl (fun ls hl => ?_)
      obtain ⟨v15, ev15, hF⟩ := nm_t hF
      refine lv_iinc (v := v15) (lv' := [(4, .int v15), (3, .int v14), (0, .ref (bb G + 244)), (1, .ref (bb G + (r0 + 214))), (2, .int x1)]) hx hb dX9_count_35 hl (k := 4) rfl (by rw [ev15]; rfl) (by decide) rfl (fun ls hl => ?_)
      refine lv_goto (tgt := 5) hx hb dX9_count_38 (by decide) ?_
      exact it_back hF hk4 _ _ _ hw hS (lv_sub hl [2, 3, 4, 1, 0] rfl)
    · have hF := it_t h13 hF
      refine lv_iconst (v := 1) hx hb dX9_count_28 (by decide) ?_
      refine lv_goto (tgt := 33) hx hb dX9_count_29 (by decide) ?_
      refine lv_iadd hx hb dX9_count_33 ?_
      obtain ⟨v16, ev16, hF⟩ := nm_t hF
      refine lv_nmi ev16 ?_
      refine lv_istore_n (lv' := [(3, .int v16), (0, .ref (bb G + 244)), (1, .ref (bb G + (r0 + 214))), (2, .int x1), (4, .int v2)]) hx hb dX9_count_34 rfl hl (by decide) rfl (fun ls hl => ?_)
      obtain ⟨v17, ev17, hF⟩ := nm_t hF
      refine lv_iinc (v := v17) (lv' := [(4, .int v17), (3, .int v16), (0, .ref (bb G + 244)), (1, .ref (bb G + (r0 + 214))), (2, .int x1)]) hx hb dX9_count_35 hl (k := 4) rfl (by rw [ev17]; rfl) (by decide) rfl (fun ls hl => ?_)
      refine lv_goto (tgt := 5) hx hb dX9_count_38 (by decide) ?_
      exact it_back hF hk4 _ _ _ hw hS (lv_sub hl [2, 3, 4, 1, 0] rfl)
set_option maxHeartbeats 4000000 in
set_option maxRecDepth 100000 in
theorem c_X9_drawOn (l : Launch) (G : GG) (n : Nat) (hn : 252 ≤ n) (hn2 : n ≤ 253) (r0 : Nat) (hr0 : 31 ≤ r0 ∧ r0 ≤ 36) (x1 : Int32) (C : Mem) (rR : Int32) (CR : Mem) (hF : F_X9_drawOn r0 x1 C = some (rR, CR)) : Ct l yX9_drawOn cX9_drawOn 6 (some .int) (rmN 0 0) G n C [.ref (bb G + 244), .ref (bb G + (r0 + 214)), .int x1] (some (.int rR)) CR := by
  refine Ct.of (by decide) (Nat.le_of_ble_eq_true rfl) ?_
  intro p e s m below meth c ls hC hr hlk hw hl
  have hx := hC.1
  have hb := hC.2.1
  have hS : LW G s s.heap [] := va_S.rf
  have hl : lv_has ls 6 [(0, .ref (bb G + 244)), (1, .ref (bb G + (r0 + 214))), (2, .int x1)] := hl
  unfold F_X9_drawOn at hF
  refine lv_iconst (v := 0) hx hb dX9_drawOn_0 (by decide) ?_
  refine lv_istore_n (lv' := [(3, .int (0 : Int32)), (0, .ref (bb G + 244)), (1, .ref (bb G + (r0 + 214))), (2, .int x1)]) hx hb dX9_drawOn_1 rfl hl (by decide) rfl (fun ls hl => ?_)
  refine lv_iconst (v := 0) hx hb dX9_drawOn_2 (by decide) ?_
  refine lv_istore (lv' := [(4, .int (0 : Int32)), (3, .int (0 : Int32)), (0, .ref (bb G + 244)), (1, .ref (bb G + (r0 + 214))), (2, .int x1)]) hx hb dX9_drawOn_3 hl (by decide) rfl (fun ls hl => ?_)
  obtain ⟨o4, hit4, hG4⟩ := b1_t hF
  have hR4 : ∀ (v5 : Int32) (v6 : Int32) (C7 : Mem) (H : Heap) (locs : List Loc) (ls : Array Slot), o4 = (v5, v6, C7) → Wd G n C7 H → LW G s H locs → lv_has ls 6 [(1, .ref (bb G + (r0 + 214))), (3, .int v5)] → W p l e (rmN 0 0) s m ([.ref (bb G + 244), .ref (bb G + (r0 + 214)), .int x1] : List Value).toArray below meth c H locs 0 0 (MQ below (QR G n (some (.int rR)) CR) ([.ref (bb G + 244), .ref (bb G + (r0 + 214)), .int x1] : List Value).toArray s 0 0 (frA G)) (F0 m 89 ls []) := by
    intro v5 v6 C7 H locs ls hE hw hS hl
    subst hE
    have hF := u3_t (hG4)
    refine lv_aload_n hx hb dX9_drawOn_89 rfl (lv_at hl 0 rfl) ?_
    refine lv_bipush (v := 15) hx hb dX9_drawOn_90 (by decide) ?_
    refine lv_dup2_11 hx hb dX9_drawOn_92 rfl rfl ?_
    obtain ⟨g31, hF⟩ := gi_t hF
    refine ld_marr hC hw (by omega) hr0 g31 dX9_drawOn_93 ?_
    refine lv_iload_n hx hb dX9_drawOn_94 rfl (lv_at hl 1 rfl) ?_
    refine lv_iadd hx hb dX9_drawOn_95 ?_
    obtain ⟨g32, hF⟩ := gi_t hF
    refine st_marr hC hw hS (by omega) hn2 hr0 g32 dX9_drawOn_96 (fun H locs hw hS _ => ?_)
    obtain ⟨C33, eC33, hF⟩ := nm_t hF
    have hw := Wd.cast eC33 hw
    refine lv_iload_n hx hb dX9_drawOn_97 rfl (lv_at hl 1 rfl) ?_
    exact m_iret hC hr hlk hw hS dX9_drawOn_98 hF
  refine iter_sound (P := fun x : Int32 × Int32 × Mem => ∀ (H : Heap) (locs : List Loc) (ls : Array Slot), Wd G n x.2.2 H → LW G s H locs → lv_has ls 6 [(0, .ref (bb G + 244)), (1, .ref (bb G + (r0 + 214))), (2, .int x1), (3, .int x.1), (4, .int x.2.1)] → W p l e (rmN 0 0) s m ([.ref (bb G + 244), .ref (bb G + (r0 + 214)), .int x1] : List Value).toArray below meth c H locs 0 0 (MQ below (QR G n (some (.int rR)) CR) ([.ref (bb G + 244), .ref (bb G + (r0 + 214)), .int x1] : List Value).toArray s 0 0 (frA G)) (F0 m 5 ls [])) (X := fun r => r = o4) ?_ fuel ((0 : Int32), (0 : Int32), C) o4 hit4 rfl _ _ _ hw hS (lv_sub hl [2, 3, 4, 1, 0] rfl)
  intro x oo4 hF hk4 hX4 H locs ls hw hS hl
  obtain ⟨v1, v2, C3⟩ := x
  have hF : S_X9_drawOn_5 r0 x1 v1 v2 C3 = some oo4 := hF
  have hw : Wd G n C3 H := hw
  have hl : lv_has ls 6 [(0, .ref (bb G + 244)), (1, .ref (bb G + (r0 + 214))), (2, .int x1), (3, .int v1), (4, .int v2)] := hl
  unfold S_X9_drawOn_5 at hF
  refine lv_iload hx hb dX9_drawOn_5 (lv_at hl 4 rfl) ?_
  refine lv_iload_n hx hb dX9_drawOn_7 rfl (lv_at hl 2 rfl) ?_
  refine lv_icmp_ge (tgt := 89) hx hb dX9_drawOn_8 (by decide) (fun h8 => ?_) (fun h8 => ?_)
  · have hF := it_t h8 hF
    exact hR4 _ _ _ _ _ _ (it_exit hF hX4).symm hw hS (lv_sub hl [1, 3] rfl)
  · have hF := it_f h8 hF
    refine lv_iload_n hx hb dX9_drawOn_11 rfl (lv_at hl 3 rfl) ?_
    refine lv_aload_n hx hb dX9_drawOn_12 rfl (lv_at hl 1 rfl) ?_
    refine lv_bipush (v := 22) hx hb dX9_drawOn_13 (by decide) ?_
    refine lv_aload_n hx hb dX9_drawOn_15 rfl (lv_at hl 0 rfl) ?_
    refine gX9_17 hC hw (by omega)  dX9_drawOn_16 ?_
    refine lv_iadd hx hb dX9_drawOn_19 ?_
    refine lv_iconst (v := 1) hx hb dX9_drawOn_20 (by decide) ?_
    refine lv_isub hx hb dX9_drawOn_21 ?_
    obtain ⟨g9, hF⟩ := gi_t hF
    refine ld_marr hC hw (by omega) hr0 g9 dX9_drawOn_22 ?_
    refine lv_iadd hx hb dX9_drawOn_23 ?_
    obtain ⟨v10, ev10, hF⟩ := nm_t hF
    refine lv_nmi ev10 ?_
    refine lv_istore_n (lv' := [(3, .int v10), (0, .ref (bb G + 244)), (1, .ref (bb G + (r0 + 214))), (2, .int x1), (4, .int v2)]) hx hb dX9_drawOn_24 rfl hl (by decide) rfl (fun ls hl => ?_)
    refine lv_aload_n hx hb dX9_drawOn_25 rfl (lv_at hl 1 rfl) ?_
    refine gX9_17 hC hw (by omega)  dX9_drawOn_26 ?_
    refine lv_iconst (v := 1) hx hb dX9_drawOn_29 (by decide) ?_
    refine lv_isub hx hb dX9_drawOn_30 ?_
    obtain ⟨v11, ev11, hF⟩ := nm_t hF
    refine lv_nmi ev11 ?_
    refine lv_istore (lv' := [(5, .int v11), (3, .int v10), (0, .ref (bb G + 244)), (1, .ref (bb G + (r0 + 214))), (2, .int x1), (4, .int v2)]) hx hb dX9_drawOn_31 hl (by decide) rfl (fun ls hl => ?_)
    obtain ⟨o14, hit14, hG14⟩ := b1_t hF
    have hR14 : ∀ (v15 : Int32) (C16 : Mem) (H : Heap) (locs : List Loc) (ls : Array Slot), o14 = (v15, C16) → Wd G n C16 H → LW G s H locs → lv_has ls 6 [(3, .int v10), (0, .ref (bb G + 244)), (1, .ref (bb G + (r0 + 214))), (2, .int x1), (4, .int v2)] → W p l e (rmN 0 0) s m ([.ref (bb G + 244), .ref (bb G + (r0 + 214)), .int x1] : List Value).toArray below meth c H locs 0 0 (MQ below (QR G n (some (.int rR)) CR) ([.ref (bb G + 244), .ref (bb G + (r0 + 214)), .int x1] : List Value).toArray s 0 0 (frA G)) (F0 m 60 ls []) := by
      intro v15 C16 H locs ls hE hw hS hl
      subst hE
      have hF := u2_t (hG14)
      refine lv_aload_n hx hb dX9_drawOn_60 rfl (lv_at hl 2 rfl) ?_
      refine lv_bipush (v := 22) hx hb dX9_drawOn_61 (by decide) ?_
      refine lv_bipush (v := 10) hx hb dX9_drawOn_63 (by decide) ?_
      obtain ⟨g22, hF⟩ := gi_t hF
      refine st_marr hC hw hS (by omega) hn2 hr0 g22 dX9_drawOn_65 (fun H locs hw hS _ => ?_)
      obtain ⟨C23, eC23, hF⟩ := nm_t hF
      have hw := Wd.cast eC23 hw
      refine lv_aload_n hx hb dX9_drawOn_66 rfl (lv_at hl 2 rfl) ?_
      refine lv_bipush (v := 14) hx hb dX9_drawOn_67 (by decide) ?_
      refine lv_dup2_11 hx hb dX9_drawOn_69 rfl rfl ?_
      obtain ⟨g24, hF⟩ := gi_t hF
      refine ld_marr hC hw (by omega) hr0 g24 dX9_drawOn_70 ?_
      refine lv_bipush (v := 10) hx hb dX9_drawOn_71 (by decide) ?_
      refine lv_iadd hx hb dX9_drawOn_73 ?_
      obtain ⟨g25, hF⟩ := gi_t hF
      refine st_marr hC hw hS (by omega) hn2 hr0 g25 dX9_drawOn_74 (fun H locs hw hS _ => ?_)
      obtain ⟨C26, eC26, hF⟩ := nm_t hF
      have hw := Wd.cast eC26 hw
      refine lv_aload_n hx hb dX9_drawOn_75 rfl (lv_at hl 2 rfl) ?_
      refine lv_bipush (v := 17) hx hb dX9_drawOn_76 (by decide) ?_
      refine lv_dup2_11 hx hb dX9_drawOn_78 rfl rfl ?_
      obtain ⟨g27, hF⟩ := gi_t hF
      refine ld_marr hC hw (by omega) hr0 g27 dX9_drawOn_79 ?_
      refine lv_iconst (v := 1) hx hb dX9_drawOn_80 (by decide) ?_
      refine lv_iadd hx hb dX9_drawOn_81 ?_
      obtain ⟨g28, hF⟩ := gi_t hF
      refine st_marr hC hw hS (by omega) hn2 hr0 g28 dX9_drawOn_82 (fun H locs hw hS _ => ?_)
      obtain ⟨C29, eC29, hF⟩ := nm_t hF
      have hw := Wd.cast eC29 hw
      obtain ⟨v30, ev30, hF⟩ := nm_t hF
      refine lv_iinc (v := v30) (lv' := [(4, .int v30), (3, .int v10), (0, .ref (bb G + 244)), (1, .ref (bb G + (r0 + 214))), (2, .int x1)]) hx hb dX9_drawOn_83 hl (k := 4) rfl (by rw [ev30]; rfl) (by decide) rfl (fun ls hl => ?_)
      refine lv_goto (tgt := 5) hx hb dX9_drawOn_86 (by decide) ?_
      exact it_back hF hk4 _ _ _ hw hS (lv_sub hl [2, 3, 4, 1, 0] rfl)
    refine iter_sound (P := fun x : Int32 × Mem => ∀ (H : Heap) (locs : List Loc) (ls : Array Slot), Wd G n x.2 H → LW G s H locs → lv_has ls 6 [(3, .int v10), (0, .ref (bb G + 244)), (1, .ref (bb G + (r0 + 214))), (2, .int x1), (4, .int v2), (5, .int x.1)] → W p l e (rmN 0 0) s m ([.ref (bb G + 244), .ref (bb G + (r0 + 214)), .int x1] : List Value).toArray below meth c H locs 0 0 (MQ below (QR G n (some (.int rR)) CR) ([.ref (bb G + 244), .ref (bb G + (r0 + 214)), .int x1] : List Value).toArray s 0 0 (frA G)) (F0 m 33 ls [])) (X := fun r => r = o14) ?_ fuel (v11, C3) o14 hit14 rfl _ _ _ hw hS (lv_sub hl [1, 2, 3, 4, 5, 0] rfl)
    intro x oo14 hF hk14 hX14 H locs ls hw hS hl
    obtain ⟨v12, C13⟩ := x
    have hF : S_X9_drawOn_33 r0 v12 C13 = some oo14 := hF
    have hw : Wd G n C13 H := hw
    have hl : lv_has ls 6 [(3, .int v10), (0, .ref (bb G + 244)), (1, .ref (bb G + (r0 + 214))), (2, .int x1), (4, .int v2), (5, .int v12)] := hl
    unfold S_X9_drawOn_33 at hF
    refine lv_iload hx hb dX9_drawOn_33 (lv_at hl 5 rfl) ?_
    refine lv_if_le (tgt := 60) hx hb dX9_drawOn_35 (by decide) (fun h17 => ?_) (fun h17 => ?_)
    · have hF := it_t h17 hF
      exact hR14 _ _ _ _ _ (it_exit hF hX14).symm hw hS (lv_sub hl [0, 1, 2, 3, 4] rfl)
    · have hF := it_f h17 hF
      refine lv_aload_n hx hb dX9_drawOn_38 rfl (lv_at hl 2 rfl) ?_
      refine lv_bipush (v := 22) hx hb dX9_drawOn_39 (by decide) ?_
      refine lv_iload hx hb dX9_drawOn_41 (lv_at hl 5 rfl) ?_
      refine lv_iadd hx hb dX9_drawOn_43 ?_
      refine lv_aload_n hx hb dX9_drawOn_44 rfl (lv_at hl 2 rfl) ?_
      refine lv_bipush (v := 22) hx hb dX9_drawOn_45 (by decide) ?_
      refine lv_iload hx hb dX9_drawOn_47 (lv_at hl 5 rfl) ?_
      refine lv_iadd hx hb dX9_drawOn_49 ?_
      refine lv_iconst (v := 1) hx hb dX9_drawOn_50 (by decide) ?_
      refine lv_isub hx hb dX9_drawOn_51 ?_
      obtain ⟨g18, hF⟩ := gi_t hF
      refine ld_marr hC hw (by omega) hr0 g18 dX9_drawOn_52 ?_
      obtain ⟨g19, hF⟩ := gi_t hF
      refine st_marr hC hw hS (by omega) hn2 hr0 g19 dX9_drawOn_53 (fun H locs hw hS _ => ?_)
      obtain ⟨C20, eC20, hF⟩ := nm_t hF
      have hw := Wd.cast eC20 hw
      obtain ⟨v21, ev21, hF⟩ := nm_t hF
      refine lv_iinc (v := v21) (lv' := [(5, .int v21), (3, .int v10), (0, .ref (bb G + 244)), (1, .ref (bb G + (r0 + 214))), (2, .int x1), (4, .int v2)]) hx hb dX9_drawOn_54 hl (k := 5) rfl (by rw [ev21]; rfl) (by decide) rfl (fun ls hl => ?_)
      refine lv_goto (tgt := 33) hx hb dX9_drawOn_57 (by decide) ?_
      exact it_back hF hk14 _ _ _ hw hS (lv_sub hl [1, 2, 3, 4, 5, 0] rfl)
set_option maxHeartbeats 4000000 in
set_option maxRecDepth 100000 in
theorem c_X9_startOn (l : Launch) (G : GG) (n : Nat) (hn : 252 ≤ n) (hn2 : n ≤ 253) (r0 : Nat) (hr0 : 31 ≤ r0 ∧ r0 ≤ 36) (x1 : Int32) (C : Mem) (rR : Int32) (CR : Mem) (hF : F_X9_startOn r0 x1 C = some (rR, CR)) : Ct l yX9_startOn cX9_startOn 4 none (rmN 1 20) G n C [.ref (bb G + 244), .ref (bb G + (r0 + 214)), .int x1] none CR := by
  refine Ct.of (by decide) (Nat.le_of_ble_eq_true rfl) ?_
  intro p e s m below meth c ls hC hr hlk hw hl
  have hx := hC.1
  have hb := hC.2.1
  have hS : LW G s s.heap [] := va_S.rf
  have hl : lv_has ls 4 [(0, .ref (bb G + 244)), (1, .ref (bb G + (r0 + 214))), (2, .int x1)] := hl
  unfold F_X9_startOn at hF
  refine lv_aload_n hx hb dX9_startOn_0 rfl (lv_at hl 1 rfl) ?_
  refine lv_iload_n hx hb dX9_startOn_1 rfl (lv_at hl 2 rfl) ?_
  obtain ⟨r1, C2, hc3, hF⟩ := b2_t hF
  refine call_Si hC (c_X9_at l G n (by omega) hn2 x1 _ _ _ hc3) wsX9_68 ⟨rfl, rfl, by decide, by decide⟩ hw hS hl.1 rfl (rest := [.ref (bb G + (r0 + 214))]) rfl (Nat.le_of_ble_eq_true rfl) dX9_startOn_2 ⟨by decide, by decide⟩ (fun H locs hw hS _ => ?_)
  refine lv_iconst (v := 2) hx hb dX9_startOn_5 (by decide) ?_
  refine lv_iadd hx hb dX9_startOn_6 ?_
  obtain ⟨g4, hF⟩ := gi_t hF
  refine ld_marr hC hw (by omega) hr0 g4 dX9_startOn_7 ?_
  have hJ16 : ∀ (v6 : Int32) (H : Heap) (locs : List Loc) (ls : Array Slot), J_X9_startOn_16 r0 x1 C2 v6 = some (rR, CR) → Wd G n C2 H → LW G s H locs → lv_has ls 4 [(1, .ref (bb G + (r0 + 214))), (2, .int x1)] → W p l e (rmN 1 20) s m ([.ref (bb G + 244), .ref (bb G + (r0 + 214)), .int x1] : List Value).toArray below meth c H locs 0 0 (MQ below (QR G n none CR) ([.ref (bb G + 244), .ref (bb G + (r0 + 214)), .int x1] : List Value).toArray s 0 0 (frA G)) (F0 m 16 ls [.int v6]) := by
    intro v6 H locs ls hF hw hS hl
    unfold J_X9_startOn_16 at hF
    refine lv_istore_n (lv' := [(3, .int v6), (1, .ref (bb G + (r0 + 214))), (2, .int x1)]) hx hb dX9_startOn_16 rfl hl (by decide) rfl (fun ls hl => ?_)
    refine lv_aload_n hx hb dX9_startOn_17 rfl (lv_at hl 1 rfl) ?_
    refine lv_iload_n hx hb dX9_startOn_18 rfl (lv_at hl 2 rfl) ?_
    obtain ⟨r7, C8, hc9, hF⟩ := b2_t hF
    refine call_Si hC (c_X9_at l G n (by omega) hn2 x1 _ _ _ hc9) wsX9_68 ⟨rfl, rfl, by decide, by decide⟩ hw hS hl.1 rfl (rest := [.ref (bb G + (r0 + 214))]) rfl (Nat.le_of_ble_eq_true rfl) dX9_startOn_19 ⟨by decide, by decide⟩ (fun H locs hw hS _ => ?_)
    refine lv_iconst (v := 2) hx hb dX9_startOn_22 (by decide) ?_
    refine lv_iadd hx hb dX9_startOn_23 ?_
    refine lv_iload_n hx hb dX9_startOn_24 rfl (lv_at hl 0 rfl) ?_
    have hJ33 : ∀ (v11 : Int32) (H : Heap) (locs : List Loc) (ls : Array Slot), J_X9_startOn_33 r0 x1 v6 r7 C8 v11 = some (rR, CR) → Wd G n C8 H → LW G s H locs → lv_has ls 4 [(1, .ref (bb G + (r0 + 214))), (2, .int x1), (3, .int v6)] → W p l e (rmN 1 20) s m ([.ref (bb G + 244), .ref (bb G + (r0 + 214)), .int x1] : List Value).toArray below meth c H locs 0 0 (MQ below (QR G n none CR) ([.ref (bb G + 244), .ref (bb G + (r0 + 214)), .int x1] : List Value).toArray s 0 0 (frA G)) (F0 m 33 ls [.int v11, .int (r7 + (2 : Int32)), .ref (bb G + (r0 + 214))]) := by
      intro v11 H locs ls hF hw hS hl
      unfold J_X9_startOn_33 at hF
      obtain ⟨g12, hF⟩ := gi_t hF
      refine st_marr hC hw hS (by omega) hn2 hr0 g12 dX9_startOn_33 (fun H locs hw hS _ => ?_)
      obtain ⟨C13, eC13, hF⟩ := nm_t hF
      have hw := Wd.cast eC13 hw
      refine lv_aload_n hx hb dX9_startOn_34 rfl (lv_at hl 0 rfl) ?_
      refine lv_iload_n hx hb dX9_startOn_35 rfl (lv_at hl 1 rfl) ?_
      obtain ⟨r14, C15, hc16, hF⟩ := b2_t hF
      refine call_Si hC (c_X9_at l G n (by omega) hn2 x1 _ _ _ hc16) wsX9_68 ⟨rfl, rfl, by decide, by decide⟩ hw hS hl.1 rfl (rest := [.ref (bb G + (r0 + 214))]) rfl (Nat.le_of_ble_eq_true rfl) dX9_startOn_36 ⟨by decide, by decide⟩ (fun H locs hw hS _ => ?_)
      refine lv_iconst (v := 3) hx hb dX9_startOn_39 (by decide) ?_
      refine lv_iadd hx hb dX9_startOn_40 ?_
      refine lv_iload_n hx hb dX9_startOn_41 rfl (lv_at hl 2 rfl) ?_
      have hJ52 : ∀ (v18 : Int32) (H : Heap) (locs : List Loc) (ls : Array Slot), J_X9_startOn_52 r0 x1 r14 C15 v18 = some (rR, CR) → Wd G n C15 H → LW G s H locs → lv_has ls 4 [(1, .ref (bb G + (r0 + 214))), (2, .int x1)] → W p l e (rmN 1 20) s m ([.ref (bb G + 244), .ref (bb G + (r0 + 214)), .int x1] : List Value).toArray below meth c H locs 0 0 (MQ below (QR G n none CR) ([.ref (bb G + 244), .ref (bb G + (r0 + 214)), .int x1] : List Value).toArray s 0 0 (frA G)) (F0 m 52 ls [.int v18, .int (r14 + (3 : Int32)), .ref (bb G + (r0 + 214))]) := by
        intro v18 H locs ls hF hw hS hl
        unfold J_X9_startOn_52 at hF
        obtain ⟨g19, hF⟩ := gi_t hF
        refine st_marr hC hw hS (by omega) hn2 hr0 g19 dX9_startOn_52 (fun H locs hw hS _ => ?_)
        obtain ⟨C20, eC20, hF⟩ := nm_t hF
        have hw := Wd.cast eC20 hw
        refine lv_aload_n hx hb dX9_startOn_53 rfl (lv_at hl 0 rfl) ?_
        refine lv_iload_n hx hb dX9_startOn_54 rfl (lv_at hl 1 rfl) ?_
        obtain ⟨r21, C22, hc23, hF⟩ := b2_t hF
        refine call_Si hC (c_X9_at l G n (by omega) hn2 x1 _ _ _ hc23) wsX9_68 ⟨rfl, rfl, by decide, by decide⟩ hw hS hl.1 rfl (rest := [.ref (bb G + (r0 + 214))]) rfl (Nat.le_of_ble_eq_true rfl) dX9_startOn_55 ⟨by decide, by decide⟩ (fun H locs hw hS _ => ?_)
        refine lv_iconst (v := 5) hx hb dX9_startOn_58 (by decide) ?_
        refine lv_iadd hx hb dX9_startOn_59 ?_
        refine lv_dup2_11 hx hb dX9_startOn_60 rfl rfl ?_
        obtain ⟨g24, hF⟩ := gi_t hF
        refine ld_marr hC hw (by omega) hr0 g24 dX9_startOn_61 ?_
        refine lv_iconst (v := 1) hx hb dX9_startOn_62 (by decide) ?_
        refine lv_iadd hx hb dX9_startOn_63 ?_
        obtain ⟨g25, hF⟩ := gi_t hF
        refine st_marr hC hw hS (by omega) hn2 hr0 g25 dX9_startOn_64 (fun H locs hw hS _ => ?_)
        obtain ⟨C26, eC26, hF⟩ := nm_t hF
        have hw := Wd.cast eC26 hw
        exact m_vret hC hr hlk hw hS dX9_startOn_65 hF
      refine lv_if_eq (tgt := 51) hx hb dX9_startOn_42 (by decide) (fun h17 => ?_) (fun h17 => ?_)
      · have hF := it_t h17 hF
        refine lv_iconst (v := 0) hx hb dX9_startOn_51 (by decide) ?_
        exact hJ52 (0 : Int32) _ _ _ hF hw hS (lv_sub hl [0, 1] rfl)
      · have hF := it_f h17 hF
        refine lv_aload_n hx hb dX9_startOn_45 rfl (lv_at hl 0 rfl) ?_
        refine lv_iconst (v := 2) hx hb dX9_startOn_46 (by decide) ?_
        obtain ⟨g27, hF⟩ := gi_t hF
        refine ld_marr hC hw (by omega) hr0 g27 dX9_startOn_47 ?_
        refine lv_goto (tgt := 52) hx hb dX9_startOn_48 (by decide) ?_
        exact hJ52 (C15 r0 ((2 : Int32)).toNatClampNeg) _ _ _ hF hw hS (lv_sub hl [0, 1] rfl)
    refine lv_if_eq (tgt := 32) hx hb dX9_startOn_25 (by decide) (fun h10 => ?_) (fun h10 => ?_)
    · have hF := it_t h10 hF
      refine lv_iconst (v := 2) hx hb dX9_startOn_32 (by decide) ?_
      exact hJ33 (2 : Int32) _ _ _ hF hw hS (lv_sub hl [1, 2, 0] rfl)
    · have hF := it_f h10 hF
      refine lv_iconst (v := 1) hx hb dX9_startOn_28 (by decide) ?_
      refine lv_goto (tgt := 33) hx hb dX9_startOn_29 (by decide) ?_
      exact hJ33 (1 : Int32) _ _ _ hF hw hS (lv_sub hl [1, 2, 0] rfl)
  refine lv_if_ne (tgt := 15) hx hb dX9_startOn_8 (by decide) (fun h5 => ?_) (fun h5 => ?_)
  · have hF := it_f h5 hF
    refine lv_iconst (v := 0) hx hb dX9_startOn_15 (by decide) ?_
    exact hJ16 (0 : Int32) _ _ _ hF hw hS (lv_sub hl [1, 2] rfl)
  · have hF := it_t h5 hF
    refine lv_iconst (v := 1) hx hb dX9_startOn_11 (by decide) ?_
    refine lv_goto (tgt := 16) hx hb dX9_startOn_12 (by decide) ?_
    exact hJ16 (1 : Int32) _ _ _ hF hw hS (lv_sub hl [1, 2] rfl)
set_option maxHeartbeats 4000000 in
set_option maxRecDepth 100000 in
theorem c_X9_reasonOf (l : Launch) (G : GG) (n : Nat) (hn : 252 ≤ n) (hn2 : n ≤ 253) (r0 : Nat) (hr0 : 31 ≤ r0 ∧ r0 ≤ 36) (C : Mem) (rR : Int32) (CR : Mem) (hF : F_X9_reasonOf r0 C = some (rR, CR)) : Ct l yX9_reasonOf cX9_reasonOf 4 (some .int) (rmN 1 20) G n C [.ref (bb G + 244), .ref (bb G + (r0 + 214))] (some (.int rR)) CR := by
  refine Ct.of (by decide) (Nat.le_of_ble_eq_true rfl) ?_
  intro p e s m below meth c ls hC hr hlk hw hl
  have hx := hC.1
  have hb := hC.2.1
  have hS : LW G s s.heap [] := va_S.rf
  have hl : lv_has ls 4 [(0, .ref (bb G + 244)), (1, .ref (bb G + (r0 + 214)))] := hl
  unfold F_X9_reasonOf at hF
  refine lv_iconst (v := 3) hx hb dX9_reasonOf_0 (by decide) ?_
  refine lv_istore_n (lv' := [(2, .int (3 : Int32)), (0, .ref (bb G + 244)), (1, .ref (bb G + (r0 + 214)))]) hx hb dX9_reasonOf_1 rfl hl (by decide) rfl (fun ls hl => ?_)
  refine lv_iconst (v := 0) hx hb dX9_reasonOf_2 (by decide) ?_
  refine lv_istore_n (lv' := [(3, .int (0 : Int32)), (2, .int (3 : Int32)), (0, .ref (bb G + 244)), (1, .ref (bb G + (r0 + 214)))]) hx hb dX9_reasonOf_3 rfl hl (by decide) rfl (fun ls hl => ?_)
  obtain ⟨o4, hit4, hG4⟩ := b1_t hF
  have hR4 : ∀ (v5 : Int32) (v6 : Int32) (C7 : Mem) (H : Heap) (locs : List Loc) (ls : Array Slot), o4 = (v5, v6, C7) → Wd G n C7 H → LW G s H locs → lv_has ls 4 [(2, .int v5)] → W p l e (rmN 1 20) s m ([.ref (bb G + 244), .ref (bb G + (r0 + 214))] : List Value).toArray below meth c H locs 0 0 (MQ below (QR G n (some (.int rR)) CR) ([.ref (bb G + 244), .ref (bb G + (r0 + 214))] : List Value).toArray s 0 0 (frA G)) (F0 m 64 ls []) := by
    intro v5 v6 C7 H locs ls hE hw hS hl
    subst hE
    have hF := u3_t (hG4)
    refine lv_iload_n hx hb dX9_reasonOf_64 rfl (lv_at hl 0 rfl) ?_
    exact m_iret hC hr hlk hw hS dX9_reasonOf_65 hF
  refine iter_sound (P := fun x : Int32 × Int32 × Mem => ∀ (H : Heap) (locs : List Loc) (ls : Array Slot), Wd G n x.2.2 H → LW G s H locs → lv_has ls 4 [(0, .ref (bb G + 244)), (1, .ref (bb G + (r0 + 214))), (2, .int x.1), (3, .int x.2.1)] → W p l e (rmN 1 20) s m ([.ref (bb G + 244), .ref (bb G + (r0 + 214))] : List Value).toArray below meth c H locs 0 0 (MQ below (QR G n (some (.int rR)) CR) ([.ref (bb G + 244), .ref (bb G + (r0 + 214))] : List Value).toArray s 0 0 (frA G)) (F0 m 4 ls [])) (X := fun r => r = o4) ?_ fuel ((3 : Int32), (0 : Int32), C) o4 hit4 rfl _ _ _ hw hS (lv_sub hl [2, 3, 1, 0] rfl)
  intro x oo4 hF hk4 hX4 H locs ls hw hS hl
  obtain ⟨v1, v2, C3⟩ := x
  have hF : S_X9_reasonOf_4 r0 v1 v2 C3 = some oo4 := hF
  have hw : Wd G n C3 H := hw
  have hl : lv_has ls 4 [(0, .ref (bb G + 244)), (1, .ref (bb G + (r0 + 214))), (2, .int v1), (3, .int v2)] := hl
  unfold S_X9_reasonOf_4 at hF
  refine lv_iload_n hx hb dX9_reasonOf_4 rfl (lv_at hl 3 rfl) ?_
  refine lv_aload_n hx hb dX9_reasonOf_5 rfl (lv_at hl 0 rfl) ?_
  refine gX9_13 hC hw (by omega)  dX9_reasonOf_6 ?_
  refine lv_icmp_ge (tgt := 64) hx hb dX9_reasonOf_9 (by decide) (fun h8 => ?_) (fun h8 => ?_)
  · have hF := it_t h8 hF
    exact hR4 _ _ _ _ _ _ (it_exit hF hX4).symm hw hS (lv_sub hl [2] rfl)
  · have hF := it_f h8 hF
    refine lv_aload_n hx hb dX9_reasonOf_12 rfl (lv_at hl 1 rfl) ?_
    refine lv_iload_n hx hb dX9_reasonOf_13 rfl (lv_at hl 3 rfl) ?_
    obtain ⟨r9, C10, hc11, hF⟩ := b2_t hF
    refine call_Si hC (c_X9_at l G n (by omega) hn2 v2 _ _ _ hc11) wsX9_68 ⟨rfl, rfl, by decide, by decide⟩ hw hS hl.1 rfl (rest := [.ref (bb G + (r0 + 214))]) rfl (Nat.le_of_ble_eq_true rfl) dX9_reasonOf_14 ⟨by decide, by decide⟩ (fun H locs hw hS _ => ?_)
    refine lv_iconst (v := 2) hx hb dX9_reasonOf_17 (by decide) ?_
    refine lv_iadd hx hb dX9_reasonOf_18 ?_
    obtain ⟨g12, hF⟩ := gi_t hF
    refine ld_marr hC hw (by omega) hr0 g12 dX9_reasonOf_19 ?_
    obtain ⟨r13, C14, hc15, hF⟩ := b2_t hF
    refine call_Si hC (c_X9_idles l G n (by omega) hn2 (C10 r0 ((r9 + (2 : Int32))).toNatClampNeg) _ _ _ hc15) wsX9_80 ⟨rfl, rfl, by decide, by decide⟩ hw hS hl.1 rfl (rest := []) rfl (Nat.le_of_ble_eq_true rfl) dX9_reasonOf_20 ⟨by decide, by decide⟩ (fun H locs hw hS _ => ?_)
    refine lv_if_eq (tgt := 58) hx hb dX9_reasonOf_23 (by decide) (fun h16 => ?_) (fun h16 => ?_)
    · have hF := it_t h16 hF
      obtain ⟨v17, ev17, hF⟩ := nm_t hF
      refine lv_iinc (v := v17) (lv' := [(3, .int v17), (0, .ref (bb G + 244)), (1, .ref (bb G + (r0 + 214))), (2, .int v1)]) hx hb dX9_reasonOf_58 hl (k := 3) rfl (by rw [ev17]; rfl) (by decide) rfl (fun ls hl => ?_)
      refine lv_goto (tgt := 4) hx hb dX9_reasonOf_61 (by decide) ?_
      exact it_back hF hk4 _ _ _ hw hS (lv_sub hl [1, 2, 3, 0] rfl)
    · have hF := it_f h16 hF
      refine lv_aload_n hx hb dX9_reasonOf_26 rfl (lv_at hl 1 rfl) ?_
      refine lv_bipush (v := 20) hx hb dX9_reasonOf_27 (by decide) ?_
      refine lv_aload_n hx hb dX9_reasonOf_29 rfl (lv_at hl 1 rfl) ?_
      refine lv_iload_n hx hb dX9_reasonOf_30 rfl (lv_at hl 3 rfl) ?_
      obtain ⟨r18, C19, hc20, hF⟩ := b2_t hF
      refine call_Si hC (c_X9_at l G n (by omega) hn2 v2 _ _ _ hc20) wsX9_68 ⟨rfl, rfl, by decide, by decide⟩ hw hS hl.1 rfl (rest := [.ref (bb G + (r0 + 214)), .int (20 : Int32), .ref (bb G + (r0 + 214))]) rfl (Nat.le_of_ble_eq_true rfl) dX9_reasonOf_31 ⟨by decide, by decide⟩ (fun H locs hw hS _ => ?_)
      refine lv_iconst (v := 1) hx hb dX9_reasonOf_34 (by decide) ?_
      refine lv_iadd hx hb dX9_reasonOf_35 ?_
      obtain ⟨g21, hF⟩ := gi_t hF
      refine ld_marr hC hw (by omega) hr0 g21 dX9_reasonOf_36 ?_
      refine lv_iadd hx hb dX9_reasonOf_37 ?_
      obtain ⟨g22, hF⟩ := gi_t hF
      refine ld_marr hC hw (by omega) hr0 g22 dX9_reasonOf_38 ?_
      refine lv_iconst (v := 1) hx hb dX9_reasonOf_39 (by decide) ?_
      refine lv_icmp_ne (tgt := 47) hx hb dX9_reasonOf_40 (by decide) (fun h23 => ?_) (fun h23 => ?_)
      · have hF := it_f h23 hF
        refine lv_iload_n hx hb dX9_reasonOf_47 rfl (lv_at hl 2 rfl) ?_
        refine lv_iconst (v := 1) hx hb dX9_reasonOf_48 (by decide) ?_
        refine lv_icmp_ne (tgt := 56) hx hb dX9_reasonOf_49 (by decide) (fun h24 => ?_) (fun h24 => ?_)
        · have hF := it_f h24 hF
          refine lv_iconst (v := 2) hx hb dX9_reasonOf_56 (by decide) ?_
          refine lv_istore_n (lv' := [(2, .int (2 : Int32)), (0, .ref (bb G + 244)), (1, .ref (bb G + (r0 + 214))), (3, .int v2)]) hx hb dX9_reasonOf_57 rfl hl (by decide) rfl (fun ls hl => ?_)
          obtain ⟨v25, ev25, hF⟩ := nm_t hF
          refine lv_iinc (v := v25) (lv' := [(3, .int v25), (2, .int (2 : Int32)), (0, .ref (bb G + 244)), (1, .ref (bb G + (r0 + 214)))]) hx hb dX9_reasonOf_58 hl (k := 3) rfl (by rw [ev25]; rfl) (by decide) rfl (fun ls hl => ?_)
          refine lv_goto (tgt := 4) hx hb dX9_reasonOf_61 (by decide) ?_
          exact it_back hF hk4 _ _ _ hw hS (lv_sub hl [2, 3, 1, 0] rfl)
        · have hF := it_t h24 hF
          refine lv_iconst (v := 1) hx hb dX9_reasonOf_52 (by decide) ?_
          refine lv_goto (tgt := 57) hx hb dX9_reasonOf_53 (by decide) ?_
          refine lv_istore_n (lv' := [(2, .int (1 : Int32)), (0, .ref (bb G + 244)), (1, .ref (bb G + (r0 + 214))), (3, .int v2)]) hx hb dX9_reasonOf_57 rfl hl (by decide) rfl (fun ls hl => ?_)
          obtain ⟨v26, ev26, hF⟩ := nm_t hF
          refine lv_iinc (v := v26) (lv' := [(3, .int v26), (2, .int (1 : Int32)), (0, .ref (bb G + 244)), (1, .ref (bb G + (r0 + 214)))]) hx hb dX9_reasonOf_58 hl (k := 3) rfl (by rw [ev26]; rfl) (by decide) rfl (fun ls hl => ?_)
          refine lv_goto (tgt := 4) hx hb dX9_reasonOf_61 (by decide) ?_
          exact it_back hF hk4 _ _ _ hw hS (lv_sub hl [2, 3, 1, 0] rfl)
      · have hF := it_t h23 hF
        refine lv_iconst (v := 1) hx hb dX9_reasonOf_43 (by decide) ?_
        refine lv_goto (tgt := 57) hx hb dX9_reasonOf_44 (by decide) ?_
        refine lv_istore_n (lv' := [(2, .int (1 : Int32)), (0, .ref (bb G + 244)), (1, .ref (bb G + (r0 + 214))), (3, .int v2)]) hx hb dX9_reasonOf_57 rfl hl (by decide) rfl (fun ls hl => ?_)
        obtain ⟨v27, ev27, hF⟩ := nm_t hF
        refine lv_iinc (v := v27) (lv' := [(3, .int v27), (2, .int (1 : Int32)), (0, .ref (bb G + 244)), (1, .ref (bb G + (r0 + 214)))]) hx hb dX9_reasonOf_58 hl (k := 3) rfl (by rw [ev27]; rfl) (by decide) rfl (fun ls hl => ?_)
        refine lv_goto (tgt := 4) hx hb dX9_reasonOf_61 (by decide) ?_
        exact it_back hF hk4 _ _ _ hw hS (lv_sub hl [2, 3, 1, 0] rfl)
set_option maxHeartbeats 4000000 in
set_option maxRecDepth 100000 in
theorem c_X9_control (l : Launch) (G : GG) (n : Nat) (hn : 252 ≤ n) (hn2 : n ≤ 253) (r0 : Nat) (hr0 : 31 ≤ r0 ∧ r0 ≤ 36) (C : Mem) (rR : Int32) (CR : Mem) (hF : F_X9_control r0 C = some (rR, CR)) : Ct l yX9_control cX9_control 7 none (rmN 4 91) G n C [.ref (bb G + 244), .ref (bb G + (r0 + 214))] none CR := by
  refine Ct.of (by decide) (Nat.le_of_ble_eq_true rfl) ?_
  intro p e s m below meth c ls hC hr hlk hw hl
  have hx := hC.1
  have hb := hC.2.1
  have hS : LW G s s.heap [] := va_S.rf
  have hl : lv_has ls 7 [(0, .ref (bb G + 244)), (1, .ref (bb G + (r0 + 214)))] := hl
  unfold F_X9_control at hF
  refine lv_aload_n hx hb dX9_control_0 rfl (lv_at hl 1 rfl) ?_
  refine lv_bipush (v := 8) hx hb dX9_control_1 (by decide) ?_
  obtain ⟨g1, hF⟩ := gi_t hF
  refine ld_marr hC hw (by omega) hr0 g1 dX9_control_3 ?_
  refine lv_iconst (v := 1) hx hb dX9_control_4 (by decide) ?_
  have hJ17 : ∀ (v3 : Int32) (H : Heap) (locs : List Loc) (ls : Array Slot), J_X9_control_17 r0 C v3 = some (rR, CR) → Wd G n C H → LW G s H locs → lv_has ls 7 [(0, .ref (bb G + 244)), (1, .ref (bb G + (r0 + 214)))] → W p l e (rmN 4 91) s m ([.ref (bb G + 244), .ref (bb G + (r0 + 214))] : List Value).toArray below meth c H locs 0 0 (MQ below (QR G n none CR) ([.ref (bb G + 244), .ref (bb G + (r0 + 214))] : List Value).toArray s 0 0 (frA G)) (F0 m 17 ls [.int v3]) := by
    intro v3 H locs ls hF hw hS hl
    unfold J_X9_control_17 at hF
    refine lv_istore_n (lv' := [(2, .int v3), (0, .ref (bb G + 244)), (1, .ref (bb G + (r0 + 214)))]) hx hb dX9_control_17 rfl hl (by decide) rfl (fun ls hl => ?_)
    refine lv_aload_n hx hb dX9_control_18 rfl (lv_at hl 1 rfl) ?_
    refine lv_aload_n hx hb dX9_control_19 rfl (lv_at hl 2 rfl) ?_
    obtain ⟨r4, C5, hc6, hF⟩ := b2_t hF
    refine call_Vi hC (c_X9_meanOf l G n (by omega) hn2 r0 hr0 _ _ _ hc6) wvX9_87 ⟨rfl, rfl, by decide, by decide⟩ hw hS (by omega) ca_model rfl hl.1 rfl (rest := []) rfl (Nat.le_of_ble_eq_true rfl) dX9_control_20 ⟨by decide, by decide⟩ (fun H locs hw hS _ => ?_)
    refine lv_istore_n (lv' := [(3, .int r4), (2, .int v3), (0, .ref (bb G + 244)), (1, .ref (bb G + (r0 + 214)))]) hx hb dX9_control_23 rfl hl (by decide) rfl (fun ls hl => ?_)
    refine lv_aload_n hx hb dX9_control_24 rfl (lv_at hl 3 rfl) ?_
    refine lv_bipush (v := 7) hx hb dX9_control_25 (by decide) ?_
    refine lv_iconst (v := 0) hx hb dX9_control_27 (by decide) ?_
    obtain ⟨g7, hF⟩ := gi_t hF
    refine st_marr hC hw hS (by omega) hn2 hr0 g7 dX9_control_28 (fun H locs hw hS _ => ?_)
    obtain ⟨C8, eC8, hF⟩ := nm_t hF
    have hw := Wd.cast eC8 hw
    refine lv_iload_n hx hb dX9_control_29 rfl (lv_at hl 0 rfl) ?_
    refine lv_iload_n hx hb dX9_control_30 rfl (lv_at hl 1 rfl) ?_
    refine lv_aload_n hx hb dX9_control_31 rfl (lv_at hl 3 rfl) ?_
    refine lv_iconst (v := 1) hx hb dX9_control_32 (by decide) ?_
    obtain ⟨g9, hF⟩ := gi_t hF
    refine ld_marr hC hw (by omega) hr0 g9 dX9_control_33 ?_
    refine lv_isub hx hb dX9_control_34 ?_
    refine lv_icmp_ge (tgt := 74) hx hb dX9_control_35 (by decide) (fun h10 => ?_) (fun h10 => ?_)
    · have hF := it_t h10 hF
      refine lv_iload_n hx hb dX9_control_74 rfl (lv_at hl 0 rfl) ?_
      refine lv_iload_n hx hb dX9_control_75 rfl (lv_at hl 1 rfl) ?_
      refine lv_aload_n hx hb dX9_control_76 rfl (lv_at hl 3 rfl) ?_
      refine lv_iconst (v := 1) hx hb dX9_control_77 (by decide) ?_
      obtain ⟨g11, hF⟩ := gi_t hF
      refine ld_marr hC hw (by omega) hr0 g11 dX9_control_78 ?_
      refine lv_iadd hx hb dX9_control_79 ?_
      refine lv_icmp_le (tgt := 184) hx hb dX9_control_80 (by decide) (fun h12 => ?_) (fun h12 => ?_)
      · have hF := it_t h12 hF
        exact m_vret hC hr hlk hw hS dX9_control_184 hF
      · have hF := it_f h12 hF
        refine lv_bipush (v := -9) hx hb dX9_control_83 (by decide) ?_
        refine lv_istore (lv' := [(4, .int (-9 : Int32)), (3, .int r4), (2, .int v3), (0, .ref (bb G + 244)), (1, .ref (bb G + (r0 + 214)))]) hx hb dX9_control_85 hl (by decide) rfl (fun ls hl => ?_)
        refine lv_iconst (v := 0) hx hb dX9_control_87 (by decide) ?_
        refine lv_istore (lv' := [(5, .int (0 : Int32)), (4, .int (-9 : Int32)), (3, .int r4), (2, .int v3), (0, .ref (bb G + 244)), (1, .ref (bb G + (r0 + 214)))]) hx hb dX9_control_88 hl (by decide) rfl (fun ls hl => ?_)
        obtain ⟨o16, hit16, hG16⟩ := b1_t hF
        have hR16 : ∀ (v17 : Int32) (v18 : Int32) (C19 : Mem) (H : Heap) (locs : List Loc) (ls : Array Slot), o16 = (v17, v18, C19) → Wd G n C19 H → LW G s H locs → lv_has ls 7 [(1, .ref (bb G + (r0 + 214))), (4, .int v17)] → W p l e (rmN 4 91) s m ([.ref (bb G + 244), .ref (bb G + (r0 + 214))] : List Value).toArray below meth c H locs 0 0 (MQ below (QR G n none CR) ([.ref (bb G + 244), .ref (bb G + (r0 + 214))] : List Value).toArray s 0 0 (frA G)) (F0 m 167 ls []) := by
          intro v17 v18 C19 H locs ls hE hw hS hl
          subst hE
          have hF := u3_t (hG16)
          refine lv_iload hx hb dX9_control_167 (lv_at hl 1 rfl) ?_
          refine lv_bipush (v := -9) hx hb dX9_control_169 (by decide) ?_
          refine lv_icmp_eq (tgt := 184) hx hb dX9_control_171 (by decide) (fun h42 => ?_) (fun h42 => ?_)
          · have hF := it_t h42 hF
            exact m_vret hC hr hlk hw hS dX9_control_184 hF
          · have hF := it_f h42 hF
            refine lv_aload_n hx hb dX9_control_174 rfl (lv_at hl 0 rfl) ?_
            refine lv_iload hx hb dX9_control_175 (lv_at hl 1 rfl) ?_
            obtain ⟨r43, C44, hc45, hF⟩ := b2_t hF
            refine call_Si hC (c_X9_at l G n (by omega) hn2 v17 _ _ _ hc45) wsX9_68 ⟨rfl, rfl, by decide, by decide⟩ hw hS hl.1 rfl (rest := [.ref (bb G + (r0 + 214))]) rfl (Nat.le_of_ble_eq_true rfl) dX9_control_177 ⟨by decide, by decide⟩ (fun H locs hw hS _ => ?_)
            refine lv_iconst (v := 2) hx hb dX9_control_180 (by decide) ?_
            refine lv_iadd hx hb dX9_control_181 ?_
            refine lv_iconst (v := 3) hx hb dX9_control_182 (by decide) ?_
            obtain ⟨g46, hF⟩ := gi_t hF
            refine st_marr hC hw hS (by omega) hn2 hr0 g46 dX9_control_183 (fun H locs hw hS _ => ?_)
            obtain ⟨C47, eC47, hF⟩ := nm_t hF
            have hw := Wd.cast eC47 hw
            exact m_vret hC hr hlk hw hS dX9_control_184 hF
        refine iter_sound (P := fun x : Int32 × Int32 × Mem => ∀ (H : Heap) (locs : List Loc) (ls : Array Slot), Wd G n x.2.2 H → LW G s H locs → lv_has ls 7 [(0, .ref (bb G + 244)), (1, .ref (bb G + (r0 + 214))), (4, .int x.1), (5, .int x.2.1)] → W p l e (rmN 4 91) s m ([.ref (bb G + 244), .ref (bb G + (r0 + 214))] : List Value).toArray below meth c H locs 0 0 (MQ below (QR G n none CR) ([.ref (bb G + 244), .ref (bb G + (r0 + 214))] : List Value).toArray s 0 0 (frA G)) (F0 m 90 ls [])) (X := fun r => r = o16) ?_ fuel ((-9 : Int32), (0 : Int32), C8) o16 hit16 rfl _ _ _ hw hS (lv_sub hl [4, 5, 1, 0] rfl)
        intro x oo16 hF hk16 hX16 H locs ls hw hS hl
        obtain ⟨v13, v14, C15⟩ := x
        have hF : S_X9_control_90 r0 v13 v14 C15 = some oo16 := hF
        have hw : Wd G n C15 H := hw
        have hl : lv_has ls 7 [(0, .ref (bb G + 244)), (1, .ref (bb G + (r0 + 214))), (4, .int v13), (5, .int v14)] := hl
        unfold S_X9_control_90 at hF
        refine lv_iload hx hb dX9_control_90 (lv_at hl 3 rfl) ?_
        refine lv_aload_n hx hb dX9_control_92 rfl (lv_at hl 0 rfl) ?_
        refine gX9_13 hC hw (by omega)  dX9_control_93 ?_
        refine lv_icmp_ge (tgt := 167) hx hb dX9_control_96 (by decide) (fun h20 => ?_) (fun h20 => ?_)
        · have hF := it_t h20 hF
          exact hR16 _ _ _ _ _ _ (it_exit hF hX16).symm hw hS (lv_sub hl [1, 2] rfl)
        · have hF := it_f h20 hF
          refine lv_aload_n hx hb dX9_control_99 rfl (lv_at hl 1 rfl) ?_
          refine lv_iload hx hb dX9_control_100 (lv_at hl 3 rfl) ?_
          obtain ⟨r21, C22, hc23, hF⟩ := b2_t hF
          refine call_Si hC (c_X9_at l G n (by omega) hn2 v14 _ _ _ hc23) wsX9_68 ⟨rfl, rfl, by decide, by decide⟩ hw hS hl.1 rfl (rest := [.ref (bb G + (r0 + 214))]) rfl (Nat.le_of_ble_eq_true rfl) dX9_control_102 ⟨by decide, by decide⟩ (fun H locs hw hS _ => ?_)
          refine lv_iconst (v := 2) hx hb dX9_control_105 (by decide) ?_
          refine lv_iadd hx hb dX9_control_106 ?_
          obtain ⟨g24, hF⟩ := gi_t hF
          refine ld_marr hC hw (by omega) hr0 g24 dX9_control_107 ?_
          refine lv_iconst (v := 2) hx hb dX9_control_108 (by decide) ?_
          have hJ117 : ∀ (v26 : Int32) (H : Heap) (locs : List Loc) (ls : Array Slot), J_X9_control_117 r0 v13 v14 C22 v26 = some oo16 → Wd G n C22 H → LW G s H locs → lv_has ls 7 [(0, .ref (bb G + 244)), (1, .ref (bb G + (r0 + 214))), (4, .int v13), (5, .int v14)] → W p l e (rmN 4 91) s m ([.ref (bb G + 244), .ref (bb G + (r0 + 214))] : List Value).toArray below meth c H locs 0 0 (MQ below (QR G n none CR) ([.ref (bb G + 244), .ref (bb G + (r0 + 214))] : List Value).toArray s 0 0 (frA G)) (F0 m 117 ls [.int v26]) := by
            intro v26 H locs ls hF hw hS hl
            unfold J_X9_control_117 at hF
            refine lv_istore (lv' := [(6, .int v26), (0, .ref (bb G + 244)), (1, .ref (bb G + (r0 + 214))), (4, .int v13), (5, .int v14)]) hx hb dX9_control_117 hl (by decide) rfl (fun ls hl => ?_)
            refine lv_iload hx hb dX9_control_119 (lv_at hl 0 rfl) ?_
            refine lv_if_eq (tgt := 157) hx hb dX9_control_121 (by decide) (fun h27 => ?_) (fun h27 => ?_)
            · have hF := it_t h27 hF
              refine lv_iload hx hb dX9_control_157 (lv_at hl 3 rfl) ?_
              refine lv_istore (lv' := [(4, .int v13), (6, .int v26), (0, .ref (bb G + 244)), (1, .ref (bb G + (r0 + 214))), (5, .int v14)]) hx hb dX9_control_159 hl (by decide) rfl (fun ls hl => ?_)
              obtain ⟨v28, ev28, hF⟩ := nm_t hF
              refine lv_iinc (v := v28) (lv' := [(5, .int v28), (4, .int v13), (6, .int v26), (0, .ref (bb G + 244)), (1, .ref (bb G + (r0 + 214)))]) hx hb dX9_control_161 hl (k := 4) rfl (by rw [ev28]; rfl) (by decide) rfl (fun ls hl => ?_)
              refine lv_goto (tgt := 90) hx hb dX9_control_164 (by decide) ?_
              exact it_back hF hk16 _ _ _ hw hS (lv_sub hl [3, 4, 1, 0] rfl)
            · have hF := it_f h27 hF
              refine lv_iload hx hb dX9_control_124 (lv_at hl 3 rfl) ?_
              refine lv_bipush (v := -9) hx hb dX9_control_126 (by decide) ?_
              refine lv_icmp_eq (tgt := 152) hx hb dX9_control_128 (by decide) (fun h29 => ?_) (fun h29 => ?_)
              · have hF := it_t h29 hF
                refine lv_iload hx hb dX9_control_152 (lv_at hl 4 rfl) ?_
                refine lv_goto (tgt := 159) hx hb dX9_control_154 (by decide) ?_
                refine lv_istore (lv' := [(4, .int v14), (6, .int v26), (0, .ref (bb G + 244)), (1, .ref (bb G + (r0 + 214))), (5, .int v14)]) hx hb dX9_control_159 hl (by decide) rfl (fun ls hl => ?_)
                obtain ⟨v30, ev30, hF⟩ := nm_t hF
                refine lv_iinc (v := v30) (lv' := [(5, .int v30), (4, .int v14), (6, .int v26), (0, .ref (bb G + 244)), (1, .ref (bb G + (r0 + 214)))]) hx hb dX9_control_161 hl (k := 4) rfl (by rw [ev30]; rfl) (by decide) rfl (fun ls hl => ?_)
                refine lv_goto (tgt := 90) hx hb dX9_control_164 (by decide) ?_
                exact it_back hF hk16 _ _ _ hw hS (lv_sub hl [3, 4, 1, 0] rfl)
              · have hF := it_f h29 hF
                refine lv_aload_n hx hb dX9_control_131 rfl (lv_at hl 2 rfl) ?_
                refine lv_iload hx hb dX9_control_132 (lv_at hl 4 rfl) ?_
                obtain ⟨r31, C32, hc33, hF⟩ := b2_t hF
                refine call_Si hC (c_X9_at l G n (by omega) hn2 v14 _ _ _ hc33) wsX9_68 ⟨rfl, rfl, by decide, by decide⟩ hw hS hl.1 rfl (rest := [.ref (bb G + (r0 + 214))]) rfl (Nat.le_of_ble_eq_true rfl) dX9_control_134 ⟨by decide, by decide⟩ (fun H locs hw hS _ => ?_)
                refine lv_iconst (v := 4) hx hb dX9_control_137 (by decide) ?_
                refine lv_iadd hx hb dX9_control_138 ?_
                obtain ⟨g34, hF⟩ := gi_t hF
                refine ld_marr hC hw (by omega) hr0 g34 dX9_control_139 ?_
                refine lv_aload_n hx hb dX9_control_140 rfl (lv_at hl 2 rfl) ?_
                refine lv_iload hx hb dX9_control_141 (lv_at hl 3 rfl) ?_
                obtain ⟨r35, C36, hc37, hF⟩ := b2_t hF
                refine call_Si hC (c_X9_at l G n (by omega) hn2 v13 _ _ _ hc37) wsX9_68 ⟨rfl, rfl, by decide, by decide⟩ hw hS hl.1 rfl (rest := [.ref (bb G + (r0 + 214)), .int (C32 r0 ((r31 + (4 : Int32))).toNatClampNeg)]) rfl (Nat.le_of_ble_eq_true rfl) dX9_control_143 ⟨by decide, by decide⟩ (fun H locs hw hS _ => ?_)
                refine lv_iconst (v := 4) hx hb dX9_control_146 (by decide) ?_
                refine lv_iadd hx hb dX9_control_147 ?_
                obtain ⟨g38, hF⟩ := gi_t hF
                refine ld_marr hC hw (by omega) hr0 g38 dX9_control_148 ?_
                refine lv_icmp_lt (tgt := 157) hx hb dX9_control_149 (by decide) (fun h39 => ?_) (fun h39 => ?_)
                · have hF := it_t h39 hF
                  refine lv_iload hx hb dX9_control_157 (lv_at hl 3 rfl) ?_
                  refine lv_istore (lv' := [(4, .int v13), (6, .int v26), (0, .ref (bb G + 244)), (1, .ref (bb G + (r0 + 214))), (5, .int v14)]) hx hb dX9_control_159 hl (by decide) rfl (fun ls hl => ?_)
                  obtain ⟨v40, ev40, hF⟩ := nm_t hF
                  refine lv_iinc (v := v40) (lv' := [(5, .int v40), (4, .int v13), (6, .int v26), (0, .ref (bb G + 244)), (1, .ref (bb G + (r0 + 214)))]) hx hb dX9_control_161 hl (k := 4) rfl (by rw [ev40]; rfl) (by decide) rfl (fun ls hl => ?_)
                  refine lv_goto (tgt := 90) hx hb dX9_control_164 (by decide) ?_
                  exact it_back hF hk16 _ _ _ hw hS (lv_sub hl [3, 4, 1, 0] rfl)
                · have hF := it_f h39 hF
                  refine lv_iload hx hb dX9_control_152 (lv_at hl 4 rfl) ?_
                  refine lv_goto (tgt := 159) hx hb dX9_control_154 (by decide) ?_
                  refine lv_istore (lv' := [(4, .int v14), (6, .int v26), (0, .ref (bb G + 244)), (1, .ref (bb G + (r0 + 214))), (5, .int v14)]) hx hb dX9_control_159 hl (by decide) rfl (fun ls hl => ?_)
                  obtain ⟨v41, ev41, hF⟩ := nm_t hF
                  refine lv_iinc (v := v41) (lv' := [(5, .int v41), (4, .int v14), (6, .int v26), (0, .ref (bb G + 244)), (1, .ref (bb G + (r0 + 214)))]) hx hb dX9_control_161 hl (k := 4) rfl (by rw [ev41]; rfl) (by decide) rfl (fun ls hl => ?_)
                  refine lv_goto (tgt := 90) hx hb dX9_control_164 (by decide) ?_
                  exact it_back hF hk16 _ _ _ hw hS (lv_sub hl [3, 4, 1, 0] rfl)
          refine lv_icmp_ne (tgt := 116) hx hb dX9_control_109 (by decide) (fun h25 => ?_) (fun h25 => ?_)
          · have hF := it_f h25 hF
            refine lv_iconst (v := 0) hx hb dX9_control_116 (by decide) ?_
            exact hJ117 (0 : Int32) _ _ _ hF hw hS (lv_sub hl [0, 1, 2, 3] rfl)
          · have hF := it_t h25 hF
            refine lv_iconst (v := 1) hx hb dX9_control_112 (by decide) ?_
            refine lv_goto (tgt := 117) hx hb dX9_control_113 (by decide) ?_
            exact hJ117 (1 : Int32) _ _ _ hF hw hS (lv_sub hl [0, 1, 2, 3] rfl)
    · have hF := it_f h10 hF
      refine lv_aload_n hx hb dX9_control_38 rfl (lv_at hl 2 rfl) ?_
      refine lv_aload_n hx hb dX9_control_39 rfl (lv_at hl 3 rfl) ?_
      obtain ⟨r48, C49, hc50, hF⟩ := b2_t hF
      refine call_Vi hC (c_X9_nextOf l G n (by omega) hn2 r0 hr0 _ _ _ hc50) wvX9_91 ⟨rfl, rfl, by decide, by decide⟩ hw hS (by omega) ca_model rfl hl.1 rfl (rest := []) rfl (Nat.le_of_ble_eq_true rfl) dX9_control_40 ⟨by decide, by decide⟩ (fun H locs hw hS _ => ?_)
      refine lv_istore (lv' := [(4, .int r48), (3, .int r4), (2, .int v3), (0, .ref (bb G + 244)), (1, .ref (bb G + (r0 + 214)))]) hx hb dX9_control_43 hl (by decide) rfl (fun ls hl => ?_)
      refine lv_iload hx hb dX9_control_45 (lv_at hl 0 rfl) ?_
      refine lv_bipush (v := -9) hx hb dX9_control_47 (by decide) ?_
      refine lv_icmp_ne (tgt := 64) hx hb dX9_control_49 (by decide) (fun h51 => ?_) (fun h51 => ?_)
      · have hF := it_f h51 hF
        refine lv_aload_n hx hb dX9_control_64 rfl (lv_at hl 3 rfl) ?_
        refine lv_aload_n hx hb dX9_control_65 rfl (lv_at hl 4 rfl) ?_
        refine lv_iload hx hb dX9_control_66 (lv_at hl 0 rfl) ?_
        obtain ⟨r52, C53, hc54, hF⟩ := b2_t hF
        refine call_Vv hC (c_X9_startOn l G n (by omega) hn2 r0 hr0 r48 _ _ _ hc54) wvX9_97 ⟨rfl, rfl, by decide, by decide⟩ hw hS (by omega) ca_model rfl hl.1 rfl (rest := []) rfl (Nat.le_of_ble_eq_true rfl) dX9_control_68 ⟨by decide, by decide⟩ (fun H locs hw hS _ => ?_)
        refine lv_goto (tgt := 184) hx hb dX9_control_71 (by decide) ?_
        exact m_vret hC hr hlk hw hS dX9_control_184 hF
      · have hF := it_t h51 hF
        refine lv_aload_n hx hb dX9_control_52 rfl (lv_at hl 4 rfl) ?_
        refine lv_bipush (v := 7) hx hb dX9_control_53 (by decide) ?_
        refine lv_aload_n hx hb dX9_control_55 rfl (lv_at hl 3 rfl) ?_
        refine lv_aload_n hx hb dX9_control_56 rfl (lv_at hl 4 rfl) ?_
        obtain ⟨r55, C56, hc57, hF⟩ := b2_t hF
        refine call_Vi hC (c_X9_reasonOf l G n (by omega) hn2 r0 hr0 _ _ _ hc57) wvX9_94 ⟨rfl, rfl, by decide, by decide⟩ hw hS (by omega) ca_model rfl hl.1 rfl (rest := [.int (7 : Int32), .ref (bb G + (r0 + 214))]) rfl (Nat.le_of_ble_eq_true rfl) dX9_control_57 ⟨by decide, by decide⟩ (fun H locs hw hS _ => ?_)
        obtain ⟨g58, hF⟩ := gi_t hF
        refine st_marr hC hw hS (by omega) hn2 hr0 g58 dX9_control_60 (fun H locs hw hS _ => ?_)
        obtain ⟨C59, eC59, hF⟩ := nm_t hF
        have hw := Wd.cast eC59 hw
        refine lv_goto (tgt := 71) hx hb dX9_control_61 (by decide) ?_
        refine lv_goto (tgt := 184) hx hb dX9_control_71 (by decide) ?_
        exact m_vret hC hr hlk hw hS dX9_control_184 hF
  refine lv_icmp_ne (tgt := 14) hx hb dX9_control_5 (by decide) (fun h2 => ?_) (fun h2 => ?_)
  · have hF := it_f h2 hF
    refine lv_aload_n hx hb dX9_control_14 rfl (lv_at hl 1 rfl) ?_
    refine lv_iconst (v := 0) hx hb dX9_control_15 (by decide) ?_
    obtain ⟨g60, hF⟩ := gi_t hF
    refine ld_marr hC hw (by omega) hr0 g60 dX9_control_16 ?_
    exact hJ17 (C r0 ((0 : Int32)).toNatClampNeg) _ _ _ hF hw hS (lv_sub hl [0, 1] rfl)
  · have hF := it_t h2 hF
    refine lv_aload_n hx hb dX9_control_8 rfl (lv_at hl 1 rfl) ?_
    refine lv_iconst (v := 3) hx hb dX9_control_9 (by decide) ?_
    obtain ⟨g61, hF⟩ := gi_t hF
    refine ld_marr hC hw (by omega) hr0 g61 dX9_control_10 ?_
    refine lv_goto (tgt := 17) hx hb dX9_control_11 (by decide) ?_
    exact hJ17 (C r0 ((3 : Int32)).toNatClampNeg) _ _ _ hF hw hS (lv_sub hl [0, 1] rfl)
set_option maxHeartbeats 4000000 in
set_option maxRecDepth 100000 in
theorem c_X9_heat (l : Launch) (G : GG) (n : Nat) (hn : 252 ≤ n) (hn2 : n ≤ 253) (r0 : Nat) (hr0 : 31 ≤ r0 ∧ r0 ≤ 36) (x1 : Int32) (C : Mem) (rR : Int32) (CR : Mem) (hF : F_X9_heat r0 x1 C = some (rR, CR)) : Ct l yX9_heat cX9_heat 6 none (rmN 0 0) G n C [.ref (bb G + 244), .ref (bb G + (r0 + 214)), .int x1] none CR := by
  refine Ct.of (by decide) (Nat.le_of_ble_eq_true rfl) ?_
  intro p e s m below meth c ls hC hr hlk hw hl
  have hx := hC.1
  have hb := hC.2.1
  have hS : LW G s s.heap [] := va_S.rf
  have hl : lv_has ls 6 [(0, .ref (bb G + 244)), (1, .ref (bb G + (r0 + 214))), (2, .int x1)] := hl
  unfold F_X9_heat at hF
  refine lv_iconst (v := 0) hx hb dX9_heat_0 (by decide) ?_
  refine lv_istore_n (lv' := [(3, .int (0 : Int32)), (0, .ref (bb G + 244)), (1, .ref (bb G + (r0 + 214))), (2, .int x1)]) hx hb dX9_heat_1 rfl hl (by decide) rfl (fun ls hl => ?_)
  obtain ⟨o3, hit3, hG3⟩ := b1_t hF
  have hR3 : ∀ (v4 : Int32) (C5 : Mem) (H : Heap) (locs : List Loc) (ls : Array Slot), o3 = (v4, C5) → Wd G n C5 H → LW G s H locs → lv_has ls 6 [] → W p l e (rmN 0 0) s m ([.ref (bb G + 244), .ref (bb G + (r0 + 214)), .int x1] : List Value).toArray below meth c H locs 0 0 (MQ below (QR G n none CR) ([.ref (bb G + 244), .ref (bb G + (r0 + 214)), .int x1] : List Value).toArray s 0 0 (frA G)) (F0 m 124 ls []) := by
    intro v4 C5 H locs ls hE hw hS hl
    subst hE
    have hF := u2_t (hG3)
    exact m_vret hC hr hlk hw hS dX9_heat_124 hF
  refine iter_sound (P := fun x : Int32 × Mem => ∀ (H : Heap) (locs : List Loc) (ls : Array Slot), Wd G n x.2 H → LW G s H locs → lv_has ls 6 [(0, .ref (bb G + 244)), (1, .ref (bb G + (r0 + 214))), (2, .int x1), (3, .int x.1)] → W p l e (rmN 0 0) s m ([.ref (bb G + 244), .ref (bb G + (r0 + 214)), .int x1] : List Value).toArray below meth c H locs 0 0 (MQ below (QR G n none CR) ([.ref (bb G + 244), .ref (bb G + (r0 + 214)), .int x1] : List Value).toArray s 0 0 (frA G)) (F0 m 2 ls [])) (X := fun r => r = o3) ?_ fuel ((0 : Int32), C) o3 hit3 rfl _ _ _ hw hS (lv_sub hl [1, 2, 3, 0] rfl)
  intro x oo3 hF hk3 hX3 H locs ls hw hS hl
  obtain ⟨v1, C2⟩ := x
  have hF : S_X9_heat_2 r0 x1 v1 C2 = some oo3 := hF
  have hw : Wd G n C2 H := hw
  have hl : lv_has ls 6 [(0, .ref (bb G + 244)), (1, .ref (bb G + (r0 + 214))), (2, .int x1), (3, .int v1)] := hl
  unfold S_X9_heat_2 at hF
  refine lv_iload_n hx hb dX9_heat_2 rfl (lv_at hl 3 rfl) ?_
  refine lv_iload_n hx hb dX9_heat_3 rfl (lv_at hl 2 rfl) ?_
  refine lv_icmp_ge (tgt := 124) hx hb dX9_heat_4 (by decide) (fun h6 => ?_) (fun h6 => ?_)
  · have hF := it_t h6 hF
    exact hR3 _ _ _ _ _ (it_exit hF hX3).symm hw hS (lv_sub hl [] rfl)
  · have hF := it_f h6 hF
    refine lv_iconst (v := 0) hx hb dX9_heat_7 (by decide) ?_
    refine lv_istore (lv' := [(4, .int (0 : Int32)), (0, .ref (bb G + 244)), (1, .ref (bb G + (r0 + 214))), (2, .int x1), (3, .int v1)]) hx hb dX9_heat_8 hl (by decide) rfl (fun ls hl => ?_)
    refine lv_iconst (v := 1) hx hb dX9_heat_10 (by decide) ?_
    refine lv_istore (lv' := [(5, .int (1 : Int32)), (4, .int (0 : Int32)), (0, .ref (bb G + 244)), (1, .ref (bb G + (r0 + 214))), (2, .int x1), (3, .int v1)]) hx hb dX9_heat_11 hl (by decide) rfl (fun ls hl => ?_)
    obtain ⟨o10, hit10, hG10⟩ := b1_t hF
    have hR10 : ∀ (v11 : Int32) (v12 : Int32) (C13 : Mem) (H : Heap) (locs : List Loc) (ls : Array Slot), o10 = (v11, v12, C13) → Wd G n C13 H → LW G s H locs → lv_has ls 6 [(0, .ref (bb G + 244)), (1, .ref (bb G + (r0 + 214))), (2, .int x1), (3, .int v1), (4, .int v11)] → W p l e (rmN 0 0) s m ([.ref (bb G + 244), .ref (bb G + (r0 + 214)), .int x1] : List Value).toArray below meth c H locs 0 0 (MQ below (QR G n none CR) ([.ref (bb G + 244), .ref (bb G + (r0 + 214)), .int x1] : List Value).toArray s 0 0 (frA G)) (F0 m 54 ls []) := by
      intro v11 v12 C13 H locs ls hE hw hS hl
      subst hE
      have hF := u3_t (hG10)
      refine lv_aload_n hx hb dX9_heat_54 rfl (lv_at hl 1 rfl) ?_
      refine lv_bipush (v := 22) hx hb dX9_heat_55 (by decide) ?_
      refine lv_iload hx hb dX9_heat_57 (lv_at hl 4 rfl) ?_
      refine lv_iadd hx hb dX9_heat_59 ?_
      obtain ⟨g20, hF⟩ := gi_t hF
      refine ld_marr hC hw (by omega) hr0 g20 dX9_heat_60 ?_
      refine lv_bipush (v := 99) hx hb dX9_heat_61 (by decide) ?_
      have hJ71 : ∀ (v22 : Int32) (H : Heap) (locs : List Loc) (ls : Array Slot), J_X9_heat_71 r0 v1 v11 C13 v22 = some oo3 → Wd G n C13 H → LW G s H locs → lv_has ls 6 [(0, .ref (bb G + 244)), (1, .ref (bb G + (r0 + 214))), (2, .int x1), (3, .int v1), (4, .int v11)] → W p l e (rmN 0 0) s m ([.ref (bb G + 244), .ref (bb G + (r0 + 214)), .int x1] : List Value).toArray below meth c H locs 0 0 (MQ below (QR G n none CR) ([.ref (bb G + 244), .ref (bb G + (r0 + 214)), .int x1] : List Value).toArray s 0 0 (frA G)) (F0 m 71 ls [.int v22]) := by
        intro v22 H locs ls hF hw hS hl
        unfold J_X9_heat_71 at hF
        refine lv_istore (lv' := [(5, .int v22), (0, .ref (bb G + 244)), (1, .ref (bb G + (r0 + 214))), (2, .int x1), (3, .int v1), (4, .int v11)]) hx hb dX9_heat_71 hl (by decide) rfl (fun ls hl => ?_)
        refine lv_aload_n hx hb dX9_heat_73 rfl (lv_at hl 2 rfl) ?_
        refine lv_bipush (v := 22) hx hb dX9_heat_74 (by decide) ?_
        refine lv_iload hx hb dX9_heat_76 (lv_at hl 5 rfl) ?_
        refine lv_iadd hx hb dX9_heat_78 ?_
        refine lv_dup2_11 hx hb dX9_heat_79 rfl rfl ?_
        obtain ⟨g23, hF⟩ := gi_t hF
        refine ld_marr hC hw (by omega) hr0 g23 dX9_heat_80 ?_
        refine lv_iload hx hb dX9_heat_81 (lv_at hl 0 rfl) ?_
        have hJ91 : ∀ (v25 : Int32) (H : Heap) (locs : List Loc) (ls : Array Slot), J_X9_heat_91 r0 v1 v11 C13 v22 v25 = some oo3 → Wd G n C13 H → LW G s H locs → lv_has ls 6 [(0, .ref (bb G + 244)), (1, .ref (bb G + (r0 + 214))), (2, .int x1), (3, .int v1), (5, .int v22)] → W p l e (rmN 0 0) s m ([.ref (bb G + 244), .ref (bb G + (r0 + 214)), .int x1] : List Value).toArray below meth c H locs 0 0 (MQ below (QR G n none CR) ([.ref (bb G + 244), .ref (bb G + (r0 + 214)), .int x1] : List Value).toArray s 0 0 (frA G)) (F0 m 91 ls [.int v25, .int (C13 r0 (((22 : Int32) + v11)).toNatClampNeg), .int ((22 : Int32) + v11), .ref (bb G + (r0 + 214))]) := by
          intro v25 H locs ls hF hw hS hl
          unfold J_X9_heat_91 at hF
          refine lv_iadd hx hb dX9_heat_91 ?_
          obtain ⟨g26, hF⟩ := gi_t hF
          refine st_marr hC hw hS (by omega) hn2 hr0 g26 dX9_heat_92 (fun H locs hw hS _ => ?_)
          obtain ⟨C27, eC27, hF⟩ := nm_t hF
          have hw := Wd.cast eC27 hw
          refine lv_aload_n hx hb dX9_heat_93 rfl (lv_at hl 1 rfl) ?_
          refine lv_bipush (v := 16) hx hb dX9_heat_94 (by decide) ?_
          refine lv_dup2_11 hx hb dX9_heat_96 rfl rfl ?_
          obtain ⟨g28, hF⟩ := gi_t hF
          refine ld_marr hC hw (by omega) hr0 g28 dX9_heat_97 ?_
          refine lv_iload hx hb dX9_heat_98 (lv_at hl 4 rfl) ?_
          refine lv_if_eq (tgt := 107) hx hb dX9_heat_100 (by decide) (fun h29 => ?_) (fun h29 => ?_)
          · have hF := it_t h29 hF
            refine lv_iconst (v := 0) hx hb dX9_heat_107 (by decide) ?_
            refine lv_iadd hx hb dX9_heat_108 ?_
            obtain ⟨g30, hF⟩ := gi_t hF
            refine st_marr hC hw hS (by omega) hn2 hr0 g30 dX9_heat_109 (fun H locs hw hS _ => ?_)
            obtain ⟨C31, eC31, hF⟩ := nm_t hF
            have hw := Wd.cast eC31 hw
            refine lv_aload_n hx hb dX9_heat_110 rfl (lv_at hl 1 rfl) ?_
            refine lv_bipush (v := 13) hx hb dX9_heat_111 (by decide) ?_
            refine lv_dup2_11 hx hb dX9_heat_113 rfl rfl ?_
            obtain ⟨g32, hF⟩ := gi_t hF
            refine ld_marr hC hw (by omega) hr0 g32 dX9_heat_114 ?_
            refine lv_iconst (v := 1) hx hb dX9_heat_115 (by decide) ?_
            refine lv_iadd hx hb dX9_heat_116 ?_
            obtain ⟨g33, hF⟩ := gi_t hF
            refine st_marr hC hw hS (by omega) hn2 hr0 g33 dX9_heat_117 (fun H locs hw hS _ => ?_)
            obtain ⟨C34, eC34, hF⟩ := nm_t hF
            have hw := Wd.cast eC34 hw
            obtain ⟨v35, ev35, hF⟩ := nm_t hF
            refine lv_iinc (v := v35) (lv' := [(3, .int v35), (0, .ref (bb G + 244)), (1, .ref (bb G + (r0 + 214))), (2, .int x1), (5, .int v22)]) hx hb dX9_heat_118 hl (k := 3) rfl (by rw [ev35]; rfl) (by decide) rfl (fun ls hl => ?_)
            refine lv_goto (tgt := 2) hx hb dX9_heat_121 (by decide) ?_
            exact it_back hF hk3 _ _ _ hw hS (lv_sub hl [1, 2, 3, 0] rfl)
          · have hF := it_f h29 hF
            refine lv_iconst (v := 1) hx hb dX9_heat_103 (by decide) ?_
            refine lv_goto (tgt := 108) hx hb dX9_heat_104 (by decide) ?_
            refine lv_iadd hx hb dX9_heat_108 ?_
            obtain ⟨g36, hF⟩ := gi_t hF
            refine st_marr hC hw hS (by omega) hn2 hr0 g36 dX9_heat_109 (fun H locs hw hS _ => ?_)
            obtain ⟨C37, eC37, hF⟩ := nm_t hF
            have hw := Wd.cast eC37 hw
            refine lv_aload_n hx hb dX9_heat_110 rfl (lv_at hl 1 rfl) ?_
            refine lv_bipush (v := 13) hx hb dX9_heat_111 (by decide) ?_
            refine lv_dup2_11 hx hb dX9_heat_113 rfl rfl ?_
            obtain ⟨g38, hF⟩ := gi_t hF
            refine ld_marr hC hw (by omega) hr0 g38 dX9_heat_114 ?_
            refine lv_iconst (v := 1) hx hb dX9_heat_115 (by decide) ?_
            refine lv_iadd hx hb dX9_heat_116 ?_
            obtain ⟨g39, hF⟩ := gi_t hF
            refine st_marr hC hw hS (by omega) hn2 hr0 g39 dX9_heat_117 (fun H locs hw hS _ => ?_)
            obtain ⟨C40, eC40, hF⟩ := nm_t hF
            have hw := Wd.cast eC40 hw
            obtain ⟨v41, ev41, hF⟩ := nm_t hF
            refine lv_iinc (v := v41) (lv' := [(3, .int v41), (0, .ref (bb G + 244)), (1, .ref (bb G + (r0 + 214))), (2, .int x1), (5, .int v22)]) hx hb dX9_heat_118 hl (k := 3) rfl (by rw [ev41]; rfl) (by decide) rfl (fun ls hl => ?_)
            refine lv_goto (tgt := 2) hx hb dX9_heat_121 (by decide) ?_
            exact it_back hF hk3 _ _ _ hw hS (lv_sub hl [1, 2, 3, 0] rfl)
        refine lv_if_eq (tgt := 90) hx hb dX9_heat_83 (by decide) (fun h24 => ?_) (fun h24 => ?_)
        · have hF := it_t h24 hF
          refine lv_iconst (v := 1) hx hb dX9_heat_90 (by decide) ?_
          exact hJ91 (1 : Int32) _ _ _ hF hw hS (lv_sub hl [1, 2, 3, 4, 0] rfl)
        · have hF := it_f h24 hF
          refine lv_iconst (v := 0) hx hb dX9_heat_86 (by decide) ?_
          refine lv_goto (tgt := 91) hx hb dX9_heat_87 (by decide) ?_
          exact hJ91 (0 : Int32) _ _ _ hF hw hS (lv_sub hl [1, 2, 3, 4, 0] rfl)
      refine lv_icmp_ne (tgt := 70) hx hb dX9_heat_63 (by decide) (fun h21 => ?_) (fun h21 => ?_)
      · have hF := it_f h21 hF
        refine lv_iconst (v := 0) hx hb dX9_heat_70 (by decide) ?_
        exact hJ71 (0 : Int32) _ _ _ hF hw hS (lv_sub hl [0, 1, 2, 3, 4] rfl)
      · have hF := it_t h21 hF
        refine lv_iconst (v := 1) hx hb dX9_heat_66 (by decide) ?_
        refine lv_goto (tgt := 71) hx hb dX9_heat_67 (by decide) ?_
        exact hJ71 (1 : Int32) _ _ _ hF hw hS (lv_sub hl [0, 1, 2, 3, 4] rfl)
    refine iter_sound (P := fun x : Int32 × Int32 × Mem => ∀ (H : Heap) (locs : List Loc) (ls : Array Slot), Wd G n x.2.2 H → LW G s H locs → lv_has ls 6 [(0, .ref (bb G + 244)), (1, .ref (bb G + (r0 + 214))), (2, .int x1), (3, .int v1), (4, .int x.1), (5, .int x.2.1)] → W p l e (rmN 0 0) s m ([.ref (bb G + 244), .ref (bb G + (r0 + 214)), .int x1] : List Value).toArray below meth c H locs 0 0 (MQ below (QR G n none CR) ([.ref (bb G + 244), .ref (bb G + (r0 + 214)), .int x1] : List Value).toArray s 0 0 (frA G)) (F0 m 13 ls [])) (X := fun r => r = o10) ?_ fuel ((0 : Int32), (1 : Int32), C2) o10 hit10 rfl _ _ _ hw hS (lv_sub hl [2, 3, 4, 5, 1, 0] rfl)
    intro x oo10 hF hk10 hX10 H locs ls hw hS hl
    obtain ⟨v7, v8, C9⟩ := x
    have hF : S_X9_heat_13 r0 v7 v8 C9 = some oo10 := hF
    have hw : Wd G n C9 H := hw
    have hl : lv_has ls 6 [(0, .ref (bb G + 244)), (1, .ref (bb G + (r0 + 214))), (2, .int x1), (3, .int v1), (4, .int v7), (5, .int v8)] := hl
    unfold S_X9_heat_13 at hF
    refine lv_iload hx hb dX9_heat_13 (lv_at hl 5 rfl) ?_
    refine lv_aload_n hx hb dX9_heat_15 rfl (lv_at hl 0 rfl) ?_
    refine gX9_17 hC hw (by omega)  dX9_heat_16 ?_
    refine lv_icmp_ge (tgt := 54) hx hb dX9_heat_19 (by decide) (fun h14 => ?_) (fun h14 => ?_)
    · have hF := it_t h14 hF
      exact hR10 _ _ _ _ _ _ (it_exit hF hX10).symm hw hS (lv_sub hl [0, 1, 2, 3, 4] rfl)
    · have hF := it_f h14 hF
      refine lv_aload_n hx hb dX9_heat_22 rfl (lv_at hl 1 rfl) ?_
      refine lv_bipush (v := 22) hx hb dX9_heat_23 (by decide) ?_
      refine lv_iload hx hb dX9_heat_25 (lv_at hl 5 rfl) ?_
      refine lv_iadd hx hb dX9_heat_27 ?_
      obtain ⟨g15, hF⟩ := gi_t hF
      refine ld_marr hC hw (by omega) hr0 g15 dX9_heat_28 ?_
      refine lv_aload_n hx hb dX9_heat_29 rfl (lv_at hl 1 rfl) ?_
      refine lv_bipush (v := 22) hx hb dX9_heat_30 (by decide) ?_
      refine lv_iload hx hb dX9_heat_32 (lv_at hl 4 rfl) ?_
      refine lv_iadd hx hb dX9_heat_34 ?_
      obtain ⟨g16, hF⟩ := gi_t hF
      refine ld_marr hC hw (by omega) hr0 g16 dX9_heat_35 ?_
      refine lv_icmp_ge (tgt := 44) hx hb dX9_heat_36 (by decide) (fun h17 => ?_) (fun h17 => ?_)
      · have hF := it_t h17 hF
        refine lv_iload hx hb dX9_heat_44 (lv_at hl 4 rfl) ?_
        refine lv_istore (lv' := [(4, .int v7), (0, .ref (bb G + 244)), (1, .ref (bb G + (r0 + 214))), (2, .int x1), (3, .int v1), (5, .int v8)]) hx hb dX9_heat_46 hl (by decide) rfl (fun ls hl => ?_)
        obtain ⟨v18, ev18, hF⟩ := nm_t hF
        refine lv_iinc (v := v18) (lv' := [(5, .int v18), (4, .int v7), (0, .ref (bb G + 244)), (1, .ref (bb G + (r0 + 214))), (2, .int x1), (3, .int v1)]) hx hb dX9_heat_48 hl (k := 5) rfl (by rw [ev18]; rfl) (by decide) rfl (fun ls hl => ?_)
        refine lv_goto (tgt := 13) hx hb dX9_heat_51 (by decide) ?_
        exact it_back hF hk10 _ _ _ hw hS (lv_sub hl [2, 3, 4, 5, 1, 0] rfl)
      · have hF := it_f h17 hF
        refine lv_iload hx hb dX9_heat_39 (lv_at hl 5 rfl) ?_
        refine lv_goto (tgt := 46) hx hb dX9_heat_41 (by decide) ?_
        refine lv_istore (lv' := [(4, .int v8), (0, .ref (bb G + 244)), (1, .ref (bb G + (r0 + 214))), (2, .int x1), (3, .int v1), (5, .int v8)]) hx hb dX9_heat_46 hl (by decide) rfl (fun ls hl => ?_)
        obtain ⟨v19, ev19, hF⟩ := nm_t hF
        refine lv_iinc (v := v19) (lv' := [(5, .int v19), (4, .int v8), (0, .ref (bb G + 244)), (1, .ref (bb G + (r0 + 214))), (2, .int x1), (3, .int v1)]) hx hb dX9_heat_48 hl (k := 5) rfl (by rw [ev19]; rfl) (by decide) rfl (fun ls hl => ?_)
        refine lv_goto (tgt := 13) hx hb dX9_heat_51 (by decide) ?_
        exact it_back hF hk10 _ _ _ hw hS (lv_sub hl [2, 3, 4, 5, 1, 0] rfl)
set_option maxHeartbeats 4000000 in
set_option maxRecDepth 100000 in
theorem c_X9_work (l : Launch) (G : GG) (n : Nat) (hn : 252 ≤ n) (hn2 : n ≤ 253) (r0 : Nat) (hr0 : 31 ≤ r0 ∧ r0 ≤ 36) (x1 : Int32) (C : Mem) (rR : Int32) (CR : Mem) (hF : F_X9_work r0 x1 C = some (rR, CR)) : Ct l yX9_work cX9_work 4 none (rmN 1 25) G n C [.ref (bb G + 244), .ref (bb G + (r0 + 214)), .int x1] none CR := by
  refine Ct.of (by decide) (Nat.le_of_ble_eq_true rfl) ?_
  intro p e s m below meth c ls hC hr hlk hw hl
  have hx := hC.1
  have hb := hC.2.1
  have hS : LW G s s.heap [] := va_S.rf
  have hl : lv_has ls 4 [(0, .ref (bb G + 244)), (1, .ref (bb G + (r0 + 214))), (2, .int x1)] := hl
  unfold F_X9_work at hF
  refine lv_iload_n hx hb dX9_work_0 rfl (lv_at hl 2 rfl) ?_
  obtain ⟨r1, C2, hc3, hF⟩ := b2_t hF
  refine call_Si hC (c_X9_at l G n (by omega) hn2 x1 _ _ _ hc3) wsX9_68 ⟨rfl, rfl, by decide, by decide⟩ hw hS hl.1 rfl (rest := []) rfl (Nat.le_of_ble_eq_true rfl) dX9_work_1 ⟨by decide, by decide⟩ (fun H locs hw hS _ => ?_)
  refine lv_istore_n (lv' := [(3, .int r1), (0, .ref (bb G + 244)), (1, .ref (bb G + (r0 + 214))), (2, .int x1)]) hx hb dX9_work_4 rfl hl (by decide) rfl (fun ls hl => ?_)
  refine lv_aload_n hx hb dX9_work_5 rfl (lv_at hl 2 rfl) ?_
  refine lv_iload_n hx hb dX9_work_6 rfl (lv_at hl 0 rfl) ?_
  refine lv_iconst (v := 2) hx hb dX9_work_7 (by decide) ?_
  refine lv_iadd hx hb dX9_work_8 ?_
  obtain ⟨g4, hF⟩ := gi_t hF
  refine ld_marr hC hw (by omega) hr0 g4 dX9_work_9 ?_
  by_cases h5 : (C2 r0 ((r1 + (2 : Int32))).toNatClampNeg) = (1 : Int32)
  · have hF := it_t h5 hF
    refine lv_tableIn (tgt := 36) (off := 26) hx hb dX9_work_10 (by rw [h5]; decide) (by rw [h5]; decide) (by rw [h5]; rfl) (by decide) ?_
    refine lv_aload_n hx hb dX9_work_36 rfl (lv_at hl 2 rfl) ?_
    refine lv_iload_n hx hb dX9_work_37 rfl (lv_at hl 0 rfl) ?_
    refine lv_iconst (v := 3) hx hb dX9_work_38 (by decide) ?_
    refine lv_iadd hx hb dX9_work_39 ?_
    refine lv_dup2_11 hx hb dX9_work_40 rfl rfl ?_
    obtain ⟨g8, hF⟩ := gi_t hF
    refine ld_marr hC hw (by omega) hr0 g8 dX9_work_41 ?_
    refine lv_iconst (v := 1) hx hb dX9_work_42 (by decide) ?_
    refine lv_isub hx hb dX9_work_43 ?_
    obtain ⟨g9, hF⟩ := gi_t hF
    refine st_marr hC hw hS (by omega) hn2 hr0 g9 dX9_work_44 (fun H locs hw hS _ => ?_)
    obtain ⟨C10, eC10, hF⟩ := nm_t hF
    have hw := Wd.cast eC10 hw
    refine lv_aload_n hx hb dX9_work_45 rfl (lv_at hl 2 rfl) ?_
    refine lv_iload_n hx hb dX9_work_46 rfl (lv_at hl 0 rfl) ?_
    refine lv_iconst (v := 2) hx hb dX9_work_47 (by decide) ?_
    refine lv_iadd hx hb dX9_work_48 ?_
    refine lv_aload_n hx hb dX9_work_49 rfl (lv_at hl 2 rfl) ?_
    refine lv_iload_n hx hb dX9_work_50 rfl (lv_at hl 0 rfl) ?_
    refine lv_iconst (v := 3) hx hb dX9_work_51 (by decide) ?_
    refine lv_iadd hx hb dX9_work_52 ?_
    obtain ⟨g11, hF⟩ := gi_t hF
    refine ld_marr hC hw (by omega) hr0 g11 dX9_work_53 ?_
    refine lv_if_ne (tgt := 61) hx hb dX9_work_54 (by decide) (fun h12 => ?_) (fun h12 => ?_)
    · have hF := it_f h12 hF
      refine lv_iconst (v := 1) hx hb dX9_work_61 (by decide) ?_
      obtain ⟨g13, hF⟩ := gi_t hF
      refine st_marr hC hw hS (by omega) hn2 hr0 g13 dX9_work_62 (fun H locs hw hS _ => ?_)
      obtain ⟨C14, eC14, hF⟩ := nm_t hF
      have hw := Wd.cast eC14 hw
      refine lv_goto (tgt := 111) hx hb dX9_work_63 (by decide) ?_
      exact m_vret hC hr hlk hw hS dX9_work_111 hF
    · have hF := it_t h12 hF
      refine lv_iconst (v := 2) hx hb dX9_work_57 (by decide) ?_
      refine lv_goto (tgt := 62) hx hb dX9_work_58 (by decide) ?_
      obtain ⟨g15, hF⟩ := gi_t hF
      refine st_marr hC hw hS (by omega) hn2 hr0 g15 dX9_work_62 (fun H locs hw hS _ => ?_)
      obtain ⟨C16, eC16, hF⟩ := nm_t hF
      have hw := Wd.cast eC16 hw
      refine lv_goto (tgt := 111) hx hb dX9_work_63 (by decide) ?_
      exact m_vret hC hr hlk hw hS dX9_work_111 hF
  have hF := it_f h5 hF
  by_cases h6 : (C2 r0 ((r1 + (2 : Int32))).toNatClampNeg) = (2 : Int32)
  · have hF := it_t h6 hF
    refine lv_tableIn (tgt := 66) (off := 56) hx hb dX9_work_10 (by rw [h6]; decide) (by rw [h6]; decide) (by rw [h6]; rfl) (by decide) ?_
    refine lv_aload_n hx hb dX9_work_66 rfl (lv_at hl 2 rfl) ?_
    refine lv_iload_n hx hb dX9_work_67 rfl (lv_at hl 0 rfl) ?_
    refine lv_iconst (v := 4) hx hb dX9_work_68 (by decide) ?_
    refine lv_iadd hx hb dX9_work_69 ?_
    refine lv_dup2_11 hx hb dX9_work_70 rfl rfl ?_
    obtain ⟨g17, hF⟩ := gi_t hF
    refine ld_marr hC hw (by omega) hr0 g17 dX9_work_71 ?_
    refine lv_iconst (v := 1) hx hb dX9_work_72 (by decide) ?_
    refine lv_iadd hx hb dX9_work_73 ?_
    obtain ⟨g18, hF⟩ := gi_t hF
    refine st_marr hC hw hS (by omega) hn2 hr0 g18 dX9_work_74 (fun H locs hw hS _ => ?_)
    obtain ⟨C19, eC19, hF⟩ := nm_t hF
    have hw := Wd.cast eC19 hw
    refine lv_aload_n hx hb dX9_work_75 rfl (lv_at hl 2 rfl) ?_
    refine lv_iload_n hx hb dX9_work_76 rfl (lv_at hl 0 rfl) ?_
    refine lv_bipush (v := 6) hx hb dX9_work_77 (by decide) ?_
    refine lv_iadd hx hb dX9_work_79 ?_
    refine lv_dup2_11 hx hb dX9_work_80 rfl rfl ?_
    obtain ⟨g20, hF⟩ := gi_t hF
    refine ld_marr hC hw (by omega) hr0 g20 dX9_work_81 ?_
    refine lv_aload_n hx hb dX9_work_82 rfl (lv_at hl 2 rfl) ?_
    refine lv_iload_n hx hb dX9_work_83 rfl (lv_at hl 0 rfl) ?_
    obtain ⟨g21, hF⟩ := gi_t hF
    refine ld_marr hC hw (by omega) hr0 g21 dX9_work_84 ?_
    refine lv_iadd hx hb dX9_work_85 ?_
    obtain ⟨g22, hF⟩ := gi_t hF
    refine st_marr hC hw hS (by omega) hn2 hr0 g22 dX9_work_86 (fun H locs hw hS _ => ?_)
    obtain ⟨C23, eC23, hF⟩ := nm_t hF
    have hw := Wd.cast eC23 hw
    refine lv_aload_n hx hb dX9_work_87 rfl (lv_at hl 1 rfl) ?_
    refine lv_aload_n hx hb dX9_work_88 rfl (lv_at hl 2 rfl) ?_
    refine lv_aload_n hx hb dX9_work_89 rfl (lv_at hl 2 rfl) ?_
    refine lv_iload_n hx hb dX9_work_90 rfl (lv_at hl 0 rfl) ?_
    obtain ⟨g24, hF⟩ := gi_t hF
    refine ld_marr hC hw (by omega) hr0 g24 dX9_work_91 ?_
    obtain ⟨r25, C26, hc27, hF⟩ := b2_t hF
    refine call_Vv hC (c_X9_heat l G n (by omega) hn2 r0 hr0 (C23 r0 (r1).toNatClampNeg) _ _ _ hc27) wvX9_101 ⟨rfl, rfl, by decide, by decide⟩ hw hS (by omega) ca_model rfl hl.1 rfl (rest := []) rfl (Nat.le_of_ble_eq_true rfl) dX9_work_92 ⟨by decide, by decide⟩ (fun H locs hw hS _ => ?_)
    refine lv_goto (tgt := 111) hx hb dX9_work_95 (by decide) ?_
    exact m_vret hC hr hlk hw hS dX9_work_111 hF
  have hF := it_f h6 hF
  by_cases h7 : (C2 r0 ((r1 + (2 : Int32))).toNatClampNeg) = (3 : Int32)
  · have hF := it_t h7 hF
    refine lv_tableIn (tgt := 98) (off := 88) hx hb dX9_work_10 (by rw [h7]; decide) (by rw [h7]; decide) (by rw [h7]; rfl) (by decide) ?_
    refine lv_aload_n hx hb dX9_work_98 rfl (lv_at hl 2 rfl) ?_
    refine lv_iload_n hx hb dX9_work_99 rfl (lv_at hl 0 rfl) ?_
    refine lv_bipush (v := 6) hx hb dX9_work_100 (by decide) ?_
    refine lv_iadd hx hb dX9_work_102 ?_
    refine lv_dup2_11 hx hb dX9_work_103 rfl rfl ?_
    obtain ⟨g28, hF⟩ := gi_t hF
    refine ld_marr hC hw (by omega) hr0 g28 dX9_work_104 ?_
    refine lv_iconst (v := 1) hx hb dX9_work_105 (by decide) ?_
    refine lv_iadd hx hb dX9_work_106 ?_
    obtain ⟨g29, hF⟩ := gi_t hF
    refine st_marr hC hw hS (by omega) hn2 hr0 g29 dX9_work_107 (fun H locs hw hS _ => ?_)
    obtain ⟨C30, eC30, hF⟩ := nm_t hF
    have hw := Wd.cast eC30 hw
    refine lv_goto (tgt := 111) hx hb dX9_work_108 (by decide) ?_
    exact m_vret hC hr hlk hw hS dX9_work_111 hF
  have hF := it_f h7 hF
  refine lv_tableOut (tgt := 111) hx hb dX9_work_10 (sw_out (fun k ka kb kc => by (have kd : k = 1 ∨ k = 2 ∨ k = 3 := by omega); exact kd.elim (fun kd => by subst kd; exact lv_neT h5 (by decide) kc) (fun kd => kd.elim (fun kd => by subst kd; exact lv_neT h6 (by decide) kc) (fun kd => (by subst kd; exact lv_neT h7 (by decide) kc))))) (by decide) ?_
  exact m_vret hC hr hlk hw hS dX9_work_111 hF
set_option maxHeartbeats 4000000 in
set_option maxRecDepth 100000 in
theorem c_X9_settle (l : Launch) (G : GG) (n : Nat) (hn : 252 ≤ n) (hn2 : n ≤ 253) (r0 : Nat) (hr0 : 31 ≤ r0 ∧ r0 ≤ 36) (C : Mem) (rR : Int32) (CR : Mem) (hF : F_X9_settle r0 C = some (rR, CR)) : Ct l yX9_settle cX9_settle 5 none (rmN 0 0) G n C [.ref (bb G + 244), .ref (bb G + (r0 + 214))] none CR := by
  refine Ct.of (by decide) (Nat.le_of_ble_eq_true rfl) ?_
  intro p e s m below meth c ls hC hr hlk hw hl
  have hx := hC.1
  have hb := hC.2.1
  have hS : LW G s s.heap [] := va_S.rf
  have hl : lv_has ls 5 [(0, .ref (bb G + 244)), (1, .ref (bb G + (r0 + 214)))] := hl
  unfold F_X9_settle at hF
  refine lv_iconst (v := 0) hx hb dX9_settle_0 (by decide) ?_
  refine lv_istore_n (lv' := [(2, .int (0 : Int32)), (0, .ref (bb G + 244)), (1, .ref (bb G + (r0 + 214)))]) hx hb dX9_settle_1 rfl hl (by decide) rfl (fun ls hl => ?_)
  obtain ⟨o3, hit3, hG3⟩ := b1_t hF
  have hR3 : ∀ (v4 : Int32) (C5 : Mem) (H : Heap) (locs : List Loc) (ls : Array Slot), o3 = (v4, C5) → Wd G n C5 H → LW G s H locs → lv_has ls 5 [(0, .ref (bb G + 244)), (1, .ref (bb G + (r0 + 214)))] → W p l e (rmN 0 0) s m ([.ref (bb G + 244), .ref (bb G + (r0 + 214))] : List Value).toArray below meth c H locs 0 0 (MQ below (QR G n none CR) ([.ref (bb G + 244), .ref (bb G + (r0 + 214))] : List Value).toArray s 0 0 (frA G)) (F0 m 62 ls []) := by
    intro v4 C5 H locs ls hE hw hS hl
    subst hE
    have hF := u2_t (hG3)
    refine lv_iconst (v := 1) hx hb dX9_settle_62 (by decide) ?_
    refine lv_istore_n (lv' := [(2, .int (1 : Int32)), (0, .ref (bb G + 244)), (1, .ref (bb G + (r0 + 214)))]) hx hb dX9_settle_63 rfl hl (by decide) rfl (fun ls hl => ?_)
    obtain ⟨o20, hit20, hG20⟩ := b1_t hF
    have hR20 : ∀ (v21 : Int32) (C22 : Mem) (H : Heap) (locs : List Loc) (ls : Array Slot), o20 = (v21, C22) → Wd G n C22 H → LW G s H locs → lv_has ls 5 [] → W p l e (rmN 0 0) s m ([.ref (bb G + 244), .ref (bb G + (r0 + 214))] : List Value).toArray below meth c H locs 0 0 (MQ below (QR G n none CR) ([.ref (bb G + 244), .ref (bb G + (r0 + 214))] : List Value).toArray s 0 0 (frA G)) (F0 m 136 ls []) := by
      intro v21 C22 H locs ls hE hw hS hl
      subst hE
      have hF := u2_t (hG20)
      exact m_vret hC hr hlk hw hS dX9_settle_136 hF
    refine iter_sound (P := fun x : Int32 × Mem => ∀ (H : Heap) (locs : List Loc) (ls : Array Slot), Wd G n x.2 H → LW G s H locs → lv_has ls 5 [(0, .ref (bb G + 244)), (1, .ref (bb G + (r0 + 214))), (2, .int x.1)] → W p l e (rmN 0 0) s m ([.ref (bb G + 244), .ref (bb G + (r0 + 214))] : List Value).toArray below meth c H locs 0 0 (MQ below (QR G n none CR) ([.ref (bb G + 244), .ref (bb G + (r0 + 214))] : List Value).toArray s 0 0 (frA G)) (F0 m 64 ls [])) (X := fun r => r = o20) ?_ fuel ((1 : Int32), C5) o20 hit20 rfl _ _ _ hw hS (lv_sub hl [1, 2, 0] rfl)
    intro x oo20 hF hk20 hX20 H locs ls hw hS hl
    obtain ⟨v18, C19⟩ := x
    have hF : S_X9_settle_64 r0 v18 C19 = some oo20 := hF
    have hw : Wd G n C19 H := hw
    have hl : lv_has ls 5 [(0, .ref (bb G + 244)), (1, .ref (bb G + (r0 + 214))), (2, .int v18)] := hl
    unfold S_X9_settle_64 at hF
    refine lv_iload_n hx hb dX9_settle_64 rfl (lv_at hl 2 rfl) ?_
    refine lv_aload_n hx hb dX9_settle_65 rfl (lv_at hl 0 rfl) ?_
    refine gX9_17 hC hw (by omega)  dX9_settle_66 ?_
    refine lv_icmp_ge (tgt := 136) hx hb dX9_settle_69 (by decide) (fun h23 => ?_) (fun h23 => ?_)
    · have hF := it_t h23 hF
      exact hR20 _ _ _ _ _ (it_exit hF hX20).symm hw hS (lv_sub hl [] rfl)
    · have hF := it_f h23 hF
      refine lv_aload_n hx hb dX9_settle_72 rfl (lv_at hl 1 rfl) ?_
      refine lv_bipush (v := 22) hx hb dX9_settle_73 (by decide) ?_
      refine lv_iload_n hx hb dX9_settle_75 rfl (lv_at hl 2 rfl) ?_
      refine lv_iadd hx hb dX9_settle_76 ?_
      obtain ⟨g24, hF⟩ := gi_t hF
      refine ld_marr hC hw (by omega) hr0 g24 dX9_settle_77 ?_
      obtain ⟨v25, ev25, hF⟩ := nm_t hF
      refine lv_nmi ev25 ?_
      refine lv_istore_n (lv' := [(3, .int v25), (0, .ref (bb G + 244)), (1, .ref (bb G + (r0 + 214))), (2, .int v18)]) hx hb dX9_settle_78 rfl hl (by decide) rfl (fun ls hl => ?_)
      refine lv_iload_n hx hb dX9_settle_79 rfl (lv_at hl 3 rfl) ?_
      refine lv_istore (lv' := [(4, .int v18), (3, .int v25), (0, .ref (bb G + 244)), (1, .ref (bb G + (r0 + 214))), (2, .int v18)]) hx hb dX9_settle_80 hl (by decide) rfl (fun ls hl => ?_)
      obtain ⟨o28, hit28, hG28⟩ := b1_t hF
      have hR28 : ∀ (v29 : Int32) (C30 : Mem) (H : Heap) (locs : List Loc) (ls : Array Slot), o28 = (v29, C30) → Wd G n C30 H → LW G s H locs → lv_has ls 5 [(3, .int v25), (0, .ref (bb G + 244)), (1, .ref (bb G + (r0 + 214))), (2, .int v18), (4, .int v29)] → W p l e (rmN 0 0) s m ([.ref (bb G + 244), .ref (bb G + (r0 + 214))] : List Value).toArray below meth c H locs 0 0 (MQ below (QR G n none CR) ([.ref (bb G + 244), .ref (bb G + (r0 + 214))] : List Value).toArray s 0 0 (frA G)) (F0 m 122 ls []) := by
        intro v29 C30 H locs ls hE hw hS hl
        subst hE
        have hF := u2_t (hG28)
        refine lv_aload_n hx hb dX9_settle_122 rfl (lv_at hl 2 rfl) ?_
        refine lv_bipush (v := 22) hx hb dX9_settle_123 (by decide) ?_
        refine lv_iload hx hb dX9_settle_125 (lv_at hl 4 rfl) ?_
        refine lv_iadd hx hb dX9_settle_127 ?_
        refine lv_iload_n hx hb dX9_settle_128 rfl (lv_at hl 0 rfl) ?_
        obtain ⟨g38, hF⟩ := gi_t hF
        refine st_marr hC hw hS (by omega) hn2 hr0 g38 dX9_settle_129 (fun H locs hw hS _ => ?_)
        obtain ⟨C39, eC39, hF⟩ := nm_t hF
        have hw := Wd.cast eC39 hw
        obtain ⟨v40, ev40, hF⟩ := nm_t hF
        refine lv_iinc (v := v40) (lv' := [(2, .int v40), (3, .int v25), (0, .ref (bb G + 244)), (1, .ref (bb G + (r0 + 214))), (4, .int v29)]) hx hb dX9_settle_130 hl (k := 3) rfl (by rw [ev40]; rfl) (by decide) rfl (fun ls hl => ?_)
        refine lv_goto (tgt := 64) hx hb dX9_settle_133 (by decide) ?_
        exact it_back hF hk20 _ _ _ hw hS (lv_sub hl [2, 3, 0] rfl)
      refine iter_sound (P := fun x : Int32 × Mem => ∀ (H : Heap) (locs : List Loc) (ls : Array Slot), Wd G n x.2 H → LW G s H locs → lv_has ls 5 [(3, .int v25), (0, .ref (bb G + 244)), (1, .ref (bb G + (r0 + 214))), (2, .int v18), (4, .int x.1)] → W p l e (rmN 0 0) s m ([.ref (bb G + 244), .ref (bb G + (r0 + 214))] : List Value).toArray below meth c H locs 0 0 (MQ below (QR G n none CR) ([.ref (bb G + 244), .ref (bb G + (r0 + 214))] : List Value).toArray s 0 0 (frA G)) (F0 m 82 ls [])) (X := fun r => r = o28) ?_ fuel (v18, C19) o28 hit28 rfl _ _ _ hw hS (lv_sub hl [1, 2, 3, 4, 0] rfl)
      intro x oo28 hF hk28 hX28 H locs ls hw hS hl
      obtain ⟨v26, C27⟩ := x
      have hF : S_X9_settle_82 r0 v25 v26 C27 = some oo28 := hF
      have hw : Wd G n C27 H := hw
      have hl : lv_has ls 5 [(3, .int v25), (0, .ref (bb G + 244)), (1, .ref (bb G + (r0 + 214))), (2, .int v18), (4, .int v26)] := hl
      unfold S_X9_settle_82 at hF
      refine lv_iload hx hb dX9_settle_82 (lv_at hl 4 rfl) ?_
      refine lv_if_le (tgt := 122) hx hb dX9_settle_84 (by decide) (fun h31 => ?_) (fun h31 => ?_)
      · have hF := it_t h31 hF
        exact hR28 _ _ _ _ _ (it_exit hF hX28).symm hw hS (lv_sub hl [0, 1, 2, 3, 4] rfl)
      · have hF := it_f h31 hF
        refine lv_aload_n hx hb dX9_settle_87 rfl (lv_at hl 2 rfl) ?_
        refine lv_bipush (v := 22) hx hb dX9_settle_88 (by decide) ?_
        refine lv_iload hx hb dX9_settle_90 (lv_at hl 4 rfl) ?_
        refine lv_iadd hx hb dX9_settle_92 ?_
        refine lv_iconst (v := 1) hx hb dX9_settle_93 (by decide) ?_
        refine lv_isub hx hb dX9_settle_94 ?_
        obtain ⟨g32, hF⟩ := gi_t hF
        refine ld_marr hC hw (by omega) hr0 g32 dX9_settle_95 ?_
        refine lv_iload_n hx hb dX9_settle_96 rfl (lv_at hl 0 rfl) ?_
        refine lv_icmp_le (tgt := 122) hx hb dX9_settle_97 (by decide) (fun h33 => ?_) (fun h33 => ?_)
        · have hF := it_t h33 hF
          exact hR28 _ _ _ _ _ (it_exit hF hX28).symm hw hS (lv_sub hl [0, 1, 2, 3, 4] rfl)
        · have hF := it_f h33 hF
          refine lv_aload_n hx hb dX9_settle_100 rfl (lv_at hl 2 rfl) ?_
          refine lv_bipush (v := 22) hx hb dX9_settle_101 (by decide) ?_
          refine lv_iload hx hb dX9_settle_103 (lv_at hl 4 rfl) ?_
          refine lv_iadd hx hb dX9_settle_105 ?_
          refine lv_aload_n hx hb dX9_settle_106 rfl (lv_at hl 2 rfl) ?_
          refine lv_bipush (v := 22) hx hb dX9_settle_107 (by decide) ?_
          refine lv_iload hx hb dX9_settle_109 (lv_at hl 4 rfl) ?_
          refine lv_iadd hx hb dX9_settle_111 ?_
          refine lv_iconst (v := 1) hx hb dX9_settle_112 (by decide) ?_
          refine lv_isub hx hb dX9_settle_113 ?_
          obtain ⟨g34, hF⟩ := gi_t hF
          refine ld_marr hC hw (by omega) hr0 g34 dX9_settle_114 ?_
          obtain ⟨g35, hF⟩ := gi_t hF
          refine st_marr hC hw hS (by omega) hn2 hr0 g35 dX9_settle_115 (fun H locs hw hS _ => ?_)
          obtain ⟨C36, eC36, hF⟩ := nm_t hF
          have hw := Wd.cast eC36 hw
          obtain ⟨v37, ev37, hF⟩ := nm_t hF
          refine lv_iinc (v := v37) (lv' := [(4, .int v37), (3, .int v25), (0, .ref (bb G + 244)), (1, .ref (bb G + (r0 + 214))), (2, .int v18)]) hx hb dX9_settle_116 hl (k := 4) rfl (by rw [ev37]; rfl) (by decide) rfl (fun ls hl => ?_)
          refine lv_goto (tgt := 82) hx hb dX9_settle_119 (by decide) ?_
          exact it_back hF hk28 _ _ _ hw hS (lv_sub hl [1, 2, 3, 4, 0] rfl)
  refine iter_sound (P := fun x : Int32 × Mem => ∀ (H : Heap) (locs : List Loc) (ls : Array Slot), Wd G n x.2 H → LW G s H locs → lv_has ls 5 [(0, .ref (bb G + 244)), (1, .ref (bb G + (r0 + 214))), (2, .int x.1)] → W p l e (rmN 0 0) s m ([.ref (bb G + 244), .ref (bb G + (r0 + 214))] : List Value).toArray below meth c H locs 0 0 (MQ below (QR G n none CR) ([.ref (bb G + 244), .ref (bb G + (r0 + 214))] : List Value).toArray s 0 0 (frA G)) (F0 m 2 ls [])) (X := fun r => r = o3) ?_ fuel ((0 : Int32), C) o3 hit3 rfl _ _ _ hw hS (lv_sub hl [1, 2, 0] rfl)
  intro x oo3 hF hk3 hX3 H locs ls hw hS hl
  obtain ⟨v1, C2⟩ := x
  have hF : S_X9_settle_2 r0 v1 C2 = some oo3 := hF
  have hw : Wd G n C2 H := hw
  have hl : lv_has ls 5 [(0, .ref (bb G + 244)), (1, .ref (bb G + (r0 + 214))), (2, .int v1)] := hl
  unfold S_X9_settle_2 at hF
  refine lv_iload_n hx hb dX9_settle_2 rfl (lv_at hl 2 rfl) ?_
  refine lv_aload_n hx hb dX9_settle_3 rfl (lv_at hl 0 rfl) ?_
  refine gX9_17 hC hw (by omega)  dX9_settle_4 ?_
  refine lv_icmp_ge (tgt := 62) hx hb dX9_settle_7 (by decide) (fun h6 => ?_) (fun h6 => ?_)
  · have hF := it_t h6 hF
    exact hR3 _ _ _ _ _ (it_exit hF hX3).symm hw hS (lv_sub hl [0, 1] rfl)
  · have hF := it_f h6 hF
    refine lv_aload_n hx hb dX9_settle_10 rfl (lv_at hl 1 rfl) ?_
    refine lv_bipush (v := 22) hx hb dX9_settle_11 (by decide) ?_
    refine lv_iload_n hx hb dX9_settle_13 rfl (lv_at hl 2 rfl) ?_
    refine lv_iadd hx hb dX9_settle_14 ?_
    obtain ⟨g7, hF⟩ := gi_t hF
    refine ld_marr hC hw (by omega) hr0 g7 dX9_settle_15 ?_
    refine lv_bipush (v := 20) hx hb dX9_settle_16 (by decide) ?_
    have hJ37 : ∀ (v9 : Int32) (H : Heap) (locs : List Loc) (ls : Array Slot), J_X9_settle_37 r0 v1 C2 v9 = some oo3 → Wd G n C2 H → LW G s H locs → lv_has ls 5 [(0, .ref (bb G + 244)), (1, .ref (bb G + (r0 + 214))), (2, .int v1)] → W p l e (rmN 0 0) s m ([.ref (bb G + 244), .ref (bb G + (r0 + 214))] : List Value).toArray below meth c H locs 0 0 (MQ below (QR G n none CR) ([.ref (bb G + 244), .ref (bb G + (r0 + 214))] : List Value).toArray s 0 0 (frA G)) (F0 m 37 ls [.int v9]) := by
      intro v9 H locs ls hF hw hS hl
      unfold J_X9_settle_37 at hF
      refine lv_istore_n (lv' := [(3, .int v9), (0, .ref (bb G + 244)), (1, .ref (bb G + (r0 + 214))), (2, .int v1)]) hx hb dX9_settle_37 rfl hl (by decide) rfl (fun ls hl => ?_)
      refine lv_aload_n hx hb dX9_settle_38 rfl (lv_at hl 2 rfl) ?_
      refine lv_bipush (v := 22) hx hb dX9_settle_39 (by decide) ?_
      refine lv_iload_n hx hb dX9_settle_41 rfl (lv_at hl 3 rfl) ?_
      refine lv_iadd hx hb dX9_settle_42 ?_
      refine lv_dup2_11 hx hb dX9_settle_43 rfl rfl ?_
      obtain ⟨g10, hF⟩ := gi_t hF
      refine ld_marr hC hw (by omega) hr0 g10 dX9_settle_44 ?_
      refine lv_iload_n hx hb dX9_settle_45 rfl (lv_at hl 0 rfl) ?_
      refine lv_isub hx hb dX9_settle_46 ?_
      obtain ⟨g11, hF⟩ := gi_t hF
      refine st_marr hC hw hS (by omega) hn2 hr0 g11 dX9_settle_47 (fun H locs hw hS _ => ?_)
      obtain ⟨C12, eC12, hF⟩ := nm_t hF
      have hw := Wd.cast eC12 hw
      refine lv_aload_n hx hb dX9_settle_48 rfl (lv_at hl 2 rfl) ?_
      refine lv_bipush (v := 16) hx hb dX9_settle_49 (by decide) ?_
      refine lv_dup2_11 hx hb dX9_settle_51 rfl rfl ?_
      obtain ⟨g13, hF⟩ := gi_t hF
      refine ld_marr hC hw (by omega) hr0 g13 dX9_settle_52 ?_
      refine lv_iload_n hx hb dX9_settle_53 rfl (lv_at hl 0 rfl) ?_
      refine lv_iadd hx hb dX9_settle_54 ?_
      obtain ⟨g14, hF⟩ := gi_t hF
      refine st_marr hC hw hS (by omega) hn2 hr0 g14 dX9_settle_55 (fun H locs hw hS _ => ?_)
      obtain ⟨C15, eC15, hF⟩ := nm_t hF
      have hw := Wd.cast eC15 hw
      obtain ⟨v16, ev16, hF⟩ := nm_t hF
      refine lv_iinc (v := v16) (lv' := [(2, .int v16), (3, .int v9), (0, .ref (bb G + 244)), (1, .ref (bb G + (r0 + 214)))]) hx hb dX9_settle_56 hl (k := 3) rfl (by rw [ev16]; rfl) (by decide) rfl (fun ls hl => ?_)
      refine lv_goto (tgt := 2) hx hb dX9_settle_59 (by decide) ?_
      exact it_back hF hk3 _ _ _ hw hS (lv_sub hl [2, 3, 0] rfl)
    refine lv_icmp_le (tgt := 36) hx hb dX9_settle_18 (by decide) (fun h8 => ?_) (fun h8 => ?_)
    · have hF := it_t h8 hF
      refine lv_iconst (v := 0) hx hb dX9_settle_36 (by decide) ?_
      exact hJ37 (0 : Int32) _ _ _ hF hw hS (lv_sub hl [0, 1, 2] rfl)
    · have hF := it_f h8 hF
      refine lv_aload_n hx hb dX9_settle_21 rfl (lv_at hl 1 rfl) ?_
      refine lv_bipush (v := 22) hx hb dX9_settle_22 (by decide) ?_
      refine lv_iload_n hx hb dX9_settle_24 rfl (lv_at hl 2 rfl) ?_
      refine lv_iadd hx hb dX9_settle_25 ?_
      obtain ⟨g17, hF⟩ := gi_t hF
      refine ld_marr hC hw (by omega) hr0 g17 dX9_settle_26 ?_
      refine lv_bipush (v := 20) hx hb dX9_settle_27 (by decide) ?_
      refine lv_isub hx hb dX9_settle_29 ?_
      refine lv_bipush (v := 20) hx hb dX9_settle_30 (by decide) ?_
      refine lv_idiv hx hb dX9_settle_32 (by decide) ?_
      refine lv_goto (tgt := 37) hx hb dX9_settle_33 (by decide) ?_
      exact hJ37 (((C2 r0 (((22 : Int32) + v1)).toNatClampNeg) - (20 : Int32)) / (20 : Int32)) _ _ _ hF hw hS (lv_sub hl [0, 1, 2] rfl)
set_option maxHeartbeats 4000000 in
set_option maxRecDepth 100000 in
theorem c_X9_watch (l : Launch) (G : GG) (n : Nat) (hn : 252 ≤ n) (hn2 : n ≤ 253) (r0 : Nat) (hr0 : 31 ≤ r0 ∧ r0 ≤ 36) (C : Mem) (rR : Int32) (CR : Mem) (hF : F_X9_watch r0 C = some (rR, CR)) : Ct l yX9_watch cX9_watch 4 none (rmN 0 0) G n C [.ref (bb G + 244), .ref (bb G + (r0 + 214))] none CR := by
  refine Ct.of (by decide) (Nat.le_of_ble_eq_true rfl) ?_
  intro p e s m below meth c ls hC hr hlk hw hl
  have hx := hC.1
  have hb := hC.2.1
  have hS : LW G s s.heap [] := va_S.rf
  have hl : lv_has ls 4 [(0, .ref (bb G + 244)), (1, .ref (bb G + (r0 + 214)))] := hl
  unfold F_X9_watch at hF
  refine lv_aload_n hx hb dX9_watch_0 rfl (lv_at hl 1 rfl) ?_
  refine lv_bipush (v := 8) hx hb dX9_watch_1 (by decide) ?_
  obtain ⟨g1, hF⟩ := gi_t hF
  refine ld_marr hC hw (by omega) hr0 g1 dX9_watch_3 ?_
  refine lv_if_ne (tgt := 8) hx hb dX9_watch_4 (by decide) (fun h2 => ?_) (fun h2 => ?_)
  · have hF := it_f h2 hF
    refine lv_aload_n hx hb dX9_watch_8 rfl (lv_at hl 1 rfl) ?_
    refine lv_bipush (v := 10) hx hb dX9_watch_9 (by decide) ?_
    refine lv_dup2_11 hx hb dX9_watch_11 rfl rfl ?_
    obtain ⟨g3, hF⟩ := gi_t hF
    refine ld_marr hC hw (by omega) hr0 g3 dX9_watch_12 ?_
    refine lv_iconst (v := 1) hx hb dX9_watch_13 (by decide) ?_
    refine lv_iadd hx hb dX9_watch_14 ?_
    obtain ⟨g4, hF⟩ := gi_t hF
    refine st_marr hC hw hS (by omega) hn2 hr0 g4 dX9_watch_15 (fun H locs hw hS _ => ?_)
    obtain ⟨C5, eC5, hF⟩ := nm_t hF
    have hw := Wd.cast eC5 hw
    refine lv_aload_n hx hb dX9_watch_16 rfl (lv_at hl 1 rfl) ?_
    refine lv_bipush (v := 9) hx hb dX9_watch_17 (by decide) ?_
    refine lv_aload_n hx hb dX9_watch_19 rfl (lv_at hl 1 rfl) ?_
    refine lv_bipush (v := 22) hx hb dX9_watch_20 (by decide) ?_
    obtain ⟨g6, hF⟩ := gi_t hF
    refine ld_marr hC hw (by omega) hr0 g6 dX9_watch_22 ?_
    refine lv_aload_n hx hb dX9_watch_23 rfl (lv_at hl 1 rfl) ?_
    refine lv_iconst (v := 3) hx hb dX9_watch_24 (by decide) ?_
    obtain ⟨g7, hF⟩ := gi_t hF
    refine ld_marr hC hw (by omega) hr0 g7 dX9_watch_25 ?_
    have hJ39 : ∀ (v9 : Int32) (H : Heap) (locs : List Loc) (ls : Array Slot), J_X9_watch_39 r0 C5 v9 = some (rR, CR) → Wd G n C5 H → LW G s H locs → lv_has ls 4 [(1, .ref (bb G + (r0 + 214)))] → W p l e (rmN 0 0) s m ([.ref (bb G + 244), .ref (bb G + (r0 + 214))] : List Value).toArray below meth c H locs 0 0 (MQ below (QR G n none CR) ([.ref (bb G + 244), .ref (bb G + (r0 + 214))] : List Value).toArray s 0 0 (frA G)) (F0 m 39 ls [.int v9, .int (9 : Int32), .ref (bb G + (r0 + 214))]) := by
      intro v9 H locs ls hF hw hS hl
      unfold J_X9_watch_39 at hF
      obtain ⟨g10, hF⟩ := gi_t hF
      refine st_marr hC hw hS (by omega) hn2 hr0 g10 dX9_watch_39 (fun H locs hw hS _ => ?_)
      obtain ⟨C11, eC11, hF⟩ := nm_t hF
      have hw := Wd.cast eC11 hw
      refine lv_aload_n hx hb dX9_watch_40 rfl (lv_at hl 0 rfl) ?_
      refine lv_bipush (v := 9) hx hb dX9_watch_41 (by decide) ?_
      obtain ⟨g12, hF⟩ := gi_t hF
      refine ld_marr hC hw (by omega) hr0 g12 dX9_watch_43 ?_
      refine lv_aload_n hx hb dX9_watch_44 rfl (lv_at hl 0 rfl) ?_
      refine lv_iconst (v := 4) hx hb dX9_watch_45 (by decide) ?_
      obtain ⟨g13, hF⟩ := gi_t hF
      refine ld_marr hC hw (by omega) hr0 g13 dX9_watch_46 ?_
      have hJ55 : ∀ (v15 : Int32) (H : Heap) (locs : List Loc) (ls : Array Slot), J_X9_watch_55 r0 C11 v15 = some (rR, CR) → Wd G n C11 H → LW G s H locs → lv_has ls 4 [(1, .ref (bb G + (r0 + 214)))] → W p l e (rmN 0 0) s m ([.ref (bb G + 244), .ref (bb G + (r0 + 214))] : List Value).toArray below meth c H locs 0 0 (MQ below (QR G n none CR) ([.ref (bb G + 244), .ref (bb G + (r0 + 214))] : List Value).toArray s 0 0 (frA G)) (F0 m 55 ls [.int v15]) := by
        intro v15 H locs ls hF hw hS hl
        unfold J_X9_watch_55 at hF
        refine lv_istore_n (lv' := [(2, .int v15), (1, .ref (bb G + (r0 + 214)))]) hx hb dX9_watch_55 rfl hl (by decide) rfl (fun ls hl => ?_)
        refine lv_iload_n hx hb dX9_watch_56 rfl (lv_at hl 0 rfl) ?_
        have hJ74 : ∀ (v17 : Int32) (H : Heap) (locs : List Loc) (ls : Array Slot), J_X9_watch_74 r0 C11 v15 v17 = some (rR, CR) → Wd G n C11 H → LW G s H locs → lv_has ls 4 [(1, .ref (bb G + (r0 + 214))), (2, .int v15)] → W p l e (rmN 0 0) s m ([.ref (bb G + 244), .ref (bb G + (r0 + 214))] : List Value).toArray below meth c H locs 0 0 (MQ below (QR G n none CR) ([.ref (bb G + 244), .ref (bb G + (r0 + 214))] : List Value).toArray s 0 0 (frA G)) (F0 m 74 ls [.int v17]) := by
          intro v17 H locs ls hF hw hS hl
          unfold J_X9_watch_74 at hF
          refine lv_istore_n (lv' := [(3, .int v17), (1, .ref (bb G + (r0 + 214))), (2, .int v15)]) hx hb dX9_watch_74 rfl hl (by decide) rfl (fun ls hl => ?_)
          refine lv_aload_n hx hb dX9_watch_75 rfl (lv_at hl 1 rfl) ?_
          refine lv_bipush (v := 11) hx hb dX9_watch_76 (by decide) ?_
          refine lv_dup2_11 hx hb dX9_watch_78 rfl rfl ?_
          obtain ⟨g18, hF⟩ := gi_t hF
          refine ld_marr hC hw (by omega) hr0 g18 dX9_watch_79 ?_
          refine lv_iload_n hx hb dX9_watch_80 rfl (lv_at hl 2 rfl) ?_
          have hJ89 : ∀ (v20 : Int32) (H : Heap) (locs : List Loc) (ls : Array Slot), J_X9_watch_89 r0 C11 v15 v17 v20 = some (rR, CR) → Wd G n C11 H → LW G s H locs → lv_has ls 4 [(1, .ref (bb G + (r0 + 214))), (2, .int v15), (3, .int v17)] → W p l e (rmN 0 0) s m ([.ref (bb G + 244), .ref (bb G + (r0 + 214))] : List Value).toArray below meth c H locs 0 0 (MQ below (QR G n none CR) ([.ref (bb G + 244), .ref (bb G + (r0 + 214))] : List Value).toArray s 0 0 (frA G)) (F0 m 89 ls [.int v20, .int (C11 r0 ((11 : Int32)).toNatClampNeg), .int (11 : Int32), .ref (bb G + (r0 + 214))]) := by
            intro v20 H locs ls hF hw hS hl
            unfold J_X9_watch_89 at hF
            refine lv_iadd hx hb dX9_watch_89 ?_
            obtain ⟨g21, hF⟩ := gi_t hF
            refine st_marr hC hw hS (by omega) hn2 hr0 g21 dX9_watch_90 (fun H locs hw hS _ => ?_)
            obtain ⟨C22, eC22, hF⟩ := nm_t hF
            have hw := Wd.cast eC22 hw
            refine lv_aload_n hx hb dX9_watch_91 rfl (lv_at hl 0 rfl) ?_
            refine lv_bipush (v := 12) hx hb dX9_watch_92 (by decide) ?_
            refine lv_dup2_11 hx hb dX9_watch_94 rfl rfl ?_
            obtain ⟨g23, hF⟩ := gi_t hF
            refine ld_marr hC hw (by omega) hr0 g23 dX9_watch_95 ?_
            refine lv_iload_n hx hb dX9_watch_96 rfl (lv_at hl 2 rfl) ?_
            have hJ105 : ∀ (v25 : Int32) (H : Heap) (locs : List Loc) (ls : Array Slot), J_X9_watch_105 r0 v15 v17 C22 v25 = some (rR, CR) → Wd G n C22 H → LW G s H locs → lv_has ls 4 [(1, .ref (bb G + (r0 + 214))), (2, .int v15), (3, .int v17)] → W p l e (rmN 0 0) s m ([.ref (bb G + 244), .ref (bb G + (r0 + 214))] : List Value).toArray below meth c H locs 0 0 (MQ below (QR G n none CR) ([.ref (bb G + 244), .ref (bb G + (r0 + 214))] : List Value).toArray s 0 0 (frA G)) (F0 m 105 ls [.int v25, .int (C22 r0 ((12 : Int32)).toNatClampNeg), .int (12 : Int32), .ref (bb G + (r0 + 214))]) := by
              intro v25 H locs ls hF hw hS hl
              unfold J_X9_watch_105 at hF
              refine lv_iadd hx hb dX9_watch_105 ?_
              obtain ⟨g26, hF⟩ := gi_t hF
              refine st_marr hC hw hS (by omega) hn2 hr0 g26 dX9_watch_106 (fun H locs hw hS _ => ?_)
              obtain ⟨C27, eC27, hF⟩ := nm_t hF
              have hw := Wd.cast eC27 hw
              refine lv_iload_n hx hb dX9_watch_107 rfl (lv_at hl 1 rfl) ?_
              refine lv_if_ne (tgt := 115) hx hb dX9_watch_108 (by decide) (fun h28 => ?_) (fun h28 => ?_)
              · have hF := it_f h28 hF
                refine lv_aload_n hx hb dX9_watch_115 rfl (lv_at hl 0 rfl) ?_
                refine lv_bipush (v := 8) hx hb dX9_watch_116 (by decide) ?_
                refine lv_iconst (v := 0) hx hb dX9_watch_118 (by decide) ?_
                obtain ⟨g29, hF⟩ := gi_t hF
                refine st_marr hC hw hS (by omega) hn2 hr0 g29 dX9_watch_119 (fun H locs hw hS _ => ?_)
                obtain ⟨C30, eC30, hF⟩ := nm_t hF
                have hw := Wd.cast eC30 hw
                refine lv_aload_n hx hb dX9_watch_120 rfl (lv_at hl 0 rfl) ?_
                refine lv_bipush (v := 9) hx hb dX9_watch_121 (by decide) ?_
                refine lv_iconst (v := 0) hx hb dX9_watch_123 (by decide) ?_
                obtain ⟨g31, hF⟩ := gi_t hF
                refine st_marr hC hw hS (by omega) hn2 hr0 g31 dX9_watch_124 (fun H locs hw hS _ => ?_)
                obtain ⟨C32, eC32, hF⟩ := nm_t hF
                have hw := Wd.cast eC32 hw
                refine lv_aload_n hx hb dX9_watch_125 rfl (lv_at hl 0 rfl) ?_
                refine lv_bipush (v := 10) hx hb dX9_watch_126 (by decide) ?_
                refine lv_iconst (v := 0) hx hb dX9_watch_128 (by decide) ?_
                obtain ⟨g33, hF⟩ := gi_t hF
                refine st_marr hC hw hS (by omega) hn2 hr0 g33 dX9_watch_129 (fun H locs hw hS _ => ?_)
                obtain ⟨C34, eC34, hF⟩ := nm_t hF
                have hw := Wd.cast eC34 hw
                exact m_vret hC hr hlk hw hS dX9_watch_130 hF
              · have hF := it_t h28 hF
                refine lv_iload_n hx hb dX9_watch_111 rfl (lv_at hl 2 rfl) ?_
                refine lv_if_eq (tgt := 130) hx hb dX9_watch_112 (by decide) (fun h35 => ?_) (fun h35 => ?_)
                · have hF := it_t h35 hF
                  exact m_vret hC hr hlk hw hS dX9_watch_130 hF
                · have hF := it_f h35 hF
                  refine lv_aload_n hx hb dX9_watch_115 rfl (lv_at hl 0 rfl) ?_
                  refine lv_bipush (v := 8) hx hb dX9_watch_116 (by decide) ?_
                  refine lv_iconst (v := 0) hx hb dX9_watch_118 (by decide) ?_
                  obtain ⟨g36, hF⟩ := gi_t hF
                  refine st_marr hC hw hS (by omega) hn2 hr0 g36 dX9_watch_119 (fun H locs hw hS _ => ?_)
                  obtain ⟨C37, eC37, hF⟩ := nm_t hF
                  have hw := Wd.cast eC37 hw
                  refine lv_aload_n hx hb dX9_watch_120 rfl (lv_at hl 0 rfl) ?_
                  refine lv_bipush (v := 9) hx hb dX9_watch_121 (by decide) ?_
                  refine lv_iconst (v := 0) hx hb dX9_watch_123 (by decide) ?_
                  obtain ⟨g38, hF⟩ := gi_t hF
                  refine st_marr hC hw hS (by omega) hn2 hr0 g38 dX9_watch_124 (fun H locs hw hS _ => ?_)
                  obtain ⟨C39, eC39, hF⟩ := nm_t hF
                  have hw := Wd.cast eC39 hw
                  refine lv_aload_n hx hb dX9_watch_125 rfl (lv_at hl 0 rfl) ?_
                  refine lv_bipush (v := 10) hx hb dX9_watch_126 (by decide) ?_
                  refine lv_iconst (v := 0) hx hb dX9_watch_128 (by decide) ?_
                  obtain ⟨g40, hF⟩ := gi_t hF
                  refine st_marr hC hw hS (by omega) hn2 hr0 g40 dX9_watch_129 (fun H locs hw hS _ => ?_)
                  obtain ⟨C41, eC41, hF⟩ := nm_t hF
                  have hw := Wd.cast eC41 hw
                  exact m_vret hC hr hlk hw hS dX9_watch_130 hF
            refine lv_if_eq (tgt := 104) hx hb dX9_watch_97 (by decide) (fun h24 => ?_) (fun h24 => ?_)
            · have hF := it_t h24 hF
              refine lv_iconst (v := 0) hx hb dX9_watch_104 (by decide) ?_
              exact hJ105 (0 : Int32) _ _ _ hF hw hS (lv_sub hl [0, 1, 2] rfl)
            · have hF := it_f h24 hF
              refine lv_iconst (v := 1) hx hb dX9_watch_100 (by decide) ?_
              refine lv_goto (tgt := 105) hx hb dX9_watch_101 (by decide) ?_
              exact hJ105 (1 : Int32) _ _ _ hF hw hS (lv_sub hl [0, 1, 2] rfl)
          refine lv_if_eq (tgt := 88) hx hb dX9_watch_81 (by decide) (fun h19 => ?_) (fun h19 => ?_)
          · have hF := it_t h19 hF
            refine lv_iconst (v := 0) hx hb dX9_watch_88 (by decide) ?_
            exact hJ89 (0 : Int32) _ _ _ hF hw hS (lv_sub hl [1, 2, 0] rfl)
          · have hF := it_f h19 hF
            refine lv_iconst (v := 1) hx hb dX9_watch_84 (by decide) ?_
            refine lv_goto (tgt := 89) hx hb dX9_watch_85 (by decide) ?_
            exact hJ89 (1 : Int32) _ _ _ hF hw hS (lv_sub hl [1, 2, 0] rfl)
        refine lv_if_ne (tgt := 73) hx hb dX9_watch_57 (by decide) (fun h16 => ?_) (fun h16 => ?_)
        · have hF := it_f h16 hF
          refine lv_iconst (v := 0) hx hb dX9_watch_73 (by decide) ?_
          exact hJ74 (0 : Int32) _ _ _ hF hw hS (lv_sub hl [1, 0] rfl)
        · have hF := it_t h16 hF
          refine lv_aload_n hx hb dX9_watch_60 rfl (lv_at hl 1 rfl) ?_
          refine lv_bipush (v := 10) hx hb dX9_watch_61 (by decide) ?_
          obtain ⟨g42, hF⟩ := gi_t hF
          refine ld_marr hC hw (by omega) hr0 g42 dX9_watch_63 ?_
          refine lv_bipush (v := 12) hx hb dX9_watch_64 (by decide) ?_
          refine lv_icmp_ne (tgt := 73) hx hb dX9_watch_66 (by decide) (fun h43 => ?_) (fun h43 => ?_)
          · have hF := it_f h43 hF
            refine lv_iconst (v := 0) hx hb dX9_watch_73 (by decide) ?_
            exact hJ74 (0 : Int32) _ _ _ hF hw hS (lv_sub hl [1, 0] rfl)
          · have hF := it_t h43 hF
            refine lv_iconst (v := 1) hx hb dX9_watch_69 (by decide) ?_
            refine lv_goto (tgt := 74) hx hb dX9_watch_70 (by decide) ?_
            exact hJ74 (1 : Int32) _ _ _ hF hw hS (lv_sub hl [1, 0] rfl)
      refine lv_icmp_lt (tgt := 54) hx hb dX9_watch_47 (by decide) (fun h14 => ?_) (fun h14 => ?_)
      · have hF := it_t h14 hF
        refine lv_iconst (v := 0) hx hb dX9_watch_54 (by decide) ?_
        exact hJ55 (0 : Int32) _ _ _ hF hw hS (lv_sub hl [0] rfl)
      · have hF := it_f h14 hF
        refine lv_iconst (v := 1) hx hb dX9_watch_50 (by decide) ?_
        refine lv_goto (tgt := 55) hx hb dX9_watch_51 (by decide) ?_
        exact hJ55 (1 : Int32) _ _ _ hF hw hS (lv_sub hl [0] rfl)
    refine lv_icmp_lt (tgt := 38) hx hb dX9_watch_26 (by decide) (fun h8 => ?_) (fun h8 => ?_)
    · have hF := it_t h8 hF
      refine lv_iconst (v := 0) hx hb dX9_watch_38 (by decide) ?_
      exact hJ39 (0 : Int32) _ _ _ hF hw hS (lv_sub hl [1] rfl)
    · have hF := it_f h8 hF
      refine lv_aload_n hx hb dX9_watch_29 rfl (lv_at hl 1 rfl) ?_
      refine lv_bipush (v := 9) hx hb dX9_watch_30 (by decide) ?_
      obtain ⟨g44, hF⟩ := gi_t hF
      refine ld_marr hC hw (by omega) hr0 g44 dX9_watch_32 ?_
      refine lv_iconst (v := 1) hx hb dX9_watch_33 (by decide) ?_
      refine lv_iadd hx hb dX9_watch_34 ?_
      refine lv_goto (tgt := 39) hx hb dX9_watch_35 (by decide) ?_
      exact hJ39 ((C5 r0 ((9 : Int32)).toNatClampNeg) + (1 : Int32)) _ _ _ hF hw hS (lv_sub hl [1] rfl)
  · have hF := it_t h2 hF
    exact m_vret hC hr hlk hw hS dX9_watch_7 hF
set_option maxHeartbeats 4000000 in
set_option maxRecDepth 100000 in
theorem c_X9_tickOn (l : Launch) (G : GG) (n : Nat) (hn : 252 ≤ n) (hn2 : n ≤ 253) (r0 : Nat) (hr0 : 31 ≤ r0 ∧ r0 ≤ 36) (x1 : Int32) (C : Mem) (rR : Int32) (CR : Mem) (hF : F_X9_tickOn r0 x1 C = some (rR, CR)) : Ct l yX9_tickOn cX9_tickOn 4 none (rmN 5 117) G n C [.ref (bb G + 244), .ref (bb G + (r0 + 214)), .int x1] none CR := by
  refine Ct.of (by decide) (Nat.le_of_ble_eq_true rfl) ?_
  intro p e s m below meth c ls hC hr hlk hw hl
  have hx := hC.1
  have hb := hC.2.1
  have hS : LW G s s.heap [] := va_S.rf
  have hl : lv_has ls 4 [(0, .ref (bb G + 244)), (1, .ref (bb G + (r0 + 214))), (2, .int x1)] := hl
  unfold F_X9_tickOn at hF
  refine lv_aload_n hx hb dX9_tickOn_0 rfl (lv_at hl 0 rfl) ?_
  refine lv_aload_n hx hb dX9_tickOn_1 rfl (lv_at hl 1 rfl) ?_
  refine lv_iload_n hx hb dX9_tickOn_2 rfl (lv_at hl 2 rfl) ?_
  obtain ⟨r1, C2, hc3, hF⟩ := b2_t hF
  refine call_Vi hC (c_X9_drawOn l G n (by omega) hn2 r0 hr0 x1 _ _ _ hc3) wvX9_104 ⟨rfl, rfl, by decide, by decide⟩ hw hS (by omega) ca_model rfl hl.1 rfl (rest := []) rfl (Nat.le_of_ble_eq_true rfl) dX9_tickOn_3 ⟨by decide, by decide⟩ (fun H locs hw hS _ => ?_)
  refine lv_pop hx hb dX9_tickOn_6 rfl ?_
  refine lv_aload_n hx hb dX9_tickOn_7 rfl (lv_at hl 1 rfl) ?_
  refine lv_bipush (v := 6) hx hb dX9_tickOn_8 (by decide) ?_
  obtain ⟨g4, hF⟩ := gi_t hF
  refine ld_marr hC hw (by omega) hr0 g4 dX9_tickOn_10 ?_
  refine lv_bipush (v := 24) hx hb dX9_tickOn_11 (by decide) ?_
  refine lv_irem hx hb dX9_tickOn_13 (by decide) ?_
  refine lv_aload_n hx hb dX9_tickOn_14 rfl (lv_at hl 1 rfl) ?_
  refine lv_iconst (v := 5) hx hb dX9_tickOn_15 (by decide) ?_
  obtain ⟨g5, hF⟩ := gi_t hF
  refine ld_marr hC hw (by omega) hr0 g5 dX9_tickOn_16 ?_
  have hJ25 : ∀ (C7 : Mem) (H : Heap) (locs : List Loc) (ls : Array Slot), J_X9_tickOn_25 r0 C7 = some (rR, CR) → Wd G n C7 H → LW G s H locs → lv_has ls 4 [(0, .ref (bb G + 244)), (1, .ref (bb G + (r0 + 214)))] → W p l e (rmN 5 117) s m ([.ref (bb G + 244), .ref (bb G + (r0 + 214)), .int x1] : List Value).toArray below meth c H locs 0 0 (MQ below (QR G n none CR) ([.ref (bb G + 244), .ref (bb G + (r0 + 214)), .int x1] : List Value).toArray s 0 0 (frA G)) (F0 m 25 ls []) := by
    intro C7 H locs ls hF hw hS hl
    unfold J_X9_tickOn_25 at hF
    refine lv_aload_n hx hb dX9_tickOn_25 rfl (lv_at hl 0 rfl) ?_
    refine lv_aload_n hx hb dX9_tickOn_26 rfl (lv_at hl 1 rfl) ?_
    obtain ⟨r8, C9, hc10, hF⟩ := b2_t hF
    refine call_Vv hC (c_X9_control l G n (by omega) hn2 r0 hr0 _ _ _ hc10) wvX9_107 ⟨rfl, rfl, by decide, by decide⟩ hw hS (by omega) ca_model rfl hl.1 rfl (rest := []) rfl (Nat.le_of_ble_eq_true rfl) dX9_tickOn_27 ⟨by decide, by decide⟩ (fun H locs hw hS _ => ?_)
    refine lv_iconst (v := 0) hx hb dX9_tickOn_30 (by decide) ?_
    refine lv_istore_n (lv' := [(3, .int (0 : Int32)), (0, .ref (bb G + 244)), (1, .ref (bb G + (r0 + 214)))]) hx hb dX9_tickOn_31 rfl hl (by decide) rfl (fun ls hl => ?_)
    obtain ⟨o13, hit13, hG13⟩ := b1_t hF
    have hR13 : ∀ (v14 : Int32) (C15 : Mem) (H : Heap) (locs : List Loc) (ls : Array Slot), o13 = (v14, C15) → Wd G n C15 H → LW G s H locs → lv_has ls 4 [(0, .ref (bb G + 244)), (1, .ref (bb G + (r0 + 214)))] → W p l e (rmN 5 117) s m ([.ref (bb G + 244), .ref (bb G + (r0 + 214)), .int x1] : List Value).toArray below meth c H locs 0 0 (MQ below (QR G n none CR) ([.ref (bb G + 244), .ref (bb G + (r0 + 214)), .int x1] : List Value).toArray s 0 0 (frA G)) (F0 m 52 ls []) := by
      intro v14 C15 H locs ls hE hw hS hl
      subst hE
      have hF := u2_t (hG13)
      refine lv_aload_n hx hb dX9_tickOn_52 rfl (lv_at hl 0 rfl) ?_
      refine lv_aload_n hx hb dX9_tickOn_53 rfl (lv_at hl 1 rfl) ?_
      obtain ⟨r21, C22, hc23, hF⟩ := b2_t hF
      refine call_Vv hC (c_X9_settle l G n (by omega) hn2 r0 hr0 _ _ _ hc23) wvX9_113 ⟨rfl, rfl, by decide, by decide⟩ hw hS (by omega) ca_model rfl hl.1 rfl (rest := []) rfl (Nat.le_of_ble_eq_true rfl) dX9_tickOn_54 ⟨by decide, by decide⟩ (fun H locs hw hS _ => ?_)
      refine lv_aload_n hx hb dX9_tickOn_57 rfl (lv_at hl 0 rfl) ?_
      refine lv_aload_n hx hb dX9_tickOn_58 rfl (lv_at hl 1 rfl) ?_
      obtain ⟨r24, C25, hc26, hF⟩ := b2_t hF
      refine call_Vv hC (c_X9_watch l G n (by omega) hn2 r0 hr0 _ _ _ hc26) wvX9_116 ⟨rfl, rfl, by decide, by decide⟩ hw hS (by omega) ca_model rfl hl.1 rfl (rest := []) rfl (Nat.le_of_ble_eq_true rfl) dX9_tickOn_59 ⟨by decide, by decide⟩ (fun H locs hw hS _ => ?_)
      refine lv_aload_n hx hb dX9_tickOn_62 rfl (lv_at hl 1 rfl) ?_
      refine lv_bipush (v := 6) hx hb dX9_tickOn_63 (by decide) ?_
      refine lv_dup2_11 hx hb dX9_tickOn_65 rfl rfl ?_
      obtain ⟨g27, hF⟩ := gi_t hF
      refine ld_marr hC hw (by omega) hr0 g27 dX9_tickOn_66 ?_
      refine lv_iconst (v := 1) hx hb dX9_tickOn_67 (by decide) ?_
      refine lv_iadd hx hb dX9_tickOn_68 ?_
      obtain ⟨g28, hF⟩ := gi_t hF
      refine st_marr hC hw hS (by omega) hn2 hr0 g28 dX9_tickOn_69 (fun H locs hw hS _ => ?_)
      obtain ⟨C29, eC29, hF⟩ := nm_t hF
      have hw := Wd.cast eC29 hw
      exact m_vret hC hr hlk hw hS dX9_tickOn_70 hF
    refine iter_sound (P := fun x : Int32 × Mem => ∀ (H : Heap) (locs : List Loc) (ls : Array Slot), Wd G n x.2 H → LW G s H locs → lv_has ls 4 [(0, .ref (bb G + 244)), (1, .ref (bb G + (r0 + 214))), (3, .int x.1)] → W p l e (rmN 5 117) s m ([.ref (bb G + 244), .ref (bb G + (r0 + 214)), .int x1] : List Value).toArray below meth c H locs 0 0 (MQ below (QR G n none CR) ([.ref (bb G + 244), .ref (bb G + (r0 + 214)), .int x1] : List Value).toArray s 0 0 (frA G)) (F0 m 32 ls [])) (X := fun r => r = o13) ?_ fuel ((0 : Int32), C9) o13 hit13 rfl _ _ _ hw hS (lv_sub hl [1, 2, 0] rfl)
    intro x oo13 hF hk13 hX13 H locs ls hw hS hl
    obtain ⟨v11, C12⟩ := x
    have hF : S_X9_tickOn_32 r0 v11 C12 = some oo13 := hF
    have hw : Wd G n C12 H := hw
    have hl : lv_has ls 4 [(0, .ref (bb G + 244)), (1, .ref (bb G + (r0 + 214))), (3, .int v11)] := hl
    unfold S_X9_tickOn_32 at hF
    refine lv_iload_n hx hb dX9_tickOn_32 rfl (lv_at hl 2 rfl) ?_
    refine lv_aload_n hx hb dX9_tickOn_33 rfl (lv_at hl 0 rfl) ?_
    refine gX9_13 hC hw (by omega)  dX9_tickOn_34 ?_
    refine lv_icmp_ge (tgt := 52) hx hb dX9_tickOn_37 (by decide) (fun h16 => ?_) (fun h16 => ?_)
    · have hF := it_t h16 hF
      exact hR13 _ _ _ _ _ (it_exit hF hX13).symm hw hS (lv_sub hl [0, 1] rfl)
    · have hF := it_f h16 hF
      refine lv_aload_n hx hb dX9_tickOn_40 rfl (lv_at hl 0 rfl) ?_
      refine lv_aload_n hx hb dX9_tickOn_41 rfl (lv_at hl 1 rfl) ?_
      refine lv_iload_n hx hb dX9_tickOn_42 rfl (lv_at hl 2 rfl) ?_
      obtain ⟨r17, C18, hc19, hF⟩ := b2_t hF
      refine call_Vv hC (c_X9_work l G n (by omega) hn2 r0 hr0 v11 _ _ _ hc19) wvX9_110 ⟨rfl, rfl, by decide, by decide⟩ hw hS (by omega) ca_model rfl hl.1 rfl (rest := []) rfl (Nat.le_of_ble_eq_true rfl) dX9_tickOn_43 ⟨by decide, by decide⟩ (fun H locs hw hS _ => ?_)
      obtain ⟨v20, ev20, hF⟩ := nm_t hF
      refine lv_iinc (v := v20) (lv' := [(3, .int v20), (0, .ref (bb G + 244)), (1, .ref (bb G + (r0 + 214)))]) hx hb dX9_tickOn_46 hl (k := 2) rfl (by rw [ev20]; rfl) (by decide) rfl (fun ls hl => ?_)
      refine lv_goto (tgt := 32) hx hb dX9_tickOn_49 (by decide) ?_
      exact it_back hF hk13 _ _ _ hw hS (lv_sub hl [1, 2, 0] rfl)
  refine lv_icmp_ne (tgt := 25) hx hb dX9_tickOn_17 (by decide) (fun h6 => ?_) (fun h6 => ?_)
  · have hF := it_f h6 hF
    exact hJ25 C2 _ _ _ hF hw hS (lv_sub hl [0, 1] rfl)
  · have hF := it_t h6 hF
    refine lv_aload_n hx hb dX9_tickOn_20 rfl (lv_at hl 1 rfl) ?_
    refine lv_bipush (v := 8) hx hb dX9_tickOn_21 (by decide) ?_
    refine lv_iconst (v := 1) hx hb dX9_tickOn_23 (by decide) ?_
    obtain ⟨g30, hF⟩ := gi_t hF
    refine st_marr hC hw hS (by omega) hn2 hr0 g30 dX9_tickOn_24 (fun H locs hw hS _ => ?_)
    obtain ⟨C31, eC31, hF⟩ := nm_t hF
    have hw := Wd.cast eC31 hw
    exact hJ25 C31 _ _ _ hF hw hS (lv_sub hl [0, 1] rfl)
set_option maxHeartbeats 4000000 in
set_option maxRecDepth 100000 in
theorem c_X9_ticksOn (l : Launch) (G : GG) (n : Nat) (hn : 252 ≤ n) (hn2 : n ≤ 253) (r0 : Nat) (hr0 : 31 ≤ r0 ∧ r0 ≤ 36) (x1 : Int32) (x2 : Int32) (C : Mem) (rR : Int32) (CR : Mem) (hF : F_X9_ticksOn r0 x1 x2 C = some (rR, CR)) : Ct l yX9_ticksOn cX9_ticksOn 5 none (rmN 6 140) G n C [.ref (bb G + 244), .ref (bb G + (r0 + 214)), .int x1, .int x2] none CR := by
  refine Ct.of (by decide) (Nat.le_of_ble_eq_true rfl) ?_
  intro p e s m below meth c ls hC hr hlk hw hl
  have hx := hC.1
  have hb := hC.2.1
  have hS : LW G s s.heap [] := va_S.rf
  have hl : lv_has ls 5 [(0, .ref (bb G + 244)), (1, .ref (bb G + (r0 + 214))), (2, .int x1), (3, .int x2)] := hl
  unfold F_X9_ticksOn at hF
  refine lv_iconst (v := 0) hx hb dX9_ticksOn_0 (by decide) ?_
  refine lv_istore (lv' := [(4, .int (0 : Int32)), (0, .ref (bb G + 244)), (1, .ref (bb G + (r0 + 214))), (2, .int x1), (3, .int x2)]) hx hb dX9_ticksOn_1 hl (by decide) rfl (fun ls hl => ?_)
  obtain ⟨o3, hit3, hG3⟩ := b1_t hF
  have hR3 : ∀ (v4 : Int32) (C5 : Mem) (H : Heap) (locs : List Loc) (ls : Array Slot), o3 = (v4, C5) → Wd G n C5 H → LW G s H locs → lv_has ls 5 [] → W p l e (rmN 6 140) s m ([.ref (bb G + 244), .ref (bb G + (r0 + 214)), .int x1, .int x2] : List Value).toArray below meth c H locs 0 0 (MQ below (QR G n none CR) ([.ref (bb G + 244), .ref (bb G + (r0 + 214)), .int x1, .int x2] : List Value).toArray s 0 0 (frA G)) (F0 m 21 ls []) := by
    intro v4 C5 H locs ls hE hw hS hl
    subst hE
    have hF := u2_t (hG3)
    exact m_vret hC hr hlk hw hS dX9_ticksOn_21 hF
  refine iter_sound (P := fun x : Int32 × Mem => ∀ (H : Heap) (locs : List Loc) (ls : Array Slot), Wd G n x.2 H → LW G s H locs → lv_has ls 5 [(0, .ref (bb G + 244)), (1, .ref (bb G + (r0 + 214))), (2, .int x1), (3, .int x2), (4, .int x.1)] → W p l e (rmN 6 140) s m ([.ref (bb G + 244), .ref (bb G + (r0 + 214)), .int x1, .int x2] : List Value).toArray below meth c H locs 0 0 (MQ below (QR G n none CR) ([.ref (bb G + 244), .ref (bb G + (r0 + 214)), .int x1, .int x2] : List Value).toArray s 0 0 (frA G)) (F0 m 3 ls [])) (X := fun r => r = o3) ?_ fuel ((0 : Int32), C) o3 hit3 rfl _ _ _ hw hS (lv_sub hl [1, 2, 3, 4, 0] rfl)
  intro x oo3 hF hk3 hX3 H locs ls hw hS hl
  obtain ⟨v1, C2⟩ := x
  have hF : S_X9_ticksOn_3 r0 x1 x2 v1 C2 = some oo3 := hF
  have hw : Wd G n C2 H := hw
  have hl : lv_has ls 5 [(0, .ref (bb G + 244)), (1, .ref (bb G + (r0 + 214))), (2, .int x1), (3, .int x2), (4, .int v1)] := hl
  unfold S_X9_ticksOn_3 at hF
  refine lv_iload hx hb dX9_ticksOn_3 (lv_at hl 4 rfl) ?_
  refine lv_iload_n hx hb dX9_ticksOn_5 rfl (lv_at hl 2 rfl) ?_
  refine lv_icmp_ge (tgt := 21) hx hb dX9_ticksOn_6 (by decide) (fun h6 => ?_) (fun h6 => ?_)
  · have hF := it_t h6 hF
    exact hR3 _ _ _ _ _ (it_exit hF hX3).symm hw hS (lv_sub hl [] rfl)
  · have hF := it_f h6 hF
    refine lv_aload_n hx hb dX9_ticksOn_9 rfl (lv_at hl 0 rfl) ?_
    refine lv_aload_n hx hb dX9_ticksOn_10 rfl (lv_at hl 1 rfl) ?_
    refine lv_iload_n hx hb dX9_ticksOn_11 rfl (lv_at hl 3 rfl) ?_
    obtain ⟨r7, C8, hc9, hF⟩ := b2_t hF
    refine call_Vv hC (c_X9_tickOn l G n (by omega) hn2 r0 hr0 x2 _ _ _ hc9) wvX9_119 ⟨rfl, rfl, by decide, by decide⟩ hw hS (by omega) ca_model rfl hl.1 rfl (rest := []) rfl (Nat.le_of_ble_eq_true rfl) dX9_ticksOn_12 ⟨by decide, by decide⟩ (fun H locs hw hS _ => ?_)
    obtain ⟨v10, ev10, hF⟩ := nm_t hF
    refine lv_iinc (v := v10) (lv' := [(4, .int v10), (0, .ref (bb G + 244)), (1, .ref (bb G + (r0 + 214))), (2, .int x1), (3, .int x2)]) hx hb dX9_ticksOn_15 hl (k := 4) rfl (by rw [ev10]; rfl) (by decide) rfl (fun ls hl => ?_)
    refine lv_goto (tgt := 3) hx hb dX9_ticksOn_18 (by decide) ?_
    exact it_back hF hk3 _ _ _ hw hS (lv_sub hl [1, 2, 3, 4, 0] rfl)
set_option maxHeartbeats 4000000 in
set_option maxRecDepth 100000 in
theorem c_X9_flueOn (l : Launch) (G : GG) (n : Nat) (hn : 252 ≤ n) (hn2 : n ≤ 253) (r0 : Nat) (hr0 : 31 ≤ r0 ∧ r0 ≤ 36) (x1 : Int32) (x2 : Int32) (C : Mem) (rR : Int32) (CR : Mem) (hF : F_X9_flueOn r0 x1 x2 C = some (rR, CR)) : Ct l yX9_flueOn cX9_flueOn 7 (some .int) (rmN 1 20) G n C [.ref (bb G + 244), .ref (bb G + (r0 + 214)), .int x1, .int x2] (some (.int rR)) CR := by
  refine Ct.of (by decide) (Nat.le_of_ble_eq_true rfl) ?_
  intro p e s m below meth c ls hC hr hlk hw hl
  have hx := hC.1
  have hb := hC.2.1
  have hS : LW G s s.heap [] := va_S.rf
  have hl : lv_has ls 7 [(0, .ref (bb G + 244)), (1, .ref (bb G + (r0 + 214))), (2, .int x1), (3, .int x2)] := hl
  unfold F_X9_flueOn at hF
  refine lv_aload_n hx hb dX9_flueOn_0 rfl (lv_at hl 1 rfl) ?_
  refine lv_bipush (v := 20) hx hb dX9_flueOn_1 (by decide) ?_
  refine lv_iload_n hx hb dX9_flueOn_3 rfl (lv_at hl 2 rfl) ?_
  refine lv_iadd hx hb dX9_flueOn_4 ?_
  refine lv_iload_n hx hb dX9_flueOn_5 rfl (lv_at hl 3 rfl) ?_
  have hJ14 : ∀ (v2 : Int32) (H : Heap) (locs : List Loc) (ls : Array Slot), J_X9_flueOn_14 r0 x1 x2 C v2 = some (rR, CR) → Wd G n C H → LW G s H locs → lv_has ls 7 [(0, .ref (bb G + 244)), (1, .ref (bb G + (r0 + 214))), (2, .int x1), (3, .int x2)] → W p l e (rmN 1 20) s m ([.ref (bb G + 244), .ref (bb G + (r0 + 214)), .int x1, .int x2] : List Value).toArray below meth c H locs 0 0 (MQ below (QR G n (some (.int rR)) CR) ([.ref (bb G + 244), .ref (bb G + (r0 + 214)), .int x1, .int x2] : List Value).toArray s 0 0 (frA G)) (F0 m 14 ls [.int v2, .int ((20 : Int32) + x1), .ref (bb G + (r0 + 214))]) := by
    intro v2 H locs ls hF hw hS hl
    unfold J_X9_flueOn_14 at hF
    obtain ⟨g3, hF⟩ := gi_t hF
    refine st_marr hC hw hS (by omega) hn2 hr0 g3 dX9_flueOn_14 (fun H locs hw hS _ => ?_)
    obtain ⟨C4, eC4, hF⟩ := nm_t hF
    have hw := Wd.cast eC4 hw
    refine lv_iconst (v := 0) hx hb dX9_flueOn_15 (by decide) ?_
    refine lv_istore (lv' := [(4, .int (0 : Int32)), (0, .ref (bb G + 244)), (1, .ref (bb G + (r0 + 214))), (2, .int x1), (3, .int x2)]) hx hb dX9_flueOn_16 hl (by decide) rfl (fun ls hl => ?_)
    refine lv_iconst (v := 0) hx hb dX9_flueOn_18 (by decide) ?_
    refine lv_istore (lv' := [(5, .int (0 : Int32)), (4, .int (0 : Int32)), (0, .ref (bb G + 244)), (1, .ref (bb G + (r0 + 214))), (2, .int x1), (3, .int x2)]) hx hb dX9_flueOn_19 hl (by decide) rfl (fun ls hl => ?_)
    obtain ⟨o8, hit8, hG8⟩ := b1_t hF
    have hR8 : ∀ (v9 : Int32) (v10 : Int32) (C11 : Mem) (H : Heap) (locs : List Loc) (ls : Array Slot), o8 = (v9, v10, C11) → Wd G n C11 H → LW G s H locs → lv_has ls 7 [(4, .int v9)] → W p l e (rmN 1 20) s m ([.ref (bb G + 244), .ref (bb G + (r0 + 214)), .int x1, .int x2] : List Value).toArray below meth c H locs 0 0 (MQ below (QR G n (some (.int rR)) CR) ([.ref (bb G + 244), .ref (bb G + (r0 + 214)), .int x1, .int x2] : List Value).toArray s 0 0 (frA G)) (F0 m 101 ls []) := by
      intro v9 v10 C11 H locs ls hE hw hS hl
      subst hE
      have hF := u3_t (hG8)
      refine lv_iload hx hb dX9_flueOn_101 (lv_at hl 0 rfl) ?_
      exact m_iret hC hr hlk hw hS dX9_flueOn_103 hF
    refine iter_sound (P := fun x : Int32 × Int32 × Mem => ∀ (H : Heap) (locs : List Loc) (ls : Array Slot), Wd G n x.2.2 H → LW G s H locs → lv_has ls 7 [(0, .ref (bb G + 244)), (1, .ref (bb G + (r0 + 214))), (2, .int x1), (3, .int x2), (4, .int x.1), (5, .int x.2.1)] → W p l e (rmN 1 20) s m ([.ref (bb G + 244), .ref (bb G + (r0 + 214)), .int x1, .int x2] : List Value).toArray below meth c H locs 0 0 (MQ below (QR G n (some (.int rR)) CR) ([.ref (bb G + 244), .ref (bb G + (r0 + 214)), .int x1, .int x2] : List Value).toArray s 0 0 (frA G)) (F0 m 21 ls [])) (X := fun r => r = o8) ?_ fuel ((0 : Int32), (0 : Int32), C4) o8 hit8 rfl _ _ _ hw hS (lv_sub hl [2, 3, 4, 5, 1, 0] rfl)
    intro x oo8 hF hk8 hX8 H locs ls hw hS hl
    obtain ⟨v5, v6, C7⟩ := x
    have hF : S_X9_flueOn_21 r0 x1 x2 v5 v6 C7 = some oo8 := hF
    have hw : Wd G n C7 H := hw
    have hl : lv_has ls 7 [(0, .ref (bb G + 244)), (1, .ref (bb G + (r0 + 214))), (2, .int x1), (3, .int x2), (4, .int v5), (5, .int v6)] := hl
    unfold S_X9_flueOn_21 at hF
    refine lv_iload hx hb dX9_flueOn_21 (lv_at hl 5 rfl) ?_
    refine lv_aload_n hx hb dX9_flueOn_23 rfl (lv_at hl 0 rfl) ?_
    refine gX9_13 hC hw (by omega)  dX9_flueOn_24 ?_
    refine lv_icmp_ge (tgt := 101) hx hb dX9_flueOn_27 (by decide) (fun h12 => ?_) (fun h12 => ?_)
    · have hF := it_t h12 hF
      exact hR8 _ _ _ _ _ _ (it_exit hF hX8).symm hw hS (lv_sub hl [4] rfl)
    · have hF := it_f h12 hF
      refine lv_iload_n hx hb dX9_flueOn_30 rfl (lv_at hl 3 rfl) ?_
      refine lv_if_ne (tgt := 101) hx hb dX9_flueOn_31 (by decide) (fun h13 => ?_) (fun h13 => ?_)
      · have hF := it_f h13 hF
        exact hR8 _ _ _ _ _ _ (it_exit hF hX8).symm hw hS (lv_sub hl [4] rfl)
      · have hF := it_t h13 hF
        refine lv_aload_n hx hb dX9_flueOn_34 rfl (lv_at hl 1 rfl) ?_
        refine lv_iload hx hb dX9_flueOn_35 (lv_at hl 5 rfl) ?_
        obtain ⟨r14, C15, hc16, hF⟩ := b2_t hF
        refine call_Si hC (c_X9_at l G n (by omega) hn2 v6 _ _ _ hc16) wsX9_68 ⟨rfl, rfl, by decide, by decide⟩ hw hS hl.1 rfl (rest := [.ref (bb G + (r0 + 214))]) rfl (Nat.le_of_ble_eq_true rfl) dX9_flueOn_37 ⟨by decide, by decide⟩ (fun H locs hw hS _ => ?_)
        refine lv_iconst (v := 2) hx hb dX9_flueOn_40 (by decide) ?_
        refine lv_iadd hx hb dX9_flueOn_41 ?_
        obtain ⟨g17, hF⟩ := gi_t hF
        refine ld_marr hC hw (by omega) hr0 g17 dX9_flueOn_42 ?_
        obtain ⟨v18, ev18, hF⟩ := nm_t hF
        refine lv_nmi ev18 ?_
        refine lv_istore (lv' := [(6, .int v18), (0, .ref (bb G + 244)), (1, .ref (bb G + (r0 + 214))), (2, .int x1), (3, .int x2), (4, .int v5), (5, .int v6)]) hx hb dX9_flueOn_43 hl (by decide) rfl (fun ls hl => ?_)
        refine lv_aload_n hx hb dX9_flueOn_45 rfl (lv_at hl 2 rfl) ?_
        refine lv_iload hx hb dX9_flueOn_46 (lv_at hl 6 rfl) ?_
        obtain ⟨r19, C20, hc21, hF⟩ := b2_t hF
        refine call_Si hC (c_X9_at l G n (by omega) hn2 v6 _ _ _ hc21) wsX9_68 ⟨rfl, rfl, by decide, by decide⟩ hw hS hl.1 rfl (rest := [.ref (bb G + (r0 + 214))]) rfl (Nat.le_of_ble_eq_true rfl) dX9_flueOn_48 ⟨by decide, by decide⟩ (fun H locs hw hS _ => ?_)
        refine lv_iconst (v := 1) hx hb dX9_flueOn_51 (by decide) ?_
        refine lv_iadd hx hb dX9_flueOn_52 ?_
        obtain ⟨g22, hF⟩ := gi_t hF
        refine ld_marr hC hw (by omega) hr0 g22 dX9_flueOn_53 ?_
        refine lv_iload_n hx hb dX9_flueOn_54 rfl (lv_at hl 3 rfl) ?_
        refine lv_icmp_ne (tgt := 95) hx hb dX9_flueOn_55 (by decide) (fun h23 => ?_) (fun h23 => ?_)
        · have hF := it_f h23 hF
          obtain ⟨v24, ev24, hF⟩ := nm_t hF
          refine lv_iinc (v := v24) (lv' := [(5, .int v24), (6, .int v18), (0, .ref (bb G + 244)), (1, .ref (bb G + (r0 + 214))), (2, .int x1), (3, .int x2), (4, .int v5)]) hx hb dX9_flueOn_95 hl (k := 6) rfl (by rw [ev24]; rfl) (by decide) rfl (fun ls hl => ?_)
          refine lv_goto (tgt := 21) hx hb dX9_flueOn_98 (by decide) ?_
          exact it_back hF hk8 _ _ _ hw hS (lv_sub hl [2, 3, 4, 5, 6, 0] rfl)
        · have hF := it_t h23 hF
          refine lv_iload hx hb dX9_flueOn_58 (lv_at hl 0 rfl) ?_
          obtain ⟨r25, C26, hc27, hF⟩ := b2_t hF
          refine call_Si hC (c_X9_works l G n (by omega) hn2 v18 _ _ _ hc27) wsX9_72 ⟨rfl, rfl, by decide, by decide⟩ hw hS hl.1 rfl (rest := []) rfl (Nat.le_of_ble_eq_true rfl) dX9_flueOn_60 ⟨by decide, by decide⟩ (fun H locs hw hS _ => ?_)
          refine lv_if_ne (tgt := 72) hx hb dX9_flueOn_63 (by decide) (fun h28 => ?_) (fun h28 => ?_)
          · have hF := it_f h28 hF
            refine lv_aload_n hx hb dX9_flueOn_72 rfl (lv_at hl 2 rfl) ?_
            refine lv_iload hx hb dX9_flueOn_73 (lv_at hl 6 rfl) ?_
            obtain ⟨r29, C30, hc31, hF⟩ := b2_t hF
            refine call_Si hC (c_X9_at l G n (by omega) hn2 v6 _ _ _ hc31) wsX9_68 ⟨rfl, rfl, by decide, by decide⟩ hw hS hl.1 rfl (rest := [.ref (bb G + (r0 + 214))]) rfl (Nat.le_of_ble_eq_true rfl) dX9_flueOn_75 ⟨by decide, by decide⟩ (fun H locs hw hS _ => ?_)
            refine lv_iconst (v := 2) hx hb dX9_flueOn_78 (by decide) ?_
            refine lv_iadd hx hb dX9_flueOn_79 ?_
            refine lv_iconst (v := 0) hx hb dX9_flueOn_80 (by decide) ?_
            obtain ⟨g32, hF⟩ := gi_t hF
            refine st_marr hC hw hS (by omega) hn2 hr0 g32 dX9_flueOn_81 (fun H locs hw hS _ => ?_)
            obtain ⟨C33, eC33, hF⟩ := nm_t hF
            have hw := Wd.cast eC33 hw
            refine lv_aload_n hx hb dX9_flueOn_82 rfl (lv_at hl 2 rfl) ?_
            refine lv_iload hx hb dX9_flueOn_83 (lv_at hl 6 rfl) ?_
            obtain ⟨r34, C35, hc36, hF⟩ := b2_t hF
            refine call_Si hC (c_X9_at l G n (by omega) hn2 v6 _ _ _ hc36) wsX9_68 ⟨rfl, rfl, by decide, by decide⟩ hw hS hl.1 rfl (rest := [.ref (bb G + (r0 + 214))]) rfl (Nat.le_of_ble_eq_true rfl) dX9_flueOn_85 ⟨by decide, by decide⟩ (fun H locs hw hS _ => ?_)
            refine lv_iconst (v := 3) hx hb dX9_flueOn_88 (by decide) ?_
            refine lv_iadd hx hb dX9_flueOn_89 ?_
            refine lv_iconst (v := 0) hx hb dX9_flueOn_90 (by decide) ?_
            obtain ⟨g37, hF⟩ := gi_t hF
            refine st_marr hC hw hS (by omega) hn2 hr0 g37 dX9_flueOn_91 (fun H locs hw hS _ => ?_)
            obtain ⟨C38, eC38, hF⟩ := nm_t hF
            have hw := Wd.cast eC38 hw
            obtain ⟨v39, ev39, hF⟩ := nm_t hF
            refine lv_iinc (v := v39) (lv' := [(4, .int v39), (6, .int v18), (0, .ref (bb G + 244)), (1, .ref (bb G + (r0 + 214))), (2, .int x1), (3, .int x2), (5, .int v6)]) hx hb dX9_flueOn_92 hl (k := 5) rfl (by rw [ev39]; rfl) (by decide) rfl (fun ls hl => ?_)
            obtain ⟨v40, ev40, hF⟩ := nm_t hF
            refine lv_iinc (v := v40) (lv' := [(5, .int v40), (4, .int v39), (6, .int v18), (0, .ref (bb G + 244)), (1, .ref (bb G + (r0 + 214))), (2, .int x1), (3, .int x2)]) hx hb dX9_flueOn_95 hl (k := 6) rfl (by rw [ev40]; rfl) (by decide) rfl (fun ls hl => ?_)
            refine lv_goto (tgt := 21) hx hb dX9_flueOn_98 (by decide) ?_
            exact it_back hF hk8 _ _ _ hw hS (lv_sub hl [3, 4, 5, 6, 1, 0] rfl)
          · have hF := it_t h28 hF
            refine lv_iload hx hb dX9_flueOn_66 (lv_at hl 0 rfl) ?_
            refine lv_iconst (v := 3) hx hb dX9_flueOn_68 (by decide) ?_
            refine lv_icmp_ne (tgt := 95) hx hb dX9_flueOn_69 (by decide) (fun h41 => ?_) (fun h41 => ?_)
            · have hF := it_f h41 hF
              obtain ⟨v42, ev42, hF⟩ := nm_t hF
              refine lv_iinc (v := v42) (lv' := [(5, .int v42), (6, .int v18), (0, .ref (bb G + 244)), (1, .ref (bb G + (r0 + 214))), (2, .int x1), (3, .int x2), (4, .int v5)]) hx hb dX9_flueOn_95 hl (k := 6) rfl (by rw [ev42]; rfl) (by decide) rfl (fun ls hl => ?_)
              refine lv_goto (tgt := 21) hx hb dX9_flueOn_98 (by decide) ?_
              exact it_back hF hk8 _ _ _ hw hS (lv_sub hl [2, 3, 4, 5, 6, 0] rfl)
            · have hF := it_t h41 hF
              refine lv_aload_n hx hb dX9_flueOn_72 rfl (lv_at hl 2 rfl) ?_
              refine lv_iload hx hb dX9_flueOn_73 (lv_at hl 6 rfl) ?_
              obtain ⟨r43, C44, hc45, hF⟩ := b2_t hF
              refine call_Si hC (c_X9_at l G n (by omega) hn2 v6 _ _ _ hc45) wsX9_68 ⟨rfl, rfl, by decide, by decide⟩ hw hS hl.1 rfl (rest := [.ref (bb G + (r0 + 214))]) rfl (Nat.le_of_ble_eq_true rfl) dX9_flueOn_75 ⟨by decide, by decide⟩ (fun H locs hw hS _ => ?_)
              refine lv_iconst (v := 2) hx hb dX9_flueOn_78 (by decide) ?_
              refine lv_iadd hx hb dX9_flueOn_79 ?_
              refine lv_iconst (v := 0) hx hb dX9_flueOn_80 (by decide) ?_
              obtain ⟨g46, hF⟩ := gi_t hF
              refine st_marr hC hw hS (by omega) hn2 hr0 g46 dX9_flueOn_81 (fun H locs hw hS _ => ?_)
              obtain ⟨C47, eC47, hF⟩ := nm_t hF
              have hw := Wd.cast eC47 hw
              refine lv_aload_n hx hb dX9_flueOn_82 rfl (lv_at hl 2 rfl) ?_
              refine lv_iload hx hb dX9_flueOn_83 (lv_at hl 6 rfl) ?_
              obtain ⟨r48, C49, hc50, hF⟩ := b2_t hF
              refine call_Si hC (c_X9_at l G n (by omega) hn2 v6 _ _ _ hc50) wsX9_68 ⟨rfl, rfl, by decide, by decide⟩ hw hS hl.1 rfl (rest := [.ref (bb G + (r0 + 214))]) rfl (Nat.le_of_ble_eq_true rfl) dX9_flueOn_85 ⟨by decide, by decide⟩ (fun H locs hw hS _ => ?_)
              refine lv_iconst (v := 3) hx hb dX9_flueOn_88 (by decide) ?_
              refine lv_iadd hx hb dX9_flueOn_89 ?_
              refine lv_iconst (v := 0) hx hb dX9_flueOn_90 (by decide) ?_
              obtain ⟨g51, hF⟩ := gi_t hF
              refine st_marr hC hw hS (by omega) hn2 hr0 g51 dX9_flueOn_91 (fun H locs hw hS _ => ?_)
              obtain ⟨C52, eC52, hF⟩ := nm_t hF
              have hw := Wd.cast eC52 hw
              obtain ⟨v53, ev53, hF⟩ := nm_t hF
              refine lv_iinc (v := v53) (lv' := [(4, .int v53), (6, .int v18), (0, .ref (bb G + 244)), (1, .ref (bb G + (r0 + 214))), (2, .int x1), (3, .int x2), (5, .int v6)]) hx hb dX9_flueOn_92 hl (k := 5) rfl (by rw [ev53]; rfl) (by decide) rfl (fun ls hl => ?_)
              obtain ⟨v54, ev54, hF⟩ := nm_t hF
              refine lv_iinc (v := v54) (lv' := [(5, .int v54), (4, .int v53), (6, .int v18), (0, .ref (bb G + 244)), (1, .ref (bb G + (r0 + 214))), (2, .int x1), (3, .int x2)]) hx hb dX9_flueOn_95 hl (k := 6) rfl (by rw [ev54]; rfl) (by decide) rfl (fun ls hl => ?_)
              refine lv_goto (tgt := 21) hx hb dX9_flueOn_98 (by decide) ?_
              exact it_back hF hk8 _ _ _ hw hS (lv_sub hl [3, 4, 5, 6, 1, 0] rfl)
  refine lv_if_eq (tgt := 13) hx hb dX9_flueOn_6 (by decide) (fun h1 => ?_) (fun h1 => ?_)
  · have hF := it_t h1 hF
    refine lv_iconst (v := 0) hx hb dX9_flueOn_13 (by decide) ?_
    exact hJ14 (0 : Int32) _ _ _ hF hw hS (lv_sub hl [0, 1, 2, 3] rfl)
  · have hF := it_f h1 hF
    refine lv_iconst (v := 1) hx hb dX9_flueOn_9 (by decide) ?_
    refine lv_goto (tgt := 14) hx hb dX9_flueOn_10 (by decide) ?_
    exact hJ14 (1 : Int32) _ _ _ hF hw hS (lv_sub hl [0, 1, 2, 3] rfl)
set_option maxHeartbeats 4000000 in
set_option maxRecDepth 100000 in
theorem c_X9_put (l : Launch) (G : GG) (n : Nat) (hn : 252 ≤ n) (hn2 : n ≤ 253) (r0 : Nat) (hr0 : 31 ≤ r0 ∧ r0 ≤ 36) (x1 : Int32) (x2 : Int32) (C : Mem) (rR : Int32) (CR : Mem) (hF : F_X9_put r0 x1 x2 C = some (rR, CR)) : Ct l yX9_put cX9_put 3 none (rmN 1 20) G n C [.ref (bb G + (r0 + 214)), .int x1, .int x2] none CR := by
  refine Ct.of (by decide) (Nat.le_of_ble_eq_true rfl) ?_
  intro p e s m below meth c ls hC hr hlk hw hl
  have hx := hC.1
  have hb := hC.2.1
  have hS : LW G s s.heap [] := va_S.rf
  have hl : lv_has ls 3 [(0, .ref (bb G + (r0 + 214))), (1, .int x1), (2, .int x2)] := hl
  unfold F_X9_put at hF
  refine lv_aload_n hx hb dX9_put_0 rfl (lv_at hl 0 rfl) ?_
  refine lv_iload_n hx hb dX9_put_1 rfl (lv_at hl 1 rfl) ?_
  obtain ⟨r1, C2, hc3, hF⟩ := b2_t hF
  refine call_Si hC (c_X9_at l G n (by omega) hn2 x1 _ _ _ hc3) wsX9_68 ⟨rfl, rfl, by decide, by decide⟩ hw hS hl.1 rfl (rest := [.ref (bb G + (r0 + 214))]) rfl (Nat.le_of_ble_eq_true rfl) dX9_put_2 ⟨by decide, by decide⟩ (fun H locs hw hS _ => ?_)
  refine lv_iconst (v := 2) hx hb dX9_put_5 (by decide) ?_
  refine lv_iadd hx hb dX9_put_6 ?_
  refine lv_iload_n hx hb dX9_put_7 rfl (lv_at hl 2 rfl) ?_
  obtain ⟨g4, hF⟩ := gi_t hF
  refine st_marr hC hw hS (by omega) hn2 hr0 g4 dX9_put_8 (fun H locs hw hS _ => ?_)
  obtain ⟨C5, eC5, hF⟩ := nm_t hF
  have hw := Wd.cast eC5 hw
  refine lv_aload_n hx hb dX9_put_9 rfl (lv_at hl 0 rfl) ?_
  refine lv_iload_n hx hb dX9_put_10 rfl (lv_at hl 1 rfl) ?_
  obtain ⟨r6, C7, hc8, hF⟩ := b2_t hF
  refine call_Si hC (c_X9_at l G n (by omega) hn2 x1 _ _ _ hc8) wsX9_68 ⟨rfl, rfl, by decide, by decide⟩ hw hS hl.1 rfl (rest := [.ref (bb G + (r0 + 214))]) rfl (Nat.le_of_ble_eq_true rfl) dX9_put_11 ⟨by decide, by decide⟩ (fun H locs hw hS _ => ?_)
  refine lv_iconst (v := 3) hx hb dX9_put_14 (by decide) ?_
  refine lv_iadd hx hb dX9_put_15 ?_
  refine lv_iconst (v := 0) hx hb dX9_put_16 (by decide) ?_
  obtain ⟨g9, hF⟩ := gi_t hF
  refine st_marr hC hw hS (by omega) hn2 hr0 g9 dX9_put_17 (fun H locs hw hS _ => ?_)
  obtain ⟨C10, eC10, hF⟩ := nm_t hF
  have hw := Wd.cast eC10 hw
  exact m_vret hC hr hlk hw hS dX9_put_18 hF
set_option maxHeartbeats 4000000 in
set_option maxRecDepth 100000 in
theorem c_X9_append (l : Launch) (G : GG) (n : Nat) (hn : 252 ≤ n) (hn2 : n ≤ 253) (x0 : Int32) (C : Mem) (rR : Int32) (CR : Mem) (hF : F_X9_append x0 C = some (rR, CR)) : Ct l yX9_append cX9_append 2 (some .int) (rmN 1 25) G n C [.ref (bb G + 244), .int x0] (some (.int rR)) CR := by
  refine Ct.of (by decide) (Nat.le_of_ble_eq_true rfl) ?_
  intro p e s m below meth c ls hC hr hlk hw hl
  have hx := hC.1
  have hb := hC.2.1
  have hS : LW G s s.heap [] := va_S.rf
  have hl : lv_has ls 2 [(0, .ref (bb G + 244)), (1, .int x0)] := hl
  unfold F_X9_append at hF
  refine lv_aload_n hx hb dX9_append_0 rfl (lv_at hl 0 rfl) ?_
  refine lv_iload_n hx hb dX9_append_1 rfl (lv_at hl 1 rfl) ?_
  refine lv_i2l (v := (x0).toInt64) hx hb dX9_append_2 rfl ?_
  refine lv_lconst (v := 0) hx hb dX9_append_3 (by decide) ?_
  refine lv_ldc2 (v := 255) hx hb hC.2.2.2.1 (hC.2.2.2.2.1 _ kcX9_122) dX9_append_4 ?_
  obtain ⟨r1, C2, hc3, hF⟩ := b2_t hF
  refine call_Si hC (c_X9_in l G n (by omega) hn2 ((x0).toInt64) (0 : Int64) (255 : Int64) _ _ _ hc3) wsX9_50 ⟨rfl, rfl, by decide, by decide⟩ hw hS hl.1 rfl (rest := [.ref (bb G + 244)]) rfl (Nat.le_of_ble_eq_true rfl) dX9_append_7 ⟨by decide, by decide⟩ (fun H locs hw hS _ => ?_)
  have hJ31 : ∀ (v5 : Int32) (H : Heap) (locs : List Loc) (ls : Array Slot), J_X9_append_31 x0 C2 v5 = some (rR, CR) → Wd G n C2 H → LW G s H locs → lv_has ls 2 [(0, .ref (bb G + 244)), (1, .int x0)] → W p l e (rmN 1 25) s m ([.ref (bb G + 244), .int x0] : List Value).toArray below meth c H locs 0 0 (MQ below (QR G n (some (.int rR)) CR) ([.ref (bb G + 244), .int x0] : List Value).toArray s 0 0 (frA G)) (F0 m 31 ls [.int v5, .ref (bb G + 244)]) := by
    intro v5 H locs ls hF hw hS hl
    unfold J_X9_append_31 at hF
    obtain ⟨r6, C7, hc8, hF⟩ := b2_t hF
    refine call_Vi hC (c_X9_refused l G n (by omega) hn2 v5 _ _ _ hc8) wvX9_127 ⟨rfl, rfl, by decide, by decide⟩ hw hS (by omega) ca_model rfl hl.1 rfl (rest := []) rfl (Nat.le_of_ble_eq_true rfl) dX9_append_31 ⟨by decide, by decide⟩ (fun H locs hw hS _ => ?_)
    refine lv_if_eq (tgt := 39) hx hb dX9_append_34 (by decide) (fun h9 => ?_) (fun h9 => ?_)
    · have hF := it_t h9 hF
      refine lv_aload_n hx hb dX9_append_39 rfl (lv_at hl 0 rfl) ?_
      refine gX9_7 hC hw (by omega)  dX9_append_40 ?_
      refine lv_aload_n hx hb dX9_append_43 rfl (lv_at hl 0 rfl) ?_
      refine gX9_124 hC hw (by omega)  dX9_append_44 ?_
      refine lv_iload_n hx hb dX9_append_47 rfl (lv_at hl 1 rfl) ?_
      obtain ⟨g10, hF⟩ := gi_t hF
      refine st_marr hC hw hS (by omega) hn2 (show 31 ≤ 31 ∧ 31 ≤ 36 by decide) g10 dX9_append_48 (fun H locs hw hS _ => ?_)
      obtain ⟨C11, eC11, hF⟩ := nm_t hF
      have hw := Wd.cast eC11 hw
      refine lv_aload_n hx hb dX9_append_49 rfl (lv_at hl 0 rfl) ?_
      refine lv_dup hx hb dX9_append_50 rfl ?_
      refine gX9_124 hC hw (by omega)  dX9_append_51 ?_
      refine lv_iconst (v := 1) hx hb dX9_append_54 (by decide) ?_
      refine lv_iadd hx hb dX9_append_55 ?_
      refine pX9_124 hC hw hS (by omega) hn2  dX9_append_56 (fun H locs hw hS _ => ?_)
      obtain ⟨C12, eC12, hF⟩ := nm_t hF
      have hw := Wd.cast eC12 hw
      refine lv_aload_n hx hb dX9_append_59 rfl (lv_at hl 0 rfl) ?_
      refine gX9_124 hC hw (by omega)  dX9_append_60 ?_
      exact m_iret hC hr hlk hw hS dX9_append_63 hF
    · have hF := it_f h9 hF
      refine lv_iconst (v := 0) hx hb dX9_append_37 (by decide) ?_
      exact m_iret hC hr hlk hw hS dX9_append_38 hF
  refine lv_if_ne (tgt := 17) hx hb dX9_append_10 (by decide) (fun h4 => ?_) (fun h4 => ?_)
  · have hF := it_f h4 hF
    refine lv_aload_n hx hb dX9_append_17 rfl (lv_at hl 0 rfl) ?_
    refine gX9_124 hC hw (by omega)  dX9_append_18 ?_
    refine lv_bipush (v := 60) hx hb dX9_append_21 (by decide) ?_
    refine lv_icmp_ne (tgt := 30) hx hb dX9_append_23 (by decide) (fun h13 => ?_) (fun h13 => ?_)
    · have hF := it_f h13 hF
      refine lv_iconst (v := 0) hx hb dX9_append_30 (by decide) ?_
      exact hJ31 (0 : Int32) _ _ _ hF hw hS (lv_sub hl [0, 1] rfl)
    · have hF := it_t h13 hF
      refine lv_iconst (v := 2) hx hb dX9_append_26 (by decide) ?_
      refine lv_goto (tgt := 31) hx hb dX9_append_27 (by decide) ?_
      exact hJ31 (2 : Int32) _ _ _ hF hw hS (lv_sub hl [0, 1] rfl)
  · have hF := it_t h4 hF
    refine lv_iconst (v := 1) hx hb dX9_append_13 (by decide) ?_
    refine lv_goto (tgt := 31) hx hb dX9_append_14 (by decide) ?_
    exact hJ31 (1 : Int32) _ _ _ hF hw hS (lv_sub hl [0, 1] rfl)
set_option maxHeartbeats 4000000 in
set_option maxRecDepth 100000 in
theorem c_X9_clearText (l : Launch) (G : GG) (n : Nat) (hn : 252 ≤ n) (hn2 : n ≤ 253)  (C : Mem) (rR : Int32) (CR : Mem) (hF : F_X9_clearText  C = some (rR, CR)) : Ct l yX9_clearText cX9_clearText 2 (some .int) (rmN 0 0) G n C [.ref (bb G + 244)] (some (.int rR)) CR := by
  refine Ct.of (by decide) (Nat.le_of_ble_eq_true rfl) ?_
  intro p e s m below meth c ls hC hr hlk hw hl
  have hx := hC.1
  have hb := hC.2.1
  have hS : LW G s s.heap [] := va_S.rf
  have hl : lv_has ls 2 [(0, .ref (bb G + 244))] := hl
  unfold F_X9_clearText at hF
  refine lv_aload_n hx hb dX9_clearText_0 rfl (lv_at hl 0 rfl) ?_
  refine lv_iconst (v := 0) hx hb dX9_clearText_1 (by decide) ?_
  refine pX9_43 hC hw hS (by omega) hn2  dX9_clearText_2 (fun H locs hw hS _ => ?_)
  obtain ⟨C1, eC1, hF⟩ := nm_t hF
  have hw := Wd.cast eC1 hw
  refine lv_aload_n hx hb dX9_clearText_5 rfl (lv_at hl 0 rfl) ?_
  refine gX9_124 hC hw (by omega)  dX9_clearText_6 ?_
  obtain ⟨v2, ev2, hF⟩ := nm_t hF
  refine lv_nmi ev2 ?_
  refine lv_istore_n (lv' := [(1, .int v2), (0, .ref (bb G + 244))]) hx hb dX9_clearText_9 rfl hl (by decide) rfl (fun ls hl => ?_)
  refine lv_aload_n hx hb dX9_clearText_10 rfl (lv_at hl 1 rfl) ?_
  refine lv_iconst (v := 0) hx hb dX9_clearText_11 (by decide) ?_
  refine pX9_124 hC hw hS (by omega) hn2  dX9_clearText_12 (fun H locs hw hS _ => ?_)
  obtain ⟨C3, eC3, hF⟩ := nm_t hF
  have hw := Wd.cast eC3 hw
  refine lv_iload_n hx hb dX9_clearText_15 rfl (lv_at hl 0 rfl) ?_
  exact m_iret hC hr hlk hw hS dX9_clearText_16 hF
set_option maxHeartbeats 4000000 in
set_option maxRecDepth 100000 in
theorem c_X9_eat (l : Launch) (G : GG) (n : Nat) (hn : 252 ≤ n) (hn2 : n ≤ 253) (x0 : Int32) (C : Mem) (rR : Int32) (CR : Mem) (hF : F_X9_eat x0 C = some (rR, CR)) : Ct l yX9_eat cX9_eat 3 (some .boolean) (rmN 0 0) G n C [.ref (bb G + 244), .int x0] (some (.int rR)) CR := by
  refine Ct.of (by decide) (Nat.le_of_ble_eq_true rfl) ?_
  intro p e s m below meth c ls hC hr hlk hw hl
  have hx := hC.1
  have hb := hC.2.1
  have hS : LW G s s.heap [] := va_S.rf
  have hl : lv_has ls 3 [(0, .ref (bb G + 244)), (1, .int x0)] := hl
  unfold F_X9_eat at hF
  refine lv_aload_n hx hb dX9_eat_0 rfl (lv_at hl 0 rfl) ?_
  refine gX9_130 hC hw (by omega)  dX9_eat_1 ?_
  refine lv_aload_n hx hb dX9_eat_4 rfl (lv_at hl 0 rfl) ?_
  refine gX9_124 hC hw (by omega)  dX9_eat_5 ?_
  have hJ29 : ∀ (v2 : Int32) (H : Heap) (locs : List Loc) (ls : Array Slot), J_X9_eat_29 C v2 = some (rR, CR) → Wd G n C H → LW G s H locs → lv_has ls 3 [(0, .ref (bb G + 244))] → W p l e (rmN 0 0) s m ([.ref (bb G + 244), .int x0] : List Value).toArray below meth c H locs 0 0 (MQ below (QR G n (some (.int rR)) CR) ([.ref (bb G + 244), .int x0] : List Value).toArray s 0 0 (frA G)) (F0 m 29 ls [.int v2]) := by
    intro v2 H locs ls hF hw hS hl
    unfold J_X9_eat_29 at hF
    refine lv_istore_n (lv' := [(2, .int v2), (0, .ref (bb G + 244))]) hx hb dX9_eat_29 rfl hl (by decide) rfl (fun ls hl => ?_)
    refine lv_aload_n hx hb dX9_eat_30 rfl (lv_at hl 1 rfl) ?_
    refine lv_dup hx hb dX9_eat_31 rfl ?_
    refine gX9_130 hC hw (by omega)  dX9_eat_32 ?_
    refine lv_iload_n hx hb dX9_eat_35 rfl (lv_at hl 0 rfl) ?_
    refine lv_if_eq (tgt := 43) hx hb dX9_eat_36 (by decide) (fun h3 => ?_) (fun h3 => ?_)
    · have hF := it_t h3 hF
      refine lv_iconst (v := 0) hx hb dX9_eat_43 (by decide) ?_
      refine lv_iadd hx hb dX9_eat_44 ?_
      refine pX9_130 hC hw hS (by omega) hn2  dX9_eat_45 (fun H locs hw hS _ => ?_)
      obtain ⟨C4, eC4, hF⟩ := nm_t hF
      have hw := Wd.cast eC4 hw
      refine lv_iload_n hx hb dX9_eat_48 rfl (lv_at hl 0 rfl) ?_
      obtain ⟨g5, hF⟩ := gb_t hF
      exact m_zret hC hr hlk hw hS dX9_eat_49 g5 hF
    · have hF := it_f h3 hF
      refine lv_iconst (v := 1) hx hb dX9_eat_39 (by decide) ?_
      refine lv_goto (tgt := 44) hx hb dX9_eat_40 (by decide) ?_
      refine lv_iadd hx hb dX9_eat_44 ?_
      refine pX9_130 hC hw hS (by omega) hn2  dX9_eat_45 (fun H locs hw hS _ => ?_)
      obtain ⟨C6, eC6, hF⟩ := nm_t hF
      have hw := Wd.cast eC6 hw
      refine lv_iload_n hx hb dX9_eat_48 rfl (lv_at hl 0 rfl) ?_
      obtain ⟨g7, hF⟩ := gb_t hF
      exact m_zret hC hr hlk hw hS dX9_eat_49 g7 hF
  refine lv_icmp_ge (tgt := 28) hx hb dX9_eat_8 (by decide) (fun h1 => ?_) (fun h1 => ?_)
  · have hF := it_t h1 hF
    refine lv_iconst (v := 0) hx hb dX9_eat_28 (by decide) ?_
    exact hJ29 (0 : Int32) _ _ _ hF hw hS (lv_sub hl [0] rfl)
  · have hF := it_f h1 hF
    refine lv_aload_n hx hb dX9_eat_11 rfl (lv_at hl 0 rfl) ?_
    refine gX9_7 hC hw (by omega)  dX9_eat_12 ?_
    refine lv_aload_n hx hb dX9_eat_15 rfl (lv_at hl 0 rfl) ?_
    refine gX9_130 hC hw (by omega)  dX9_eat_16 ?_
    obtain ⟨g8, hF⟩ := gi_t hF
    refine ld_marr hC hw (by omega) (show 31 ≤ 31 ∧ 31 ≤ 36 by decide) g8 dX9_eat_19 ?_
    refine lv_iload_n hx hb dX9_eat_20 rfl (lv_at hl 1 rfl) ?_
    refine lv_icmp_ne (tgt := 28) hx hb dX9_eat_21 (by decide) (fun h9 => ?_) (fun h9 => ?_)
    · have hF := it_f h9 hF
      refine lv_iconst (v := 0) hx hb dX9_eat_28 (by decide) ?_
      exact hJ29 (0 : Int32) _ _ _ hF hw hS (lv_sub hl [0] rfl)
    · have hF := it_t h9 hF
      refine lv_iconst (v := 1) hx hb dX9_eat_24 (by decide) ?_
      refine lv_goto (tgt := 29) hx hb dX9_eat_25 (by decide) ?_
      exact hJ29 (1 : Int32) _ _ _ hF hw hS (lv_sub hl [0] rfl)
set_option maxHeartbeats 4000000 in
set_option maxRecDepth 100000 in
theorem c_X9_digit (l : Launch) (G : GG) (n : Nat) (hn : 252 ≤ n) (hn2 : n ≤ 253) (x0 : Int32) (x1 : Int32) (C : Mem) (rR : Int32) (CR : Mem) (hF : F_X9_digit x0 x1 C = some (rR, CR)) : Ct l yX9_digit cX9_digit 5 (some .int) (rmN 1 25) G n C [.ref (bb G + 244), .int x0, .int x1] (some (.int rR)) CR := by
  refine Ct.of (by decide) (Nat.le_of_ble_eq_true rfl) ?_
  intro p e s m below meth c ls hC hr hlk hw hl
  have hx := hC.1
  have hb := hC.2.1
  have hS : LW G s s.heap [] := va_S.rf
  have hl : lv_has ls 5 [(0, .ref (bb G + 244)), (1, .int x0), (2, .int x1)] := hl
  unfold F_X9_digit at hF
  refine lv_aload_n hx hb dX9_digit_0 rfl (lv_at hl 0 rfl) ?_
  refine gX9_130 hC hw (by omega)  dX9_digit_1 ?_
  refine lv_aload_n hx hb dX9_digit_4 rfl (lv_at hl 0 rfl) ?_
  refine gX9_124 hC hw (by omega)  dX9_digit_5 ?_
  have hJ28 : ∀ (v2 : Int32) (H : Heap) (locs : List Loc) (ls : Array Slot), J_X9_digit_28 x0 x1 C v2 = some (rR, CR) → Wd G n C H → LW G s H locs → lv_has ls 5 [(0, .ref (bb G + 244)), (1, .int x0), (2, .int x1)] → W p l e (rmN 1 25) s m ([.ref (bb G + 244), .int x0, .int x1] : List Value).toArray below meth c H locs 0 0 (MQ below (QR G n (some (.int rR)) CR) ([.ref (bb G + 244), .int x0, .int x1] : List Value).toArray s 0 0 (frA G)) (F0 m 28 ls [.int v2]) := by
    intro v2 H locs ls hF hw hS hl
    unfold J_X9_digit_28 at hF
    refine lv_istore_n (lv' := [(3, .int v2), (0, .ref (bb G + 244)), (1, .int x0), (2, .int x1)]) hx hb dX9_digit_28 rfl hl (by decide) rfl (fun ls hl => ?_)
    refine lv_iload_n hx hb dX9_digit_29 rfl (lv_at hl 0 rfl) ?_
    refine lv_i2l (v := (v2).toInt64) hx hb dX9_digit_30 rfl ?_
    refine lv_iload_n hx hb dX9_digit_31 rfl (lv_at hl 2 rfl) ?_
    refine lv_i2l (v := (x0).toInt64) hx hb dX9_digit_32 rfl ?_
    refine lv_iload_n hx hb dX9_digit_33 rfl (lv_at hl 3 rfl) ?_
    refine lv_i2l (v := (x1).toInt64) hx hb dX9_digit_34 rfl ?_
    obtain ⟨r3, C4, hc5, hF⟩ := b2_t hF
    refine call_Si hC (c_X9_in l G n (by omega) hn2 ((v2).toInt64) ((x0).toInt64) ((x1).toInt64) _ _ _ hc5) wsX9_50 ⟨rfl, rfl, by decide, by decide⟩ hw hS hl.1 rfl (rest := []) rfl (Nat.le_of_ble_eq_true rfl) dX9_digit_35 ⟨by decide, by decide⟩ (fun H locs hw hS _ => ?_)
    refine lv_istore (lv' := [(4, .int r3), (3, .int v2), (0, .ref (bb G + 244)), (1, .int x0), (2, .int x1)]) hx hb dX9_digit_38 hl (by decide) rfl (fun ls hl => ?_)
    refine lv_aload_n hx hb dX9_digit_40 rfl (lv_at hl 2 rfl) ?_
    refine lv_dup hx hb dX9_digit_41 rfl ?_
    refine gX9_130 hC hw (by omega)  dX9_digit_42 ?_
    refine lv_iload hx hb dX9_digit_45 (lv_at hl 0 rfl) ?_
    refine lv_if_eq (tgt := 54) hx hb dX9_digit_47 (by decide) (fun h6 => ?_) (fun h6 => ?_)
    · have hF := it_t h6 hF
      refine lv_iconst (v := 0) hx hb dX9_digit_54 (by decide) ?_
      refine lv_iadd hx hb dX9_digit_55 ?_
      refine pX9_130 hC hw hS (by omega) hn2  dX9_digit_56 (fun H locs hw hS _ => ?_)
      obtain ⟨C7, eC7, hF⟩ := nm_t hF
      have hw := Wd.cast eC7 hw
      refine lv_iload hx hb dX9_digit_59 (lv_at hl 0 rfl) ?_
      refine lv_if_eq (tgt := 68) hx hb dX9_digit_61 (by decide) (fun h8 => ?_) (fun h8 => ?_)
      · have hF := it_t h8 hF
        refine lv_bipush (v := -9) hx hb dX9_digit_68 (by decide) ?_
        exact m_iret hC hr hlk hw hS dX9_digit_70 hF
      · have hF := it_f h8 hF
        refine lv_iload_n hx hb dX9_digit_64 rfl (lv_at hl 1 rfl) ?_
        refine lv_goto (tgt := 70) hx hb dX9_digit_65 (by decide) ?_
        exact m_iret hC hr hlk hw hS dX9_digit_70 hF
    · have hF := it_f h6 hF
      refine lv_iconst (v := 1) hx hb dX9_digit_50 (by decide) ?_
      refine lv_goto (tgt := 55) hx hb dX9_digit_51 (by decide) ?_
      refine lv_iadd hx hb dX9_digit_55 ?_
      refine pX9_130 hC hw hS (by omega) hn2  dX9_digit_56 (fun H locs hw hS _ => ?_)
      obtain ⟨C9, eC9, hF⟩ := nm_t hF
      have hw := Wd.cast eC9 hw
      refine lv_iload hx hb dX9_digit_59 (lv_at hl 0 rfl) ?_
      refine lv_if_eq (tgt := 68) hx hb dX9_digit_61 (by decide) (fun h10 => ?_) (fun h10 => ?_)
      · have hF := it_t h10 hF
        refine lv_bipush (v := -9) hx hb dX9_digit_68 (by decide) ?_
        exact m_iret hC hr hlk hw hS dX9_digit_70 hF
      · have hF := it_f h10 hF
        refine lv_iload_n hx hb dX9_digit_64 rfl (lv_at hl 1 rfl) ?_
        refine lv_goto (tgt := 70) hx hb dX9_digit_65 (by decide) ?_
        exact m_iret hC hr hlk hw hS dX9_digit_70 hF
  refine lv_icmp_ge (tgt := 26) hx hb dX9_digit_8 (by decide) (fun h1 => ?_) (fun h1 => ?_)
  · have hF := it_t h1 hF
    refine lv_bipush (v := -9) hx hb dX9_digit_26 (by decide) ?_
    exact hJ28 (-9 : Int32) _ _ _ hF hw hS (lv_sub hl [0, 1, 2] rfl)
  · have hF := it_f h1 hF
    refine lv_aload_n hx hb dX9_digit_11 rfl (lv_at hl 0 rfl) ?_
    refine gX9_7 hC hw (by omega)  dX9_digit_12 ?_
    refine lv_aload_n hx hb dX9_digit_15 rfl (lv_at hl 0 rfl) ?_
    refine gX9_130 hC hw (by omega)  dX9_digit_16 ?_
    obtain ⟨g11, hF⟩ := gi_t hF
    refine ld_marr hC hw (by omega) (show 31 ≤ 31 ∧ 31 ≤ 36 by decide) g11 dX9_digit_19 ?_
    refine lv_bipush (v := 48) hx hb dX9_digit_20 (by decide) ?_
    refine lv_isub hx hb dX9_digit_22 ?_
    refine lv_goto (tgt := 28) hx hb dX9_digit_23 (by decide) ?_
    exact hJ28 ((C 31 ((C 30 3)).toNatClampNeg) - (48 : Int32)) _ _ _ hF hw hS (lv_sub hl [0, 1, 2] rfl)
set_option maxHeartbeats 4000000 in
set_option maxRecDepth 100000 in
theorem c_X9_two (l : Launch) (G : GG) (n : Nat) (hn : 252 ≤ n) (hn2 : n ≤ 253) (x0 : Int32) (x1 : Int32) (C : Mem) (rR : Int32) (CR : Mem) (hF : F_X9_two x0 x1 C = some (rR, CR)) : Ct l yX9_two cX9_two 5 (some .int) (rmN 2 49) G n C [.ref (bb G + 244), .int x0, .int x1] (some (.int rR)) CR := by
  refine Ct.of (by decide) (Nat.le_of_ble_eq_true rfl) ?_
  intro p e s m below meth c ls hC hr hlk hw hl
  have hx := hC.1
  have hb := hC.2.1
  have hS : LW G s s.heap [] := va_S.rf
  have hl : lv_has ls 5 [(0, .ref (bb G + 244)), (1, .int x0), (2, .int x1)] := hl
  unfold F_X9_two at hF
  refine lv_aload_n hx hb dX9_two_0 rfl (lv_at hl 0 rfl) ?_
  refine lv_iload_n hx hb dX9_two_1 rfl (lv_at hl 1 rfl) ?_
  refine lv_bipush (v := 10) hx hb dX9_two_2 (by decide) ?_
  refine lv_idiv hx hb dX9_two_4 (by decide) ?_
  refine lv_iload_n hx hb dX9_two_5 rfl (lv_at hl 2 rfl) ?_
  refine lv_bipush (v := 10) hx hb dX9_two_6 (by decide) ?_
  refine lv_idiv hx hb dX9_two_8 (by decide) ?_
  obtain ⟨r1, C2, hc3, hF⟩ := b2_t hF
  refine call_Vi hC (c_X9_digit l G n (by omega) hn2 (x0 / (10 : Int32)) (x1 / (10 : Int32)) _ _ _ hc3) wvX9_133 ⟨rfl, rfl, by decide, by decide⟩ hw hS (by omega) ca_model rfl hl.1 rfl (rest := []) rfl (Nat.le_of_ble_eq_true rfl) dX9_two_9 ⟨by decide, by decide⟩ (fun H locs hw hS _ => ?_)
  refine lv_istore_n (lv' := [(3, .int r1), (0, .ref (bb G + 244)), (1, .int x0), (2, .int x1)]) hx hb dX9_two_12 rfl hl (by decide) rfl (fun ls hl => ?_)
  refine lv_iload_n hx hb dX9_two_13 rfl (lv_at hl 0 rfl) ?_
  refine lv_bipush (v := -9) hx hb dX9_two_14 (by decide) ?_
  refine lv_icmp_ne (tgt := 22) hx hb dX9_two_16 (by decide) (fun h4 => ?_) (fun h4 => ?_)
  · have hF := it_f h4 hF
    refine lv_aload_n hx hb dX9_two_22 rfl (lv_at hl 1 rfl) ?_
    refine lv_iload_n hx hb dX9_two_23 rfl (lv_at hl 0 rfl) ?_
    refine lv_iload_n hx hb dX9_two_24 rfl (lv_at hl 2 rfl) ?_
    refine lv_bipush (v := 10) hx hb dX9_two_25 (by decide) ?_
    refine lv_idiv hx hb dX9_two_27 (by decide) ?_
    have hJ39 : ∀ (v6 : Int32) (H : Heap) (locs : List Loc) (ls : Array Slot), J_X9_two_39 x1 r1 C2 v6 = some (rR, CR) → Wd G n C2 H → LW G s H locs → lv_has ls 5 [(2, .int x1), (3, .int r1)] → W p l e (rmN 2 49) s m ([.ref (bb G + 244), .int x0, .int x1] : List Value).toArray below meth c H locs 0 0 (MQ below (QR G n (some (.int rR)) CR) ([.ref (bb G + 244), .int x0, .int x1] : List Value).toArray s 0 0 (frA G)) (F0 m 39 ls [.int v6, .ref (bb G + 244)]) := by
      intro v6 H locs ls hF hw hS hl
      unfold J_X9_two_39 at hF
      refine lv_iload_n hx hb dX9_two_39 rfl (lv_at hl 1 rfl) ?_
      refine lv_iload_n hx hb dX9_two_40 rfl (lv_at hl 0 rfl) ?_
      refine lv_bipush (v := 10) hx hb dX9_two_41 (by decide) ?_
      refine lv_idiv hx hb dX9_two_43 (by decide) ?_
      have hJ56 : ∀ (v8 : Int32) (H : Heap) (locs : List Loc) (ls : Array Slot), J_X9_two_56 r1 C2 v6 v8 = some (rR, CR) → Wd G n C2 H → LW G s H locs → lv_has ls 5 [(3, .int r1)] → W p l e (rmN 2 49) s m ([.ref (bb G + 244), .int x0, .int x1] : List Value).toArray below meth c H locs 0 0 (MQ below (QR G n (some (.int rR)) CR) ([.ref (bb G + 244), .int x0, .int x1] : List Value).toArray s 0 0 (frA G)) (F0 m 56 ls [.int v8, .int v6, .ref (bb G + 244)]) := by
        intro v8 H locs ls hF hw hS hl
        unfold J_X9_two_56 at hF
        obtain ⟨r9, C10, hc11, hF⟩ := b2_t hF
        refine call_Vi hC (c_X9_digit l G n (by omega) hn2 v6 v8 _ _ _ hc11) wvX9_133 ⟨rfl, rfl, by decide, by decide⟩ hw hS (by omega) ca_model rfl hl.1 rfl (rest := []) rfl (Nat.le_of_ble_eq_true rfl) dX9_two_56 ⟨by decide, by decide⟩ (fun H locs hw hS _ => ?_)
        refine lv_istore (lv' := [(4, .int r9), (3, .int r1)]) hx hb dX9_two_59 hl (by decide) rfl (fun ls hl => ?_)
        refine lv_iload hx hb dX9_two_61 (lv_at hl 0 rfl) ?_
        refine lv_bipush (v := -9) hx hb dX9_two_63 (by decide) ?_
        refine lv_icmp_ne (tgt := 73) hx hb dX9_two_65 (by decide) (fun h12 => ?_) (fun h12 => ?_)
        · have hF := it_f h12 hF
          refine lv_bipush (v := 10) hx hb dX9_two_73 (by decide) ?_
          refine lv_iload_n hx hb dX9_two_75 rfl (lv_at hl 1 rfl) ?_
          refine lv_imul hx hb dX9_two_76 ?_
          refine lv_iload hx hb dX9_two_77 (lv_at hl 0 rfl) ?_
          refine lv_iadd hx hb dX9_two_79 ?_
          exact m_iret hC hr hlk hw hS dX9_two_80 hF
        · have hF := it_t h12 hF
          refine lv_bipush (v := -9) hx hb dX9_two_68 (by decide) ?_
          refine lv_goto (tgt := 80) hx hb dX9_two_70 (by decide) ?_
          exact m_iret hC hr hlk hw hS dX9_two_80 hF
      refine lv_icmp_ne (tgt := 54) hx hb dX9_two_44 (by decide) (fun h7 => ?_) (fun h7 => ?_)
      · have hF := it_f h7 hF
        refine lv_bipush (v := 9) hx hb dX9_two_54 (by decide) ?_
        exact hJ56 (9 : Int32) _ _ _ hF hw hS (lv_sub hl [1] rfl)
      · have hF := it_t h7 hF
        refine lv_iload_n hx hb dX9_two_47 rfl (lv_at hl 0 rfl) ?_
        refine lv_bipush (v := 10) hx hb dX9_two_48 (by decide) ?_
        refine lv_irem hx hb dX9_two_50 (by decide) ?_
        refine lv_goto (tgt := 56) hx hb dX9_two_51 (by decide) ?_
        exact hJ56 (x1 - x1 / (10 : Int32) * (10 : Int32)) _ _ _ hF hw hS (lv_sub hl [1] rfl)
    refine lv_icmp_ne (tgt := 38) hx hb dX9_two_28 (by decide) (fun h5 => ?_) (fun h5 => ?_)
    · have hF := it_f h5 hF
      refine lv_iconst (v := 0) hx hb dX9_two_38 (by decide) ?_
      exact hJ39 (0 : Int32) _ _ _ hF hw hS (lv_sub hl [3, 0] rfl)
    · have hF := it_t h5 hF
      refine lv_iload_n hx hb dX9_two_31 rfl (lv_at hl 2 rfl) ?_
      refine lv_bipush (v := 10) hx hb dX9_two_32 (by decide) ?_
      refine lv_irem hx hb dX9_two_34 (by decide) ?_
      refine lv_goto (tgt := 39) hx hb dX9_two_35 (by decide) ?_
      exact hJ39 (x0 - x0 / (10 : Int32) * (10 : Int32)) _ _ _ hF hw hS (lv_sub hl [3, 0] rfl)
  · have hF := it_t h4 hF
    refine lv_bipush (v := -9) hx hb dX9_two_19 (by decide) ?_
    exact m_iret hC hr hlk hw hS dX9_two_21 hF
set_option maxHeartbeats 4000000 in
set_option maxRecDepth 100000 in
theorem c_X9_readBoilers (l : Launch) (G : GG) (n : Nat) (hn : 252 ≤ n) (hn2 : n ≤ 253)  (C : Mem) (rR : Int32) (CR : Mem) (hF : F_X9_readBoilers  C = some (rR, CR)) : Ct l yX9_readBoilers cX9_readBoilers 2 (some .boolean) (rmN 3 73) G n C [.ref (bb G + 244)] (some (.int rR)) CR := by
  refine Ct.of (by decide) (Nat.le_of_ble_eq_true rfl) ?_
  intro p e s m below meth c ls hC hr hlk hw hl
  have hx := hC.1
  have hb := hC.2.1
  have hS : LW G s s.heap [] := va_S.rf
  have hl : lv_has ls 2 [(0, .ref (bb G + 244))] := hl
  unfold F_X9_readBoilers at hF
  refine lv_aload_n hx hb dX9_readBoilers_0 rfl (lv_at hl 0 rfl) ?_
  refine lv_iconst (v := 0) hx hb dX9_readBoilers_1 (by decide) ?_
  refine pX9_137 hC hw hS (by omega) hn2  dX9_readBoilers_2 (fun H locs hw hS _ => ?_)
  obtain ⟨C1, eC1, hF⟩ := nm_t hF
  have hw := Wd.cast eC1 hw
  obtain ⟨o3, hit3, hG3⟩ := b1_t hF
  have hR3 : ∀ (C4 : Mem) (H : Heap) (locs : List Loc) (ls : Array Slot), o3 = Sum.inl C4 → Wd G n C4 H → LW G s H locs → lv_has ls 2 [(0, .ref (bb G + 244))] → W p l e (rmN 3 73) s m ([.ref (bb G + 244)] : List Value).toArray below meth c H locs 0 0 (MQ below (QR G n (some (.int rR)) CR) ([.ref (bb G + 244)] : List Value).toArray s 0 0 (frA G)) (F0 m 101 ls []) := by
    intro C4 H locs ls hE hw hS hl
    subst hE
    have hF := (se_l rfl hG3)
    refine lv_aload_n hx hb dX9_readBoilers_101 rfl (lv_at hl 0 rfl) ?_
    refine gX9_137 hC hw (by omega)  dX9_readBoilers_102 ?_
    refine lv_if_le (tgt := 112) hx hb dX9_readBoilers_105 (by decide) (fun h30 => ?_) (fun h30 => ?_)
    · have hF := it_t h30 hF
      refine lv_iconst (v := 0) hx hb dX9_readBoilers_112 (by decide) ?_
      exact m_zret hC hr hlk hw hS dX9_readBoilers_113 (by decide) hF
    · have hF := it_f h30 hF
      refine lv_iconst (v := 1) hx hb dX9_readBoilers_108 (by decide) ?_
      refine lv_goto (tgt := 113) hx hb dX9_readBoilers_109 (by decide) ?_
      exact m_zret hC hr hlk hw hS dX9_readBoilers_113 (by decide) hF
  refine iter_sound (P := fun x : Mem => ∀ (H : Heap) (locs : List Loc) (ls : Array Slot), Wd G n x H → LW G s H locs → lv_has ls 2 [(0, .ref (bb G + 244))] → W p l e (rmN 3 73) s m ([.ref (bb G + 244)] : List Value).toArray below meth c H locs 0 0 (MQ below (QR G n (some (.int rR)) CR) ([.ref (bb G + 244)] : List Value).toArray s 0 0 (frA G)) (F0 m 5 ls [])) (X := fun r => r = o3) ?_ fuel C1 o3 hit3 rfl _ _ _ hw hS (lv_sub hl [0] rfl)
  intro C2 oo3 hF hk3 hX3 H locs ls hw hS hl
  have hF : S_X9_readBoilers_5  C2 = some oo3 := hF
  have hw : Wd G n C2 H := hw
  have hl : lv_has ls 2 [(0, .ref (bb G + 244))] := hl
  unfold S_X9_readBoilers_5 at hF
  refine lv_aload_n hx hb dX9_readBoilers_5 rfl (lv_at hl 0 rfl) ?_
  refine gX9_137 hC hw (by omega)  dX9_readBoilers_6 ?_
  refine lv_iconst (v := 5) hx hb dX9_readBoilers_9 (by decide) ?_
  refine lv_icmp_ge (tgt := 101) hx hb dX9_readBoilers_10 (by decide) (fun h5 => ?_) (fun h5 => ?_)
  · have hF := it_t h5 hF
    exact hR3 _ _ _ _ (it_exit hF hX3).symm hw hS (lv_sub hl [0] rfl)
  · have hF := it_f h5 hF
    refine lv_aload_n hx hb dX9_readBoilers_13 rfl (lv_at hl 0 rfl) ?_
    refine lv_bipush (v := 98) hx hb dX9_readBoilers_14 (by decide) ?_
    obtain ⟨r6, C7, hc8, hF⟩ := b2_t hF
    refine call_Vi hC (c_X9_eat l G n (by omega) hn2 (98 : Int32) _ _ _ hc8) wvX9_140 ⟨rfl, rfl, by decide, by decide⟩ hw hS (by omega) ca_model rfl hl.1 rfl (rest := []) rfl (Nat.le_of_ble_eq_true rfl) dX9_readBoilers_16 ⟨by decide, by decide⟩ (fun H locs hw hS _ => ?_)
    refine lv_if_eq (tgt := 101) hx hb dX9_readBoilers_19 (by decide) (fun h9 => ?_) (fun h9 => ?_)
    · have hF := it_t h9 hF
      exact hR3 _ _ _ _ (it_exit hF hX3).symm hw hS (lv_sub hl [0] rfl)
    · have hF := it_f h9 hF
      refine lv_aload_n hx hb dX9_readBoilers_22 rfl (lv_at hl 0 rfl) ?_
      refine gX9_137 hC hw (by omega)  dX9_readBoilers_23 ?_
      obtain ⟨r10, C11, hc12, hF⟩ := b2_t hF
      refine call_Si hC (c_X9_at l G n (by omega) hn2 (C7 30 6) _ _ _ hc12) wsX9_68 ⟨rfl, rfl, by decide, by decide⟩ hw hS hl.1 rfl (rest := []) rfl (Nat.le_of_ble_eq_true rfl) dX9_readBoilers_26 ⟨by decide, by decide⟩ (fun H locs hw hS _ => ?_)
      refine lv_istore_n (lv' := [(1, .int r10), (0, .ref (bb G + 244))]) hx hb dX9_readBoilers_29 rfl hl (by decide) rfl (fun ls hl => ?_)
      refine lv_aload_n hx hb dX9_readBoilers_30 rfl (lv_at hl 1 rfl) ?_
      refine gX9_20 hC hw (by omega)  dX9_readBoilers_31 ?_
      refine lv_iload_n hx hb dX9_readBoilers_34 rfl (lv_at hl 0 rfl) ?_
      refine lv_aload_n hx hb dX9_readBoilers_35 rfl (lv_at hl 1 rfl) ?_
      refine lv_iconst (v := 1) hx hb dX9_readBoilers_36 (by decide) ?_
      refine lv_bipush (v := 30) hx hb dX9_readBoilers_37 (by decide) ?_
      obtain ⟨r13, C14, hc15, hF⟩ := b2_t hF
      refine call_Vi hC (c_X9_two l G n (by omega) hn2 (1 : Int32) (30 : Int32) _ _ _ hc15) wvX9_143 ⟨rfl, rfl, by decide, by decide⟩ hw hS (by omega) ca_model rfl hl.1 rfl (rest := [.int r10, .ref (bb G + (32 + 214))]) rfl (Nat.le_of_ble_eq_true rfl) dX9_readBoilers_39 ⟨by decide, by decide⟩ (fun H locs hw hS _ => ?_)
      obtain ⟨g16, hF⟩ := gi_t hF
      refine st_marr hC hw hS (by omega) hn2 (show 31 ≤ 32 ∧ 32 ≤ 36 by decide) g16 dX9_readBoilers_42 (fun H locs hw hS _ => ?_)
      obtain ⟨C17, eC17, hF⟩ := nm_t hF
      have hw := Wd.cast eC17 hw
      refine lv_aload_n hx hb dX9_readBoilers_43 rfl (lv_at hl 1 rfl) ?_
      refine gX9_20 hC hw (by omega)  dX9_readBoilers_44 ?_
      refine lv_iload_n hx hb dX9_readBoilers_47 rfl (lv_at hl 0 rfl) ?_
      refine lv_iconst (v := 1) hx hb dX9_readBoilers_48 (by decide) ?_
      refine lv_iadd hx hb dX9_readBoilers_49 ?_
      refine lv_aload_n hx hb dX9_readBoilers_50 rfl (lv_at hl 1 rfl) ?_
      refine gX9_20 hC hw (by omega)  dX9_readBoilers_51 ?_
      refine lv_iload_n hx hb dX9_readBoilers_54 rfl (lv_at hl 0 rfl) ?_
      obtain ⟨g18, hF⟩ := gi_t hF
      refine ld_marr hC hw (by omega) (show 31 ≤ 32 ∧ 32 ≤ 36 by decide) g18 dX9_readBoilers_55 ?_
      refine lv_bipush (v := -9) hx hb dX9_readBoilers_56 (by decide) ?_
      have hJ72 : ∀ (v20 : Int32) (C21 : Mem) (H : Heap) (locs : List Loc) (ls : Array Slot), J_X9_readBoilers_72 r10 v20 C21 = some oo3 → Wd G n C21 H → LW G s H locs → lv_has ls 2 [(0, .ref (bb G + 244)), (1, .int r10)] → W p l e (rmN 3 73) s m ([.ref (bb G + 244)] : List Value).toArray below meth c H locs 0 0 (MQ below (QR G n (some (.int rR)) CR) ([.ref (bb G + 244)] : List Value).toArray s 0 0 (frA G)) (F0 m 72 ls [.int v20, .int (r10 + (1 : Int32)), .ref (bb G + (32 + 214))]) := by
        intro v20 C21 H locs ls hF hw hS hl
        unfold J_X9_readBoilers_72 at hF
        obtain ⟨g22, hF⟩ := gi_t hF
        refine st_marr hC hw hS (by omega) hn2 (show 31 ≤ 32 ∧ 32 ≤ 36 by decide) g22 dX9_readBoilers_72 (fun H locs hw hS _ => ?_)
        obtain ⟨C23, eC23, hF⟩ := nm_t hF
        have hw := Wd.cast eC23 hw
        refine lv_aload_n hx hb dX9_readBoilers_73 rfl (lv_at hl 0 rfl) ?_
        refine gX9_20 hC hw (by omega)  dX9_readBoilers_74 ?_
        refine lv_iload_n hx hb dX9_readBoilers_77 rfl (lv_at hl 1 rfl) ?_
        refine lv_iconst (v := 1) hx hb dX9_readBoilers_78 (by decide) ?_
        refine lv_iadd hx hb dX9_readBoilers_79 ?_
        obtain ⟨g24, hF⟩ := gi_t hF
        refine ld_marr hC hw (by omega) (show 31 ≤ 32 ∧ 32 ≤ 36 by decide) g24 dX9_readBoilers_80 ?_
        refine lv_bipush (v := -9) hx hb dX9_readBoilers_81 (by decide) ?_
        refine lv_icmp_ne (tgt := 88) hx hb dX9_readBoilers_83 (by decide) (fun h25 => ?_) (fun h25 => ?_)
        · have hF := it_f h25 hF
          refine lv_aload_n hx hb dX9_readBoilers_88 rfl (lv_at hl 0 rfl) ?_
          refine lv_dup hx hb dX9_readBoilers_89 rfl ?_
          refine gX9_137 hC hw (by omega)  dX9_readBoilers_90 ?_
          refine lv_iconst (v := 1) hx hb dX9_readBoilers_93 (by decide) ?_
          refine lv_iadd hx hb dX9_readBoilers_94 ?_
          refine pX9_137 hC hw hS (by omega) hn2  dX9_readBoilers_95 (fun H locs hw hS _ => ?_)
          obtain ⟨C26, eC26, hF⟩ := nm_t hF
          have hw := Wd.cast eC26 hw
          refine lv_goto (tgt := 5) hx hb dX9_readBoilers_98 (by decide) ?_
          exact it_back hF hk3 _ _ _ hw hS (lv_sub hl [0] rfl)
        · have hF := it_t h25 hF
          refine lv_iconst (v := 0) hx hb dX9_readBoilers_86 (by decide) ?_
          have hF := se_r (it_exit hF hX3).symm hG3
          exact m_zret hC hr hlk hw hS dX9_readBoilers_87 (by decide) hF
      refine lv_icmp_ne (tgt := 66) hx hb dX9_readBoilers_58 (by decide) (fun h19 => ?_) (fun h19 => ?_)
      · have hF := it_f h19 hF
        refine lv_aload_n hx hb dX9_readBoilers_66 rfl (lv_at hl 1 rfl) ?_
        refine lv_iconst (v := 0) hx hb dX9_readBoilers_67 (by decide) ?_
        refine lv_iconst (v := 1) hx hb dX9_readBoilers_68 (by decide) ?_
        obtain ⟨r27, C28, hc29, hF⟩ := b2_t hF
        refine call_Vi hC (c_X9_digit l G n (by omega) hn2 (0 : Int32) (1 : Int32) _ _ _ hc29) wvX9_133 ⟨rfl, rfl, by decide, by decide⟩ hw hS (by omega) ca_model rfl hl.1 rfl (rest := [.int (r10 + (1 : Int32)), .ref (bb G + (32 + 214))]) rfl (Nat.le_of_ble_eq_true rfl) dX9_readBoilers_69 ⟨by decide, by decide⟩ (fun H locs hw hS _ => ?_)
        exact hJ72 r27 C28 _ _ _ hF hw hS (lv_sub hl [1, 0] rfl)
      · have hF := it_t h19 hF
        refine lv_bipush (v := -9) hx hb dX9_readBoilers_61 (by decide) ?_
        refine lv_goto (tgt := 72) hx hb dX9_readBoilers_63 (by decide) ?_
        exact hJ72 (-9 : Int32) C17 _ _ _ hF hw hS (lv_sub hl [1, 0] rfl)
set_option maxHeartbeats 4000000 in
set_option maxRecDepth 100000 in
theorem c_X9_readAll (l : Launch) (G : GG) (n : Nat) (hn : 252 ≤ n) (hn2 : n ≤ 253)  (C : Mem) (rR : Int32) (CR : Mem) (hF : F_X9_readAll  C = some (rR, CR)) : Ct l yX9_readAll cX9_readAll 3 (some .boolean) (rmN 4 94) G n C [.ref (bb G + 244)] (some (.int rR)) CR := by
  refine Ct.of (by decide) (Nat.le_of_ble_eq_true rfl) ?_
  intro p e s m below meth c ls hC hr hlk hw hl
  have hx := hC.1
  have hb := hC.2.1
  have hS : LW G s s.heap [] := va_S.rf
  have hl : lv_has ls 3 [(0, .ref (bb G + 244))] := hl
  unfold F_X9_readAll at hF
  refine lv_aload_n hx hb dX9_readAll_0 rfl (lv_at hl 0 rfl) ?_
  refine lv_iconst (v := 0) hx hb dX9_readAll_1 (by decide) ?_
  refine pX9_130 hC hw hS (by omega) hn2  dX9_readAll_2 (fun H locs hw hS _ => ?_)
  obtain ⟨C1, eC1, hF⟩ := nm_t hF
  have hw := Wd.cast eC1 hw
  refine lv_aload_n hx hb dX9_readAll_5 rfl (lv_at hl 0 rfl) ?_
  refine gX9_20 hC hw (by omega)  dX9_readAll_6 ?_
  obtain ⟨r2, C3, hc4, hF⟩ := b2_t hF
  refine call_Sv hC (c_X9_begin l G n (by omega) hn2 32 (show 31 ≤ 32 ∧ 32 ≤ 36 by decide) _ _ _ hc4) wsX9_39 ⟨rfl, rfl, by decide, by decide⟩ hw hS hl.1 rfl (rest := []) rfl (Nat.le_of_ble_eq_true rfl) dX9_readAll_9 ⟨by decide, by decide⟩ (fun H locs hw hS _ => ?_)
  refine lv_aload_n hx hb dX9_readAll_12 rfl (lv_at hl 0 rfl) ?_
  refine lv_bipush (v := 72) hx hb dX9_readAll_13 (by decide) ?_
  obtain ⟨r5, C6, hc7, hF⟩ := b2_t hF
  refine call_Vi hC (c_X9_eat l G n (by omega) hn2 (72 : Int32) _ _ _ hc7) wvX9_140 ⟨rfl, rfl, by decide, by decide⟩ hw hS (by omega) ca_model rfl hl.1 rfl (rest := []) rfl (Nat.le_of_ble_eq_true rfl) dX9_readAll_15 ⟨by decide, by decide⟩ (fun H locs hw hS _ => ?_)
  refine lv_if_ne (tgt := 23) hx hb dX9_readAll_18 (by decide) (fun h8 => ?_) (fun h8 => ?_)
  · have hF := it_f h8 hF
    refine lv_aload_n hx hb dX9_readAll_23 rfl (lv_at hl 0 rfl) ?_
    refine lv_aload_n hx hb dX9_readAll_24 rfl (lv_at hl 0 rfl) ?_
    refine lv_iconst (v := 2) hx hb dX9_readAll_25 (by decide) ?_
    refine lv_bipush (v := 8) hx hb dX9_readAll_26 (by decide) ?_
    obtain ⟨r9, C10, hc11, hF⟩ := b2_t hF
    refine call_Vi hC (c_X9_digit l G n (by omega) hn2 (2 : Int32) (8 : Int32) _ _ _ hc11) wvX9_133 ⟨rfl, rfl, by decide, by decide⟩ hw hS (by omega) ca_model rfl hl.1 rfl (rest := [.ref (bb G + 244)]) rfl (Nat.le_of_ble_eq_true rfl) dX9_readAll_28 ⟨by decide, by decide⟩ (fun H locs hw hS _ => ?_)
    refine pX9_146 hC hw hS (by omega) hn2  dX9_readAll_31 (fun H locs hw hS _ => ?_)
    obtain ⟨C12, eC12, hF⟩ := nm_t hF
    have hw := Wd.cast eC12 hw
    refine lv_aload_n hx hb dX9_readAll_34 rfl (lv_at hl 0 rfl) ?_
    refine gX9_20 hC hw (by omega)  dX9_readAll_35 ?_
    refine lv_bipush (v := 18) hx hb dX9_readAll_38 (by decide) ?_
    refine lv_aload_n hx hb dX9_readAll_40 rfl (lv_at hl 0 rfl) ?_
    refine gX9_146 hC hw (by omega)  dX9_readAll_41 ?_
    refine lv_bipush (v := -9) hx hb dX9_readAll_44 (by decide) ?_
    have hJ61 : ∀ (v14 : Int32) (C15 : Mem) (H : Heap) (locs : List Loc) (ls : Array Slot), J_X9_readAll_61  v14 C15 = some (rR, CR) → Wd G n C15 H → LW G s H locs → lv_has ls 3 [(0, .ref (bb G + 244))] → W p l e (rmN 4 94) s m ([.ref (bb G + 244)] : List Value).toArray below meth c H locs 0 0 (MQ below (QR G n (some (.int rR)) CR) ([.ref (bb G + 244)] : List Value).toArray s 0 0 (frA G)) (F0 m 61 ls [.int v14, .int (18 : Int32), .ref (bb G + (32 + 214))]) := by
      intro v14 C15 H locs ls hF hw hS hl
      unfold J_X9_readAll_61 at hF
      obtain ⟨g16, hF⟩ := gi_t hF
      refine st_marr hC hw hS (by omega) hn2 (show 31 ≤ 32 ∧ 32 ≤ 36 by decide) g16 dX9_readAll_61 (fun H locs hw hS _ => ?_)
      obtain ⟨C17, eC17, hF⟩ := nm_t hF
      have hw := Wd.cast eC17 hw
      refine lv_aload_n hx hb dX9_readAll_62 rfl (lv_at hl 0 rfl) ?_
      refine gX9_20 hC hw (by omega)  dX9_readAll_63 ?_
      refine lv_bipush (v := 19) hx hb dX9_readAll_66 (by decide) ?_
      refine lv_aload_n hx hb dX9_readAll_68 rfl (lv_at hl 0 rfl) ?_
      refine gX9_20 hC hw (by omega)  dX9_readAll_69 ?_
      refine lv_bipush (v := 18) hx hb dX9_readAll_72 (by decide) ?_
      obtain ⟨g18, hF⟩ := gi_t hF
      refine ld_marr hC hw (by omega) (show 31 ≤ 32 ∧ 32 ≤ 36 by decide) g18 dX9_readAll_74 ?_
      refine lv_bipush (v := -9) hx hb dX9_readAll_75 (by decide) ?_
      have hJ92 : ∀ (v20 : Int32) (C21 : Mem) (H : Heap) (locs : List Loc) (ls : Array Slot), J_X9_readAll_92  v20 C21 = some (rR, CR) → Wd G n C21 H → LW G s H locs → lv_has ls 3 [(0, .ref (bb G + 244))] → W p l e (rmN 4 94) s m ([.ref (bb G + 244)] : List Value).toArray below meth c H locs 0 0 (MQ below (QR G n (some (.int rR)) CR) ([.ref (bb G + 244)] : List Value).toArray s 0 0 (frA G)) (F0 m 92 ls [.int v20, .int (19 : Int32), .ref (bb G + (32 + 214))]) := by
        intro v20 C21 H locs ls hF hw hS hl
        unfold J_X9_readAll_92 at hF
        obtain ⟨g22, hF⟩ := gi_t hF
        refine st_marr hC hw hS (by omega) hn2 (show 31 ≤ 32 ∧ 32 ≤ 36 by decide) g22 dX9_readAll_92 (fun H locs hw hS _ => ?_)
        obtain ⟨C23, eC23, hF⟩ := nm_t hF
        have hw := Wd.cast eC23 hw
        refine lv_aload_n hx hb dX9_readAll_93 rfl (lv_at hl 0 rfl) ?_
        refine gX9_20 hC hw (by omega)  dX9_readAll_94 ?_
        refine lv_bipush (v := 19) hx hb dX9_readAll_97 (by decide) ?_
        obtain ⟨g24, hF⟩ := gi_t hF
        refine ld_marr hC hw (by omega) (show 31 ≤ 32 ∧ 32 ≤ 36 by decide) g24 dX9_readAll_99 ?_
        refine lv_bipush (v := -9) hx hb dX9_readAll_100 (by decide) ?_
        refine lv_icmp_eq (tgt := 112) hx hb dX9_readAll_102 (by decide) (fun h25 => ?_) (fun h25 => ?_)
        · have hF := it_t h25 hF
          refine lv_iconst (v := 0) hx hb dX9_readAll_112 (by decide) ?_
          exact m_zret hC hr hlk hw hS dX9_readAll_113 (by decide) hF
        · have hF := it_f h25 hF
          refine lv_aload_n hx hb dX9_readAll_105 rfl (lv_at hl 0 rfl) ?_
          obtain ⟨r26, C27, hc28, hF⟩ := b2_t hF
          refine call_Vi hC (c_X9_readBoilers l G n (by omega) hn2  _ _ _ hc28) wvX9_149 ⟨rfl, rfl, by decide, by decide⟩ hw hS (by omega) ca_model rfl hl.1 rfl (rest := []) rfl (Nat.le_of_ble_eq_true rfl) dX9_readAll_106 ⟨by decide, by decide⟩ (fun H locs hw hS _ => ?_)
          refine lv_if_ne (tgt := 114) hx hb dX9_readAll_109 (by decide) (fun h29 => ?_) (fun h29 => ?_)
          · have hF := it_f h29 hF
            refine lv_aload_n hx hb dX9_readAll_114 rfl (lv_at hl 0 rfl) ?_
            refine lv_bipush (v := 116) hx hb dX9_readAll_115 (by decide) ?_
            obtain ⟨r30, C31, hc32, hF⟩ := b2_t hF
            refine call_Vi hC (c_X9_eat l G n (by omega) hn2 (116 : Int32) _ _ _ hc32) wvX9_140 ⟨rfl, rfl, by decide, by decide⟩ hw hS (by omega) ca_model rfl hl.1 rfl (rest := []) rfl (Nat.le_of_ble_eq_true rfl) dX9_readAll_117 ⟨by decide, by decide⟩ (fun H locs hw hS _ => ?_)
            refine lv_if_eq (tgt := 167) hx hb dX9_readAll_120 (by decide) (fun h33 => ?_) (fun h33 => ?_)
            · have hF := it_t h33 hF
              refine lv_aload_n hx hb dX9_readAll_167 rfl (lv_at hl 0 rfl) ?_
              refine gX9_130 hC hw (by omega)  dX9_readAll_168 ?_
              refine lv_aload_n hx hb dX9_readAll_171 rfl (lv_at hl 0 rfl) ?_
              refine gX9_124 hC hw (by omega)  dX9_readAll_172 ?_
              refine lv_icmp_ne (tgt := 182) hx hb dX9_readAll_175 (by decide) (fun h34 => ?_) (fun h34 => ?_)
              · have hF := it_f h34 hF
                refine lv_iconst (v := 0) hx hb dX9_readAll_182 (by decide) ?_
                exact m_zret hC hr hlk hw hS dX9_readAll_183 (by decide) hF
              · have hF := it_t h34 hF
                refine lv_iconst (v := 1) hx hb dX9_readAll_178 (by decide) ?_
                refine lv_goto (tgt := 183) hx hb dX9_readAll_179 (by decide) ?_
                exact m_zret hC hr hlk hw hS dX9_readAll_183 (by decide) hF
            · have hF := it_f h33 hF
              refine lv_iconst (v := 0) hx hb dX9_readAll_123 (by decide) ?_
              refine lv_istore_n (lv' := [(1, .int (0 : Int32)), (0, .ref (bb G + 244))]) hx hb dX9_readAll_124 rfl hl (by decide) rfl (fun ls hl => ?_)
              refine lv_iconst (v := 0) hx hb dX9_readAll_125 (by decide) ?_
              refine lv_istore_n (lv' := [(2, .int (0 : Int32)), (1, .int (0 : Int32)), (0, .ref (bb G + 244))]) hx hb dX9_readAll_126 rfl hl (by decide) rfl (fun ls hl => ?_)
              obtain ⟨o38, hit38, hG38⟩ := b1_t hF
              have hR38 : ∀ (v39 : Int32) (v40 : Int32) (C41 : Mem) (H : Heap) (locs : List Loc) (ls : Array Slot), o38 = Sum.inl (v39, v40, C41) → Wd G n C41 H → LW G s H locs → lv_has ls 3 [(0, .ref (bb G + 244))] → W p l e (rmN 4 94) s m ([.ref (bb G + 244)] : List Value).toArray below meth c H locs 0 0 (MQ below (QR G n (some (.int rR)) CR) ([.ref (bb G + 244)] : List Value).toArray s 0 0 (frA G)) (F0 m 167 ls []) := by
                intro v39 v40 C41 H locs ls hE hw hS hl
                subst hE
                have hF := u3_t (se_l rfl hG38)
                refine lv_aload_n hx hb dX9_readAll_167 rfl (lv_at hl 0 rfl) ?_
                refine gX9_130 hC hw (by omega)  dX9_readAll_168 ?_
                refine lv_aload_n hx hb dX9_readAll_171 rfl (lv_at hl 0 rfl) ?_
                refine gX9_124 hC hw (by omega)  dX9_readAll_172 ?_
                refine lv_icmp_ne (tgt := 182) hx hb dX9_readAll_175 (by decide) (fun h50 => ?_) (fun h50 => ?_)
                · have hF := it_f h50 hF
                  refine lv_iconst (v := 0) hx hb dX9_readAll_182 (by decide) ?_
                  exact m_zret hC hr hlk hw hS dX9_readAll_183 (by decide) hF
                · have hF := it_t h50 hF
                  refine lv_iconst (v := 1) hx hb dX9_readAll_178 (by decide) ?_
                  refine lv_goto (tgt := 183) hx hb dX9_readAll_179 (by decide) ?_
                  exact m_zret hC hr hlk hw hS dX9_readAll_183 (by decide) hF
              refine iter_sound (P := fun x : Int32 × Int32 × Mem => ∀ (H : Heap) (locs : List Loc) (ls : Array Slot), Wd G n x.2.2 H → LW G s H locs → lv_has ls 3 [(0, .ref (bb G + 244)), (1, .int x.1), (2, .int x.2.1)] → W p l e (rmN 4 94) s m ([.ref (bb G + 244)] : List Value).toArray below meth c H locs 0 0 (MQ below (QR G n (some (.int rR)) CR) ([.ref (bb G + 244)] : List Value).toArray s 0 0 (frA G)) (F0 m 127 ls [])) (X := fun r => r = o38) ?_ fuel ((0 : Int32), (0 : Int32), C31) o38 hit38 rfl _ _ _ hw hS (lv_sub hl [2, 1, 0] rfl)
              intro x oo38 hF hk38 hX38 H locs ls hw hS hl
              obtain ⟨v35, v36, C37⟩ := x
              have hF : S_X9_readAll_127  v35 v36 C37 = some oo38 := hF
              have hw : Wd G n C37 H := hw
              have hl : lv_has ls 3 [(0, .ref (bb G + 244)), (1, .int v35), (2, .int v36)] := hl
              unfold S_X9_readAll_127 at hF
              refine lv_iload_n hx hb dX9_readAll_127 rfl (lv_at hl 2 rfl) ?_
              refine lv_aload_n hx hb dX9_readAll_128 rfl (lv_at hl 0 rfl) ?_
              refine gX9_146 hC hw (by omega)  dX9_readAll_129 ?_
              refine lv_icmp_ge (tgt := 167) hx hb dX9_readAll_132 (by decide) (fun h42 => ?_) (fun h42 => ?_)
              · have hF := it_t h42 hF
                exact hR38 _ _ _ _ _ _ (it_exit hF hX38).symm hw hS (lv_sub hl [0] rfl)
              · have hF := it_f h42 hF
                refine lv_aload_n hx hb dX9_readAll_135 rfl (lv_at hl 0 rfl) ?_
                refine lv_iload_n hx hb dX9_readAll_136 rfl (lv_at hl 1 rfl) ?_
                refine lv_bipush (v := 99) hx hb dX9_readAll_137 (by decide) ?_
                obtain ⟨r43, C44, hc45, hF⟩ := b2_t hF
                refine call_Vi hC (c_X9_two l G n (by omega) hn2 v35 (99 : Int32) _ _ _ hc45) wvX9_143 ⟨rfl, rfl, by decide, by decide⟩ hw hS (by omega) ca_model rfl hl.1 rfl (rest := []) rfl (Nat.le_of_ble_eq_true rfl) dX9_readAll_139 ⟨by decide, by decide⟩ (fun H locs hw hS _ => ?_)
                refine lv_istore_n (lv' := [(1, .int r43), (0, .ref (bb G + 244)), (2, .int v36)]) hx hb dX9_readAll_142 rfl hl (by decide) rfl (fun ls hl => ?_)
                refine lv_iload_n hx hb dX9_readAll_143 rfl (lv_at hl 0 rfl) ?_
                refine lv_bipush (v := -9) hx hb dX9_readAll_144 (by decide) ?_
                refine lv_icmp_ne (tgt := 151) hx hb dX9_readAll_146 (by decide) (fun h46 => ?_) (fun h46 => ?_)
                · have hF := it_f h46 hF
                  refine lv_aload_n hx hb dX9_readAll_151 rfl (lv_at hl 1 rfl) ?_
                  refine gX9_20 hC hw (by omega)  dX9_readAll_152 ?_
                  refine lv_bipush (v := 22) hx hb dX9_readAll_155 (by decide) ?_
                  refine lv_iload_n hx hb dX9_readAll_157 rfl (lv_at hl 2 rfl) ?_
                  refine lv_iadd hx hb dX9_readAll_158 ?_
                  refine lv_iload_n hx hb dX9_readAll_159 rfl (lv_at hl 0 rfl) ?_
                  obtain ⟨g47, hF⟩ := gi_t hF
                  refine st_marr hC hw hS (by omega) hn2 (show 31 ≤ 32 ∧ 32 ≤ 36 by decide) g47 dX9_readAll_160 (fun H locs hw hS _ => ?_)
                  obtain ⟨C48, eC48, hF⟩ := nm_t hF
                  have hw := Wd.cast eC48 hw
                  obtain ⟨v49, ev49, hF⟩ := nm_t hF
                  refine lv_iinc (v := v49) (lv' := [(2, .int v49), (1, .int r43), (0, .ref (bb G + 244))]) hx hb dX9_readAll_161 hl (k := 2) rfl (by rw [ev49]; rfl) (by decide) rfl (fun ls hl => ?_)
                  refine lv_goto (tgt := 127) hx hb dX9_readAll_164 (by decide) ?_
                  exact it_back hF hk38 _ _ _ hw hS (lv_sub hl [2, 1, 0] rfl)
                · have hF := it_t h46 hF
                  refine lv_iconst (v := 0) hx hb dX9_readAll_149 (by decide) ?_
                  have hF := se_r (it_exit hF hX38).symm hG38
                  exact m_zret hC hr hlk hw hS dX9_readAll_150 (by decide) hF
          · have hF := it_t h29 hF
            refine lv_iconst (v := 0) hx hb dX9_readAll_112 (by decide) ?_
            exact m_zret hC hr hlk hw hS dX9_readAll_113 (by decide) hF
      refine lv_icmp_ne (tgt := 85) hx hb dX9_readAll_77 (by decide) (fun h19 => ?_) (fun h19 => ?_)
      · have hF := it_f h19 hF
        refine lv_aload_n hx hb dX9_readAll_85 rfl (lv_at hl 0 rfl) ?_
        refine lv_iconst (v := 0) hx hb dX9_readAll_86 (by decide) ?_
        refine lv_bipush (v := 99) hx hb dX9_readAll_87 (by decide) ?_
        obtain ⟨r51, C52, hc53, hF⟩ := b2_t hF
        refine call_Vi hC (c_X9_two l G n (by omega) hn2 (0 : Int32) (99 : Int32) _ _ _ hc53) wvX9_143 ⟨rfl, rfl, by decide, by decide⟩ hw hS (by omega) ca_model rfl hl.1 rfl (rest := [.int (19 : Int32), .ref (bb G + (32 + 214))]) rfl (Nat.le_of_ble_eq_true rfl) dX9_readAll_89 ⟨by decide, by decide⟩ (fun H locs hw hS _ => ?_)
        exact hJ92 r51 C52 _ _ _ hF hw hS (lv_sub hl [0] rfl)
      · have hF := it_t h19 hF
        refine lv_bipush (v := -9) hx hb dX9_readAll_80 (by decide) ?_
        refine lv_goto (tgt := 92) hx hb dX9_readAll_82 (by decide) ?_
        exact hJ92 (-9 : Int32) C17 _ _ _ hF hw hS (lv_sub hl [0] rfl)
    refine lv_icmp_ne (tgt := 54) hx hb dX9_readAll_46 (by decide) (fun h13 => ?_) (fun h13 => ?_)
    · have hF := it_f h13 hF
      refine lv_aload_n hx hb dX9_readAll_54 rfl (lv_at hl 0 rfl) ?_
      refine lv_iconst (v := 0) hx hb dX9_readAll_55 (by decide) ?_
      refine lv_bipush (v := 99) hx hb dX9_readAll_56 (by decide) ?_
      obtain ⟨r54, C55, hc56, hF⟩ := b2_t hF
      refine call_Vi hC (c_X9_two l G n (by omega) hn2 (0 : Int32) (99 : Int32) _ _ _ hc56) wvX9_143 ⟨rfl, rfl, by decide, by decide⟩ hw hS (by omega) ca_model rfl hl.1 rfl (rest := [.int (18 : Int32), .ref (bb G + (32 + 214))]) rfl (Nat.le_of_ble_eq_true rfl) dX9_readAll_58 ⟨by decide, by decide⟩ (fun H locs hw hS _ => ?_)
      exact hJ61 r54 C55 _ _ _ hF hw hS (lv_sub hl [0] rfl)
    · have hF := it_t h13 hF
      refine lv_bipush (v := -9) hx hb dX9_readAll_49 (by decide) ?_
      refine lv_goto (tgt := 61) hx hb dX9_readAll_51 (by decide) ?_
      exact hJ61 (-9 : Int32) C12 _ _ _ hF hw hS (lv_sub hl [0] rfl)
  · have hF := it_t h8 hF
    refine lv_iconst (v := 0) hx hb dX9_readAll_21 (by decide) ?_
    exact m_zret hC hr hlk hw hS dX9_readAll_22 (by decide) hF
