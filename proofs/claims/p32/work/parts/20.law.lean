/-! the law's own walk, by program out of its bytecode -/
def go {α : Type} (v : Int32) (A : Option α) : Option α := if v = 1 then A else none
theorem go_t {α : Type} {v : Int32} {A : Option α} {r : α} (h : go v A = some r) : v = 1 ∧ A = some r := by
  unfold go at h
  by_cases c : v = 1
  · rw [if_pos c] at h; exact ⟨c, h⟩
  · rw [if_neg c] at h; cases h
theorem go_1 {α : Type} (A : Option α) : go 1 A = A := if_pos rfl
theorem rk {k c w x cap lim : Nat} (h : k + c * (w + 1) ≤ cap) (hL : cap ≤ lim) (hx : x ≤ c) : k + x ≤ lim := by
  have h1 : c * 1 ≤ c * (w + 1) := Nat.mul_le_mul_left c (by omega)
  omega
theorem rk2 {k c w a b cap lim : Nat} (h : k + c * (w + 1) ≤ cap) (hL : cap ≤ lim) (hx : a + b ≤ c) : k + a + b ≤ lim := by
  rw [Nat.add_assoc]
  exact rk h hL hx
theorem bk {k c w j cap : Nat} (h : k + c * (w + 1) ≤ cap) (hj : j ≤ c) : k + j + c * w ≤ cap := by
  rw [Nat.mul_add] at h
  omega
theorem en {k j m t : Nat} (h : j + m = t) : k + j + m ≤ k + t := by omega
theorem en0 {k m t : Nat} (h : m = t) : k + m ≤ k + t := by omega
set_option maxRecDepth 1000000 in
theorem wsL_263 : WS RL 263 yL_refuses cL_refuses 4 (some .boolean) 1 := ⟨(lg 672 rfl rfl), (lg 673 rfl rfl), (lg 16 rfl rfl), (lg 674 rfl rfl), ⟨by decide +kernel, by decide +kernel⟩, by decide +kernel⟩
set_option maxRecDepth 1000000 in
theorem wsL_266 : WS RL 266 yL_alike cL_alike 5 (some .boolean) 2 := ⟨(lg 623 rfl rfl), (lg 624 rfl rfl), (lg 16 rfl rfl), (lg 625 rfl rfl), ⟨by decide +kernel, by decide +kernel⟩, by decide +kernel⟩
set_option maxRecDepth 1000000 in
theorem wsL_270 : WS RL 270 yL_told cL_told 13 (some .boolean) 4 := ⟨(lg 559 rfl rfl), (lg 560 rfl rfl), (lg 16 rfl rfl), (lg 561 rfl rfl), ⟨by decide +kernel, by decide +kernel⟩, by decide +kernel⟩
set_option maxRecDepth 1000000 in
theorem wsL_274 : WS RL 274 yL_act cL_act 4 (some .int) 3 := ⟨(lg 958 rfl rfl), (lg 959 rfl rfl), (lg 16 rfl rfl), (lg 960 rfl rfl), ⟨by decide +kernel, by decide +kernel⟩, by decide +kernel⟩
set_option maxRecDepth 1000000 in
theorem wsL_277 : WS RL 277 yL_scripts cL_scripts 9 (some .boolean) 2 := ⟨(lg 935 rfl rfl), (lg 936 rfl rfl), (lg 16 rfl rfl), (lg 937 rfl rfl), ⟨by decide +kernel, by decide +kernel⟩, by decide +kernel⟩
set_option maxRecDepth 1000000 in
theorem wsL_281 : WS RL 281 yL_hands cL_hands 25 (some .boolean) 2 := ⟨(lg 929 rfl rfl), (lg 930 rfl rfl), (lg 16 rfl rfl), (lg 931 rfl rfl), ⟨by decide +kernel, by decide +kernel⟩, by decide +kernel⟩
set_option maxRecDepth 1000000 in
theorem wsL_284 : WS RL 284 yL_ticks cL_ticks 30 (some .boolean) 2 := ⟨(lg 926 rfl rfl), (lg 927 rfl rfl), (lg 16 rfl rfl), (lg 928 rfl rfl), ⟨by decide +kernel, by decide +kernel⟩, by decide +kernel⟩
def J_L_law_235 (v28 : Int32) (r38 : Int32) (r42 : Int32) (v53 : Int32) (C54 : Mem) (D55 : Mem) : Option ((Int32 × Int32 × Mem × Mem) ⊕ (Int32 × Int32 × Mem × Mem)) :=
  (if (v28 - v28 / (4 : Int32) * (4 : Int32)) = (3 : Int32) then (
  (if v53 = 0 then (
  nm (v28 + (1 : Int32)) fun v59 =>
  some (Sum.inl (v53, v59, C54, D55))) else (
  b2 (F_L_tryAbout (8 : Int32) C54) fun r60 C62 =>
  b2 (F_L_scripts r38 C62) fun r63 C65 =>
  (if r63 = 0 then (
  nm (v28 + (1 : Int32)) fun v67 =>
  some (Sum.inl ((0 : Int32), v67, C65, D55))) else (
  b2 (F_L_trySave (0 : Int32) D55) fun r68 D70 =>
  (if r68 = r60 then (
  b2 (F_L_trySave (0 : Int32) C65) fun r73 C75 =>
  (if r73 = r60 then (
  b2 (F_L_tryRestore (0 : Int32) C75) fun r78 C80 =>
  (if r78 = r60 then (
  b2 (F_L_hands r42 C80) fun r83 C85 =>
  (if r83 = 0 then (
  nm (v28 + (1 : Int32)) fun v87 =>
  some (Sum.inl ((0 : Int32), v87, C85, D70))) else (
  b2 (F_L_ticks r42 C85) fun r88 C90 =>
  (if r88 = 0 then (
  nm (v28 + (1 : Int32)) fun v92 =>
  some (Sum.inl ((0 : Int32), v92, C90, D70))) else (
  b2 (F_L_tryRestore (0 : Int32) C90) fun r93 C95 =>
  (if r93 = r60 then (
  b2 (F_L_tryRestore (0 : Int32) D70) fun r98 D100 =>
  (if r98 = r60 then (
  b2 (F_L_tryUndo  C95) fun r103 C105 =>
  (if r103 = (-1003 : Int32) then (
  b3 (F_L_alike  C105 D100) fun r108 C110 D111 =>
  (if r108 = 0 then (
  nm (v28 + (1 : Int32)) fun v113 =>
  some (Sum.inl ((0 : Int32), v113, C110, D111))) else (
  nm (v28 + (1 : Int32)) fun v114 =>
  some (Sum.inl ((1 : Int32), v114, C110, D111))))) else (
  nm (v28 + (1 : Int32)) fun v107 =>
  some (Sum.inl ((0 : Int32), v107, C105, D100))))) else (
  nm (v28 + (1 : Int32)) fun v102 =>
  some (Sum.inl ((0 : Int32), v102, C95, D100))))) else (
  nm (v28 + (1 : Int32)) fun v97 =>
  some (Sum.inl ((0 : Int32), v97, C95, D70))))))))) else (
  nm (v28 + (1 : Int32)) fun v82 =>
  some (Sum.inl ((0 : Int32), v82, C80, D70))))) else (
  nm (v28 + (1 : Int32)) fun v77 =>
  some (Sum.inl ((0 : Int32), v77, C75, D70))))) else (
  nm (v28 + (1 : Int32)) fun v72 =>
  some (Sum.inl ((0 : Int32), v72, C65, D70))))))))) else (
  nm (v28 + (1 : Int32)) fun v57 =>
  some (Sum.inl (v53, v57, C54, D55))))
def S_L_law_140 (xs : Nat → Int32) (L : Nat) (v9 : Int32) (v27 : Int32) (v28 : Int32) (C29 : Mem) (D30 : Mem) : Option ((Int32 × Int32 × Mem × Mem) ⊕ (Int32 × Int32 × Mem × Mem)) :=
  (if (12 : Int32) ≤ v28 then (
  some (Sum.inr (v27, v28, C29, D30))) else (
  (if v27 = 0 then (
  some (Sum.inr (v27, v28, C29, D30))) else (
  b3 (F_L_number xs L ((((40 : Int32) * v9) + (8 : Int32)) + ((2 : Int32) * v28)) C29 D30) fun r38 C40 D41 =>
  b3 (F_L_number xs L ((((40 : Int32) * v9) + (9 : Int32)) + ((2 : Int32) * v28)) C40 D41) fun r42 C44 D45 =>
  b2 (F_L_act r38 r42 C44) fun r46 C48 =>
  b2 (F_L_act r38 r42 D45) fun r49 D51 =>
  (if r46 = r49 then (
  b2 (F_L_refuses  D51) fun r115 D117 =>
  (if r115 = 0 then (
  J_L_law_235 v28 r38 r42 (0 : Int32) C48 D117) else (
  b3 (F_L_alike  C48 D117) fun r119 C121 D122 =>
  (if r119 = 0 then (
  J_L_law_235 v28 r38 r42 (0 : Int32) C121 D122) else (
  b2 (F_L_sound  C121) fun r124 C126 =>
  (if r124 = 0 then (
  J_L_law_235 v28 r38 r42 (0 : Int32) C126 D122) else (
  J_L_law_235 v28 r38 r42 (1 : Int32) C126 D122))))))) else (
  J_L_law_235 v28 r38 r42 (0 : Int32) C48 D51))))))
def J_L_law_136 (xs : Nat → Int32) (L : Nat) (v9 : Int32) (v24 : Int32) (C25 : Mem) (D26 : Mem) : Option ((Int32 × Int32 × Mem × Mem) ⊕ (Int32 × Int32 × Mem × Mem)) :=
  b1 (iter (fun x => S_L_law_140 xs L v9 x.1 x.2.1 x.2.2.1 x.2.2.2) 13 (v24, (0 : Int32), C25, D26)) (u4 fun v32 v33 C34 D35 =>
  nm (v9 + (1 : Int32)) fun v128 =>
  some (Sum.inl (v32, v128, C34, D35)))
def S_L_law_85 (xs : Nat → Int32) (L : Nat) (v8 : Int32) (v9 : Int32) (C10 : Mem) (D11 : Mem) : Option ((Int32 × Int32 × Mem × Mem) ⊕ (Int32 × Int32 × Mem × Mem)) :=
  (if (2 : Int32) ≤ v9 then (
  some (Sum.inr (v8, v9, C10, D11))) else (
  (if v8 = 0 then (
  some (Sum.inr (v8, v9, C10, D11))) else (
  b3 (F_L_told xs L ((40 : Int32) * v9) C10 D11) fun r19 C21 D22 =>
  (if r19 = 0 then (
  J_L_law_136 xs L v9 (0 : Int32) C21 D22) else (
  b2 (F_L_refuses  D22) fun r129 D131 =>
  (if r129 = 0 then (
  J_L_law_136 xs L v9 (0 : Int32) C21 D131) else (
  b3 (F_L_alike  C21 D131) fun r133 C135 D136 =>
  (if r133 = 0 then (
  J_L_law_136 xs L v9 (0 : Int32) C135 D136) else (
  b2 (F_L_sound  C135) fun r138 C140 =>
  (if r138 = 0 then (
  J_L_law_136 xs L v9 (0 : Int32) C140 D136) else (
  J_L_law_136 xs L v9 (1 : Int32) C140 D136))))))))))))
def J_L_law_81 (xs : Nat → Int32) (L : Nat) (v5 : Int32) (C6 : Mem) (D7 : Mem) : Option (Int32 × Mem × Mem) :=
  b1 (iter (fun x => S_L_law_85 xs L x.1 x.2.1 x.2.2.1 x.2.2.2) 3 (v5, (0 : Int32), C6, D7)) (u4 fun v13 v14 C15 D16 =>
  go v13 (
  some ((1 : Int32), C15, D16)))
def F_L_law (xs : Nat → Int32) (L : Nat) (C D : Mem) : Option (Int32 × Mem × Mem) :=
  b2 (F_X8_errorPosition  C) fun r1 C3 =>
  (if r1 = 0 then (
  b2 (F_L_tryAbout (6 : Int32) C3) fun r143 C145 =>
  (if r143 = (1 : Int32) then (
  b2 (F_L_tryAbout (9 : Int32) C145) fun r147 C149 =>
  (if r147 = (40 : Int32) then (
  b2 (F_L_tryUndo  C149) fun r151 C153 =>
  (if r151 = (-1003 : Int32) then (
  b2 (F_L_refuses  D) fun r155 D157 =>
  (if r155 = 0 then (
  J_L_law_81 xs L (0 : Int32) C153 D157) else (
  b3 (F_L_alike  C153 D157) fun r159 C161 D162 =>
  (if r159 = 0 then (
  J_L_law_81 xs L (0 : Int32) C161 D162) else (
  b2 (F_L_sound  C161) fun r164 C166 =>
  (if r164 = 0 then (
  J_L_law_81 xs L (0 : Int32) C166 D162) else (
  J_L_law_81 xs L (1 : Int32) C166 D162))))))) else (
  J_L_law_81 xs L (0 : Int32) C153 D))) else (
  J_L_law_81 xs L (0 : Int32) C149 D))) else (
  J_L_law_81 xs L (0 : Int32) C145 D))) else (
  J_L_law_81 xs L (0 : Int32) C3 D))
set_option maxHeartbeats 40000000 in
set_option maxRecDepth 100000 in
theorem law_walk (l : Launch) (hfl : l.stackTraces = false) (G : GG) {p : Program} {e : Env} {s : State} {m : MethodId} {below : List Frame} {meth : Method} {c : Code} {b L : Nat} {xs : Nat → Int32} (hr : meth.sig.returnType = ret) (hlk : meth.locks = false) (hX : va_X b L xs s s.heap) (hbG : b < bb G) (hbb : bb G = s.heap.size) (hC : Cx p s m (#[Value.ref b]) c code RL 9 G) (C D : Mem) (rR : Int32) (CR DR : Mem) (hF : F_L_law xs L C D = some (rR, CR, DR)) (H : Heap) (locs : List Loc) (ls : Array Slot) (hw : Wd G 244 C H) (hS : LW G s H locs) (hq : Oq G D H) (hl : lv_has ls 9 [(0, .ref b), (1, .ref (bb G + 0)), (2, .ref (bb G + 244))]) : W p l e room_1 s m #[Value.ref b] below meth c H locs 1000 10000 (lw_Z below #[Value.ref b] s) (F0 m 16 ls []) := by
  have hx := hC.1
  have hb := hC.2.1
  have hn : 244 ≤ 244 := Nat.le_refl _
  have hend : ∀ (H : Heap) (locs : List Loc) (ls : Array Slot), LW G s H locs → W p l e room_1 s m #[Value.ref b] below meth c H locs 676253 7072710 (lw_Z below #[Value.ref b] s) (F0 m 370 ls [.int 1]) := by
    intro H locs ls hS
    refine va_forget (fun q hq => ?_) ?_
    · have := hS.2.2 q hq
      rw [← hbb]
      exact this
    · exact lw_ret hx hb hr hlk dL_law_370
  unfold F_L_law at hF
  refine lv_aload_n hx hb dL_law_16 rfl (lv_at hl 1 rfl) ?_
  obtain ⟨r1, C3, hc2, hF⟩ := b2_t hF
  refine call_VNE hC (c_X8_errorPosition l (gP G H) (H.size - bb G) (hw.lp hn) (Nat.zero_le _)  _ _ _ hc2) wvL_119 ⟨rfl, rfl, by decide, by decide⟩ hw hn hS rfl hl.1 rfl (rest := []) rfl (Nat.le_of_ble_eq_true rfl) dL_law_17 ⟨(show 1000 + 0 ≤ 676253 from (Nat.le_of_ble_eq_true rfl)), (show 10000 + 0 ≤ 7072710 from (Nat.le_of_ble_eq_true rfl))⟩ (fun H locs hw hS hk => ?_)
  have hq := hq.kp hk
  have hJ81 : ∀ (v5 : Int32) (C6 : Mem) (D7 : Mem) (H : Heap) (locs : List Loc) (ls : Array Slot), J_L_law_81 xs L v5 C6 D7 = some (rR, CR, DR) → Wd G 244 C6 H → LW G s H locs → Oq G D7 H → lv_has ls 9 [(0, .ref b), (1, .ref (bb G + 0)), (2, .ref (bb G + 244))] → W p l e room_1 s m (#[Value.ref b]) below meth c H locs 1775 14646 (lw_Z below #[Value.ref b] s) (F0 m 81 ls [.int v5]) := by
    intro v5 C6 D7 H locs ls hF hw hS hq hl
    unfold J_L_law_81 at hF
    refine lv_istore_n (lv' := [(3, .int v5), (0, .ref b), (1, .ref (bb G + 0)), (2, .ref (bb G + 244))]) hx hb dL_law_81 rfl hl (by decide) rfl (fun ls hl => ?_)
    refine lv_iconst (v := 0) hx hb dL_law_82 (by decide) ?_
    refine lv_istore (lv' := [(4, .int (0 : Int32)), (3, .int v5), (0, .ref b), (1, .ref (bb G + 0)), (2, .ref (bb G + 244))]) hx hb dL_law_83 hl (by decide) rfl (fun ls hl => ?_)
    obtain ⟨o12, hit12, hG12⟩ := b1_t hF
    have hR12 : ∀ (v13 : Int32) (v14 : Int32) (C15 : Mem) (D16 : Mem) (H : Heap) (locs : List Loc) (ls : Array Slot), o12 = (v13, v14, C15, D16) → Wd G 244 C15 H → LW G s H locs → Oq G D16 H → lv_has ls 9 [(3, .int v13)] → W p l e room_1 s m (#[Value.ref b]) below meth c H locs 515195 3102720 (lw_Z below #[Value.ref b] s) (F0 m 369 ls []) := by
      intro v13 v14 C15 D16 H locs ls hE hw hS hq hl
      subst hE
      have hF := u4_t hG12
      refine lv_iload_n hx hb dL_law_369 rfl (lv_at hl 0 rfl) ?_
      obtain ⟨g142, hF⟩ := go_t hF
      rw [g142]
      refine W.widen (k := 676253) (n := 7072710) (Nat.le_of_ble_eq_true rfl) (Nat.le_of_ble_eq_true rfl) ?_
      exact hend _ _ _ hS
    refine iter_soundN (P := fun (w12 : Nat) (x : Int32 × Int32 × Mem × Mem) => ∀ (kc12 ks12 : Nat) (H : Heap) (locs : List Loc) (ls : Array Slot), kc12 + 171140 * w12 ≤ 515195 → ks12 + 1029358 * w12 ≤ 3102720 → Wd G 244 x.2.2.1 H → LW G s H locs → Oq G x.2.2.2 H → lv_has ls 9 [(0, .ref b), (1, .ref (bb G + 0)), (2, .ref (bb G + 244)), (3, .int x.1), (4, .int x.2.1)] → W p l e room_1 s m (#[Value.ref b]) below meth c H locs kc12 ks12 (lw_Z below #[Value.ref b] s) (F0 m 85 ls [])) (X := fun r => r = o12) ?_ 3 (v5, (0 : Int32), C6, D7) o12 hit12 rfl 1775 14646 _ _ _ (Nat.le_of_ble_eq_true rfl) (Nat.le_of_ble_eq_true rfl) hw hS hq (lv_sub hl [2, 3, 4, 1, 0] rfl)
    intro w12 x oo12 hF hk12 hX12 kc12 ks12 H locs ls hc12 hs12 hw hS hq hl
    obtain ⟨v8, v9, C10, D11⟩ := x
    have hLc12 : 515195 ≤ 676253 := (Nat.le_of_ble_eq_true rfl)
    have hLs12 : 3102720 ≤ 7072710 := (Nat.le_of_ble_eq_true rfl)
    have hF : S_L_law_85 xs L v8 v9 C10 D11 = some oo12 := hF
    have hw : Wd G 244 C10 H := hw
    have hq : Oq G D11 H := hq
    have hl : lv_has ls 9 [(0, .ref b), (1, .ref (bb G + 0)), (2, .ref (bb G + 244)), (3, .int v8), (4, .int v9)] := hl
    unfold S_L_law_85 at hF
    refine lv_iload hx hb dL_law_85 (lv_at hl 4 rfl) ?_
    refine lv_iconst (v := 2) hx hb dL_law_87 (by decide) ?_
    refine lv_icmp_ge (tgt := 369) hx hb dL_law_88 (by decide) (fun h17 => ?_) (fun h17 => ?_)
    · have hF := it_t h17 hF
      refine W.widen (k := 515195) (n := 3102720) (rk (x := 0) hc12 (Nat.le_refl _) (Nat.le_of_ble_eq_true rfl)) (rk (x := 0) hs12 (Nat.le_refl _) (Nat.le_of_ble_eq_true rfl)) ?_
      exact hR12 _ _ _ _ _ _ _ (it_exit hF hX12).symm hw hS hq (lv_sub hl [3] rfl)
    · have hF := it_f h17 hF
      refine lv_iload_n hx hb dL_law_91 rfl (lv_at hl 3 rfl) ?_
      refine lv_if_eq (tgt := 369) hx hb dL_law_92 (by decide) (fun h18 => ?_) (fun h18 => ?_)
      · have hF := it_t h18 hF
        refine W.widen (k := 515195) (n := 3102720) (rk (x := 0) hc12 (Nat.le_refl _) (Nat.le_of_ble_eq_true rfl)) (rk (x := 0) hs12 (Nat.le_refl _) (Nat.le_of_ble_eq_true rfl)) ?_
        exact hR12 _ _ _ _ _ _ _ (it_exit hF hX12).symm hw hS hq (lv_sub hl [3] rfl)
      · have hF := it_f h18 hF
        refine lv_aload_n hx hb dL_law_95 rfl (lv_at hl 1 rfl) ?_
        refine lv_aload_n hx hb dL_law_96 rfl (lv_at hl 2 rfl) ?_
        refine lv_aload_n hx hb dL_law_97 rfl (lv_at hl 0 rfl) ?_
        refine lv_bipush (v := 40) hx hb dL_law_98 (by decide) ?_
        refine lv_iload hx hb dL_law_100 (lv_at hl 4 rfl) ?_
        refine lv_imul hx hb dL_law_102 ?_
        obtain ⟨r19, C21, D22, hc20, hF⟩ := b3_t hF
        refine call_S2 hC (c_L_told l G b L xs hbG hfl ((40 : Int32) * v9) _ _ _ _ _ hc20) wsL_270 ⟨rfl, rfl, by decide, by decide⟩ hX hbG hw hq hS hl.1 rfl (rest := []) rfl (Nat.le_of_ble_eq_true rfl) dL_law_103 ⟨(show kc12 + 211 ≤ 676253 from rk hc12 hLc12 (Nat.le_of_ble_eq_true rfl)), (show ks12 + 1266 ≤ 7072710 from rk hs12 hLs12 (Nat.le_of_ble_eq_true rfl))⟩ (fun H locs hw hq hS => ?_)
        have hJ136 : ∀ (v24 : Int32) (C25 : Mem) (D26 : Mem) (H : Heap) (locs : List Loc) (ls : Array Slot), J_L_law_136 xs L v9 v24 C25 D26 = some oo12 → Wd G 244 C25 H → LW G s H locs → Oq G D26 H → lv_has ls 9 [(0, .ref b), (1, .ref (bb G + 0)), (2, .ref (bb G + 244)), (4, .int v9)] → W p l e room_1 s m (#[Value.ref b]) below meth c H locs (kc12 + 983) (ks12 + 5894) (lw_Z below #[Value.ref b] s) (F0 m 136 ls [.int v24]) := by
          intro v24 C25 D26 H locs ls hF hw hS hq hl
          unfold J_L_law_136 at hF
          refine lv_istore_n (lv' := [(3, .int v24), (0, .ref b), (1, .ref (bb G + 0)), (2, .ref (bb G + 244)), (4, .int v9)]) hx hb dL_law_136 rfl hl (by decide) rfl (fun ls hl => ?_)
          refine lv_iconst (v := 0) hx hb dL_law_137 (by decide) ?_
          refine lv_istore (lv' := [(5, .int (0 : Int32)), (3, .int v24), (0, .ref b), (1, .ref (bb G + 0)), (2, .ref (bb G + 244)), (4, .int v9)]) hx hb dL_law_138 hl (by decide) rfl (fun ls hl => ?_)
          obtain ⟨o31, hit31, hG31⟩ := b1_t hF
          have hR31 : ∀ (v32 : Int32) (v33 : Int32) (C34 : Mem) (D35 : Mem) (H : Heap) (locs : List Loc) (ls : Array Slot), o31 = (v32, v33, C34, D35) → Wd G 244 C34 H → LW G s H locs → Oq G D35 H → lv_has ls 9 [(0, .ref b), (1, .ref (bb G + 0)), (2, .ref (bb G + 244)), (4, .int v9), (3, .int v32)] → W p l e room_1 s m (#[Value.ref b]) below meth c H locs (kc12 + 171140) (ks12 + 1029358) (lw_Z below #[Value.ref b] s) (F0 m 363 ls []) := by
            intro v32 v33 C34 D35 H locs ls hE hw hS hq hl
            subst hE
            have hF := u4_t hG31
            obtain ⟨v128, ev128, hF⟩ := nm_t hF
            refine lv_iinc (v := v128) (lv' := [(4, .int v128), (0, .ref b), (1, .ref (bb G + 0)), (2, .ref (bb G + 244)), (3, .int v32)]) hx hb dL_law_363 hl (k := 3) rfl (by rw [ev128]; rfl) (by decide) rfl (fun ls hl => ?_)
            refine lv_goto (tgt := 85) hx hb dL_law_366 (by decide) ?_
            exact it_back hF hk12 (kc12 + 171140) (ks12 + 1029358) _ _ _ (bk hc12 (Nat.le_of_ble_eq_true rfl)) (bk hs12 (Nat.le_of_ble_eq_true rfl)) hw hS hq (lv_sub hl [1, 2, 3, 4, 0] rfl)
          refine iter_soundN (P := fun (w31 : Nat) (x : Int32 × Int32 × Mem × Mem) => ∀ (kc31 ks31 : Nat) (H : Heap) (locs : List Loc) (ls : Array Slot), kc31 + 13089 * w31 ≤ (kc12 + 171140) → ks31 + 78728 * w31 ≤ (ks12 + 1029358) → Wd G 244 x.2.2.1 H → LW G s H locs → Oq G x.2.2.2 H → lv_has ls 9 [(0, .ref b), (1, .ref (bb G + 0)), (2, .ref (bb G + 244)), (4, .int v9), (3, .int x.1), (5, .int x.2.1)] → W p l e room_1 s m (#[Value.ref b]) below meth c H locs kc31 ks31 (lw_Z below #[Value.ref b] s) (F0 m 140 ls [])) (X := fun r => r = o31) ?_ 13 (v24, (0 : Int32), C25, D26) o31 hit31 rfl (kc12 + 983) (ks12 + 5894) _ _ _ (en rfl) (en rfl) hw hS hq (lv_sub hl [2, 3, 4, 5, 1, 0] rfl)
          intro w31 x oo31 hF hk31 hX31 kc31 ks31 H locs ls hc31 hs31 hw hS hq hl
          obtain ⟨v27, v28, C29, D30⟩ := x
          have hLc31 : kc12 + 171140 ≤ 676253 := rk hc12 hLc12 (Nat.le_of_ble_eq_true rfl)
          have hLs31 : ks12 + 1029358 ≤ 7072710 := rk hs12 hLs12 (Nat.le_of_ble_eq_true rfl)
          have hF : S_L_law_140 xs L v9 v27 v28 C29 D30 = some oo31 := hF
          have hw : Wd G 244 C29 H := hw
          have hq : Oq G D30 H := hq
          have hl : lv_has ls 9 [(0, .ref b), (1, .ref (bb G + 0)), (2, .ref (bb G + 244)), (4, .int v9), (3, .int v27), (5, .int v28)] := hl
          unfold S_L_law_140 at hF
          refine lv_iload hx hb dL_law_140 (lv_at hl 5 rfl) ?_
          refine lv_bipush (v := 12) hx hb dL_law_142 (by decide) ?_
          refine lv_icmp_ge (tgt := 363) hx hb dL_law_144 (by decide) (fun h36 => ?_) (fun h36 => ?_)
          · have hF := it_t h36 hF
            refine W.widen (k := (kc12 + 171140)) (n := (ks12 + 1029358)) (rk (x := 0) hc31 (Nat.le_refl _) (Nat.le_of_ble_eq_true rfl)) (rk (x := 0) hs31 (Nat.le_refl _) (Nat.le_of_ble_eq_true rfl)) ?_
            exact hR31 _ _ _ _ _ _ _ (it_exit hF hX31).symm hw hS hq (lv_sub hl [0, 1, 2, 3, 4] rfl)
          · have hF := it_f h36 hF
            refine lv_iload_n hx hb dL_law_147 rfl (lv_at hl 4 rfl) ?_
            refine lv_if_eq (tgt := 363) hx hb dL_law_148 (by decide) (fun h37 => ?_) (fun h37 => ?_)
            · have hF := it_t h37 hF
              refine W.widen (k := (kc12 + 171140)) (n := (ks12 + 1029358)) (rk (x := 0) hc31 (Nat.le_refl _) (Nat.le_of_ble_eq_true rfl)) (rk (x := 0) hs31 (Nat.le_refl _) (Nat.le_of_ble_eq_true rfl)) ?_
              exact hR31 _ _ _ _ _ _ _ (it_exit hF hX31).symm hw hS hq (lv_sub hl [0, 1, 2, 3, 4] rfl)
            · have hF := it_f h37 hF
              refine lv_aload_n hx hb dL_law_151 rfl (lv_at hl 0 rfl) ?_
              refine lv_bipush (v := 40) hx hb dL_law_152 (by decide) ?_
              refine lv_iload hx hb dL_law_154 (lv_at hl 3 rfl) ?_
              refine lv_imul hx hb dL_law_156 ?_
              refine lv_bipush (v := 8) hx hb dL_law_157 (by decide) ?_
              refine lv_iadd hx hb dL_law_159 ?_
              refine lv_iconst (v := 2) hx hb dL_law_160 (by decide) ?_
              refine lv_iload hx hb dL_law_161 (lv_at hl 5 rfl) ?_
              refine lv_imul hx hb dL_law_163 ?_
              refine lv_iadd hx hb dL_law_164 ?_
              obtain ⟨r38, C40, D41, hc39, hF⟩ := b3_t hF
              refine call_S2 hC (c_L_number l G b L xs hbG hfl ((((40 : Int32) * v9) + (8 : Int32)) + ((2 : Int32) * v28)) _ _ _ _ _ hc39) wsL_112 ⟨rfl, rfl, by decide, by decide⟩ hX hbG hw hq hS hl.1 rfl (rest := []) rfl (Nat.le_of_ble_eq_true rfl) dL_law_165 ⟨(show kc31 + 0 ≤ 676253 from rk hc31 hLc31 (Nat.le_of_ble_eq_true rfl)), (show ks31 + 0 ≤ 7072710 from rk hs31 hLs31 (Nat.le_of_ble_eq_true rfl))⟩ (fun H locs hw hq hS => ?_)
              refine lv_istore (lv' := [(6, .int r38), (0, .ref b), (1, .ref (bb G + 0)), (2, .ref (bb G + 244)), (4, .int v9), (3, .int v27), (5, .int v28)]) hx hb dL_law_168 hl (by decide) rfl (fun ls hl => ?_)
              refine lv_aload_n hx hb dL_law_170 rfl (lv_at hl 1 rfl) ?_
              refine lv_bipush (v := 40) hx hb dL_law_171 (by decide) ?_
              refine lv_iload hx hb dL_law_173 (lv_at hl 4 rfl) ?_
              refine lv_imul hx hb dL_law_175 ?_
              refine lv_bipush (v := 9) hx hb dL_law_176 (by decide) ?_
              refine lv_iadd hx hb dL_law_178 ?_
              refine lv_iconst (v := 2) hx hb dL_law_179 (by decide) ?_
              refine lv_iload hx hb dL_law_180 (lv_at hl 6 rfl) ?_
              refine lv_imul hx hb dL_law_182 ?_
              refine lv_iadd hx hb dL_law_183 ?_
              obtain ⟨r42, C44, D45, hc43, hF⟩ := b3_t hF
              refine call_S2 hC (c_L_number l G b L xs hbG hfl ((((40 : Int32) * v9) + (9 : Int32)) + ((2 : Int32) * v28)) _ _ _ _ _ hc43) wsL_112 ⟨rfl, rfl, by decide, by decide⟩ hX hbG hw hq hS hl.1 rfl (rest := []) rfl (Nat.le_of_ble_eq_true rfl) dL_law_184 ⟨(show kc31 + 0 ≤ 676253 from rk hc31 hLc31 (Nat.le_of_ble_eq_true rfl)), (show ks31 + 0 ≤ 7072710 from rk hs31 hLs31 (Nat.le_of_ble_eq_true rfl))⟩ (fun H locs hw hq hS => ?_)
              refine lv_istore (lv' := [(7, .int r42), (6, .int r38), (0, .ref b), (1, .ref (bb G + 0)), (2, .ref (bb G + 244)), (4, .int v9), (3, .int v27), (5, .int v28)]) hx hb dL_law_187 hl (by decide) rfl (fun ls hl => ?_)
              refine lv_aload_n hx hb dL_law_189 rfl (lv_at hl 3 rfl) ?_
              refine lv_iload hx hb dL_law_190 (lv_at hl 1 rfl) ?_
              refine lv_iload hx hb dL_law_192 (lv_at hl 0 rfl) ?_
              obtain ⟨r46, C48, hc47, hF⟩ := b2_t hF
              refine call_SNE hC (c_L_act l (gP G H) (H.size - bb G) (hw.lp hn) (Nat.zero_le _) hfl r38 r42 _ _ _ hc47) wsL_274 ⟨rfl, rfl, by decide, by decide⟩ hw hn hS hl.1 rfl (rest := []) rfl (Nat.le_of_ble_eq_true rfl) dL_law_194 ⟨(show kc31 + 3 ≤ 676253 from rk hc31 hLc31 (Nat.le_of_ble_eq_true rfl)), (show ks31 + 18 ≤ 7072710 from rk hs31 hLs31 (Nat.le_of_ble_eq_true rfl))⟩ (fun H locs hw hS hk => ?_)
              have hq := hq.kp hk
              refine lv_aload_n hx hb dL_law_197 rfl (lv_at hl 4 rfl) ?_
              refine lv_iload hx hb dL_law_198 (lv_at hl 1 rfl) ?_
              refine lv_iload hx hb dL_law_200 (lv_at hl 0 rfl) ?_
              obtain ⟨r49, D51, hc50, hF⟩ := b2_t hF
              refine call_SNQ hC (c_L_act l (gQ G H) (H.size - (bb G + 244)) hq.lq (Nat.zero_le _) hfl r38 r42 _ _ _ hc50) wsL_274 ⟨rfl, rfl, by decide, by decide⟩ hw hq hS hl.1 rfl (rest := [.int r46]) rfl (Nat.le_of_ble_eq_true rfl) dL_law_202 ⟨(show (kc31 + 3) + 3 ≤ 676253 from rk2 hc31 hLc31 (Nat.le_of_ble_eq_true rfl)), (show (ks31 + 18) + 18 ≤ 7072710 from rk2 hs31 hLs31 (Nat.le_of_ble_eq_true rfl))⟩ (fun H locs hq hS hk => ?_)
              have hw := hw.kq hk
              have hJ235 : ∀ (v53 : Int32) (C54 : Mem) (D55 : Mem) (H : Heap) (locs : List Loc) (ls : Array Slot), J_L_law_235 v28 r38 r42 v53 C54 D55 = some oo31 → Wd G 244 C54 H → LW G s H locs → Oq G D55 H → lv_has ls 9 [(0, .ref b), (1, .ref (bb G + 0)), (2, .ref (bb G + 244)), (4, .int v9), (5, .int v28), (6, .int r38), (7, .int r42)] → W p l e room_1 s m (#[Value.ref b]) below meth c H locs (kc31 + 778) (ks31 + 4664) (lw_Z below #[Value.ref b] s) (F0 m 235 ls [.int v53]) := by
                intro v53 C54 D55 H locs ls hF hw hS hq hl
                unfold J_L_law_235 at hF
                refine lv_istore_n (lv' := [(3, .int v53), (0, .ref b), (1, .ref (bb G + 0)), (2, .ref (bb G + 244)), (4, .int v9), (5, .int v28), (6, .int r38), (7, .int r42)]) hx hb dL_law_235 rfl hl (by decide) rfl (fun ls hl => ?_)
                refine lv_iload hx hb dL_law_236 (lv_at hl 5 rfl) ?_
                refine lv_iconst (v := 4) hx hb dL_law_238 (by decide) ?_
                refine lv_irem hx hb dL_law_239 (by decide) ?_
                refine lv_iconst (v := 3) hx hb dL_law_240 (by decide) ?_
                refine lv_icmp_ne (tgt := 357) hx hb dL_law_241 (by decide) (fun h56 => ?_) (fun h56 => ?_)
                · have hF := it_f h56 hF
                  obtain ⟨v57, ev57, hF⟩ := nm_t hF
                  refine lv_iinc (v := v57) (lv' := [(5, .int v57), (3, .int v53), (0, .ref b), (1, .ref (bb G + 0)), (2, .ref (bb G + 244)), (4, .int v9), (6, .int r38), (7, .int r42)]) hx hb dL_law_357 hl (k := 5) rfl (by rw [ev57]; rfl) (by decide) rfl (fun ls hl => ?_)
                  refine lv_goto (tgt := 140) hx hb dL_law_360 (by decide) ?_
                  exact it_back hF hk31 (kc31 + 778) (ks31 + 4664) _ _ _ (bk hc31 (Nat.le_of_ble_eq_true rfl)) (bk hs31 (Nat.le_of_ble_eq_true rfl)) hw hS hq (lv_sub hl [2, 3, 4, 5, 1, 0] rfl)
                · have hF := it_t h56 hF
                  refine lv_iload_n hx hb dL_law_244 rfl (lv_at hl 0 rfl) ?_
                  refine lv_if_eq (tgt := 357) hx hb dL_law_245 (by decide) (fun h58 => ?_) (fun h58 => ?_)
                  · have hF := it_t h58 hF
                    obtain ⟨v59, ev59, hF⟩ := nm_t hF
                    refine lv_iinc (v := v59) (lv' := [(5, .int v59), (3, .int v53), (0, .ref b), (1, .ref (bb G + 0)), (2, .ref (bb G + 244)), (4, .int v9), (6, .int r38), (7, .int r42)]) hx hb dL_law_357 hl (k := 5) rfl (by rw [ev59]; rfl) (by decide) rfl (fun ls hl => ?_)
                    refine lv_goto (tgt := 140) hx hb dL_law_360 (by decide) ?_
                    exact it_back hF hk31 (kc31 + 778) (ks31 + 4664) _ _ _ (bk hc31 (Nat.le_of_ble_eq_true rfl)) (bk hs31 (Nat.le_of_ble_eq_true rfl)) hw hS hq (lv_sub hl [2, 3, 4, 5, 1, 0] rfl)
                  · have hF := it_f h58 hF
                    refine lv_aload_n hx hb dL_law_248 rfl (lv_at hl 2 rfl) ?_
                    refine lv_bipush (v := 8) hx hb dL_law_249 (by decide) ?_
                    obtain ⟨r60, C62, hc61, hF⟩ := b2_t hF
                    refine call_SWE hC (c_L_tryAbout l (gP G H) (H.size - bb G) (hw.lp hn) (Nat.zero_le _) hfl (8 : Int32) _ _ _ hc61) wwL_129 ⟨rfl, rfl, by decide, by decide⟩ hw hn hS hl.1 rfl (rest := []) rfl (Nat.le_of_ble_eq_true rfl) dL_law_251 ⟨(show (kc31 + 778) + 1 ≤ 676253 from rk2 hc31 hLc31 (Nat.le_of_ble_eq_true rfl)), (show (ks31 + 4664) + 6 ≤ 7072710 from rk2 hs31 hLs31 (Nat.le_of_ble_eq_true rfl))⟩ (fun H locs hw hS hk => ?_)
                    have hq := hq.kp hk
                    refine lv_istore (lv' := [(8, .int r60), (3, .int v53), (0, .ref b), (1, .ref (bb G + 0)), (2, .ref (bb G + 244)), (4, .int v9), (5, .int v28), (6, .int r38), (7, .int r42)]) hx hb dL_law_254 hl (by decide) rfl (fun ls hl => ?_)
                    refine lv_aload_n hx hb dL_law_256 rfl (lv_at hl 3 rfl) ?_
                    refine lv_iload hx hb dL_law_257 (lv_at hl 7 rfl) ?_
                    obtain ⟨r63, C65, hc64, hF⟩ := b2_t hF
                    refine call_SNE hC (c_L_scripts l (gP G H) (H.size - bb G) (hw.lp hn) (Nat.zero_le _) hfl r38 _ _ _ hc64) wsL_277 ⟨rfl, rfl, by decide, by decide⟩ hw hn hS hl.1 rfl (rest := []) rfl (Nat.le_of_ble_eq_true rfl) dL_law_259 ⟨(show (kc31 + 779) + 47 ≤ 676253 from rk2 hc31 hLc31 (Nat.le_of_ble_eq_true rfl)), (show (ks31 + 4670) + 282 ≤ 7072710 from rk2 hs31 hLs31 (Nat.le_of_ble_eq_true rfl))⟩ (fun H locs hw hS hk => ?_)
                    have hq := hq.kp hk
                    refine lv_if_eq (tgt := 355) hx hb dL_law_262 (by decide) (fun h66 => ?_) (fun h66 => ?_)
                    · have hF := it_t h66 hF
                      refine lv_iconst (v := 0) hx hb dL_law_355 (by decide) ?_
                      refine lv_istore_n (lv' := [(3, .int (0 : Int32)), (8, .int r60), (0, .ref b), (1, .ref (bb G + 0)), (2, .ref (bb G + 244)), (4, .int v9), (5, .int v28), (6, .int r38), (7, .int r42)]) hx hb dL_law_356 rfl hl (by decide) rfl (fun ls hl => ?_)
                      obtain ⟨v67, ev67, hF⟩ := nm_t hF
                      refine lv_iinc (v := v67) (lv' := [(5, .int v67), (3, .int (0 : Int32)), (8, .int r60), (0, .ref b), (1, .ref (bb G + 0)), (2, .ref (bb G + 244)), (4, .int v9), (6, .int r38), (7, .int r42)]) hx hb dL_law_357 hl (k := 6) rfl (by rw [ev67]; rfl) (by decide) rfl (fun ls hl => ?_)
                      refine lv_goto (tgt := 140) hx hb dL_law_360 (by decide) ?_
                      exact it_back hF hk31 (kc31 + 826) (ks31 + 4952) _ _ _ (bk hc31 (Nat.le_of_ble_eq_true rfl)) (bk hs31 (Nat.le_of_ble_eq_true rfl)) hw hS hq (lv_sub hl [3, 4, 5, 6, 1, 0] rfl)
                    · have hF := it_f h66 hF
                      refine lv_aload_n hx hb dL_law_265 rfl (lv_at hl 4 rfl) ?_
                      refine lv_iconst (v := 0) hx hb dL_law_266 (by decide) ?_
                      obtain ⟨r68, D70, hc69, hF⟩ := b2_t hF
                      refine call_SWQ hC (c_L_trySave l (gQ G H) (H.size - (bb G + 244)) hq.lq (Nat.zero_le _) hfl (0 : Int32) _ _ _ hc69) wwL_208 ⟨rfl, rfl, by decide, by decide⟩ hw hq hS hl.1 rfl (rest := []) rfl (Nat.le_of_ble_eq_true rfl) dL_law_267 ⟨(show (kc31 + 826) + 1 ≤ 676253 from rk2 hc31 hLc31 (Nat.le_of_ble_eq_true rfl)), (show (ks31 + 4952) + 6 ≤ 7072710 from rk2 hs31 hLs31 (Nat.le_of_ble_eq_true rfl))⟩ (fun H locs hq hS hk => ?_)
                      have hw := hw.kq hk
                      refine lv_iload hx hb dL_law_270 (lv_at hl 0 rfl) ?_
                      refine lv_icmp_ne (tgt := 355) hx hb dL_law_272 (by decide) (fun h71 => ?_) (fun h71 => ?_)
                      · have hF := it_f h71 hF
                        refine lv_iconst (v := 0) hx hb dL_law_355 (by decide) ?_
                        refine lv_istore_n (lv' := [(3, .int (0 : Int32)), (8, .int r60), (0, .ref b), (1, .ref (bb G + 0)), (2, .ref (bb G + 244)), (4, .int v9), (5, .int v28), (6, .int r38), (7, .int r42)]) hx hb dL_law_356 rfl hl (by decide) rfl (fun ls hl => ?_)
                        obtain ⟨v72, ev72, hF⟩ := nm_t hF
                        refine lv_iinc (v := v72) (lv' := [(5, .int v72), (3, .int (0 : Int32)), (8, .int r60), (0, .ref b), (1, .ref (bb G + 0)), (2, .ref (bb G + 244)), (4, .int v9), (6, .int r38), (7, .int r42)]) hx hb dL_law_357 hl (k := 6) rfl (by rw [ev72]; rfl) (by decide) rfl (fun ls hl => ?_)
                        refine lv_goto (tgt := 140) hx hb dL_law_360 (by decide) ?_
                        exact it_back hF hk31 (kc31 + 827) (ks31 + 4958) _ _ _ (bk hc31 (Nat.le_of_ble_eq_true rfl)) (bk hs31 (Nat.le_of_ble_eq_true rfl)) hw hS hq (lv_sub hl [3, 4, 5, 6, 1, 0] rfl)
                      · have hF := it_t h71 hF
                        refine lv_aload_n hx hb dL_law_275 rfl (lv_at hl 3 rfl) ?_
                        refine lv_iconst (v := 0) hx hb dL_law_276 (by decide) ?_
                        obtain ⟨r73, C75, hc74, hF⟩ := b2_t hF
                        refine call_SWE hC (c_L_trySave l (gP G H) (H.size - bb G) (hw.lp hn) (Nat.zero_le _) hfl (0 : Int32) _ _ _ hc74) wwL_208 ⟨rfl, rfl, by decide, by decide⟩ hw hn hS hl.1 rfl (rest := []) rfl (Nat.le_of_ble_eq_true rfl) dL_law_277 ⟨(show (kc31 + 827) + 1 ≤ 676253 from rk2 hc31 hLc31 (Nat.le_of_ble_eq_true rfl)), (show (ks31 + 4958) + 6 ≤ 7072710 from rk2 hs31 hLs31 (Nat.le_of_ble_eq_true rfl))⟩ (fun H locs hw hS hk => ?_)
                        have hq := hq.kp hk
                        refine lv_iload hx hb dL_law_280 (lv_at hl 0 rfl) ?_
                        refine lv_icmp_ne (tgt := 355) hx hb dL_law_282 (by decide) (fun h76 => ?_) (fun h76 => ?_)
                        · have hF := it_f h76 hF
                          refine lv_iconst (v := 0) hx hb dL_law_355 (by decide) ?_
                          refine lv_istore_n (lv' := [(3, .int (0 : Int32)), (8, .int r60), (0, .ref b), (1, .ref (bb G + 0)), (2, .ref (bb G + 244)), (4, .int v9), (5, .int v28), (6, .int r38), (7, .int r42)]) hx hb dL_law_356 rfl hl (by decide) rfl (fun ls hl => ?_)
                          obtain ⟨v77, ev77, hF⟩ := nm_t hF
                          refine lv_iinc (v := v77) (lv' := [(5, .int v77), (3, .int (0 : Int32)), (8, .int r60), (0, .ref b), (1, .ref (bb G + 0)), (2, .ref (bb G + 244)), (4, .int v9), (6, .int r38), (7, .int r42)]) hx hb dL_law_357 hl (k := 6) rfl (by rw [ev77]; rfl) (by decide) rfl (fun ls hl => ?_)
                          refine lv_goto (tgt := 140) hx hb dL_law_360 (by decide) ?_
                          exact it_back hF hk31 (kc31 + 828) (ks31 + 4964) _ _ _ (bk hc31 (Nat.le_of_ble_eq_true rfl)) (bk hs31 (Nat.le_of_ble_eq_true rfl)) hw hS hq (lv_sub hl [3, 4, 5, 6, 1, 0] rfl)
                        · have hF := it_t h76 hF
                          refine lv_aload_n hx hb dL_law_285 rfl (lv_at hl 3 rfl) ?_
                          refine lv_iconst (v := 0) hx hb dL_law_286 (by decide) ?_
                          obtain ⟨r78, C80, hc79, hF⟩ := b2_t hF
                          refine call_SWE hC (c_L_tryRestore l (gP G H) (H.size - bb G) (hw.lp hn) (Nat.zero_le _) hfl (0 : Int32) _ _ _ hc79) wwL_142 ⟨rfl, rfl, by decide, by decide⟩ hw hn hS hl.1 rfl (rest := []) rfl (Nat.le_of_ble_eq_true rfl) dL_law_287 ⟨(show (kc31 + 828) + 2 ≤ 676253 from rk2 hc31 hLc31 (Nat.le_of_ble_eq_true rfl)), (show (ks31 + 4964) + 12 ≤ 7072710 from rk2 hs31 hLs31 (Nat.le_of_ble_eq_true rfl))⟩ (fun H locs hw hS hk => ?_)
                          have hq := hq.kp hk
                          refine lv_iload hx hb dL_law_290 (lv_at hl 0 rfl) ?_
                          refine lv_icmp_ne (tgt := 355) hx hb dL_law_292 (by decide) (fun h81 => ?_) (fun h81 => ?_)
                          · have hF := it_f h81 hF
                            refine lv_iconst (v := 0) hx hb dL_law_355 (by decide) ?_
                            refine lv_istore_n (lv' := [(3, .int (0 : Int32)), (8, .int r60), (0, .ref b), (1, .ref (bb G + 0)), (2, .ref (bb G + 244)), (4, .int v9), (5, .int v28), (6, .int r38), (7, .int r42)]) hx hb dL_law_356 rfl hl (by decide) rfl (fun ls hl => ?_)
                            obtain ⟨v82, ev82, hF⟩ := nm_t hF
                            refine lv_iinc (v := v82) (lv' := [(5, .int v82), (3, .int (0 : Int32)), (8, .int r60), (0, .ref b), (1, .ref (bb G + 0)), (2, .ref (bb G + 244)), (4, .int v9), (6, .int r38), (7, .int r42)]) hx hb dL_law_357 hl (k := 6) rfl (by rw [ev82]; rfl) (by decide) rfl (fun ls hl => ?_)
                            refine lv_goto (tgt := 140) hx hb dL_law_360 (by decide) ?_
                            exact it_back hF hk31 (kc31 + 830) (ks31 + 4976) _ _ _ (bk hc31 (Nat.le_of_ble_eq_true rfl)) (bk hs31 (Nat.le_of_ble_eq_true rfl)) hw hS hq (lv_sub hl [3, 4, 5, 6, 1, 0] rfl)
                          · have hF := it_t h81 hF
                            refine lv_aload_n hx hb dL_law_295 rfl (lv_at hl 3 rfl) ?_
                            refine lv_iload hx hb dL_law_296 (lv_at hl 8 rfl) ?_
                            obtain ⟨r83, C85, hc84, hF⟩ := b2_t hF
                            refine call_SNE hC (c_L_hands l (gP G H) (H.size - bb G) (hw.lp hn) (Nat.zero_le _) hfl r42 _ _ _ hc84) wsL_281 ⟨rfl, rfl, by decide, by decide⟩ hw hn hS hl.1 rfl (rest := []) rfl (Nat.le_of_ble_eq_true rfl) dL_law_298 ⟨(show (kc31 + 830) + 731 ≤ 676253 from rk2 hc31 hLc31 (Nat.le_of_ble_eq_true rfl)), (show (ks31 + 4976) + 4374 ≤ 7072710 from rk2 hs31 hLs31 (Nat.le_of_ble_eq_true rfl))⟩ (fun H locs hw hS hk => ?_)
                            have hq := hq.kp hk
                            refine lv_if_eq (tgt := 355) hx hb dL_law_301 (by decide) (fun h86 => ?_) (fun h86 => ?_)
                            · have hF := it_t h86 hF
                              refine lv_iconst (v := 0) hx hb dL_law_355 (by decide) ?_
                              refine lv_istore_n (lv' := [(3, .int (0 : Int32)), (8, .int r60), (0, .ref b), (1, .ref (bb G + 0)), (2, .ref (bb G + 244)), (4, .int v9), (5, .int v28), (6, .int r38), (7, .int r42)]) hx hb dL_law_356 rfl hl (by decide) rfl (fun ls hl => ?_)
                              obtain ⟨v87, ev87, hF⟩ := nm_t hF
                              refine lv_iinc (v := v87) (lv' := [(5, .int v87), (3, .int (0 : Int32)), (8, .int r60), (0, .ref b), (1, .ref (bb G + 0)), (2, .ref (bb G + 244)), (4, .int v9), (6, .int r38), (7, .int r42)]) hx hb dL_law_357 hl (k := 6) rfl (by rw [ev87]; rfl) (by decide) rfl (fun ls hl => ?_)
                              refine lv_goto (tgt := 140) hx hb dL_law_360 (by decide) ?_
                              exact it_back hF hk31 (kc31 + 1561) (ks31 + 9350) _ _ _ (bk hc31 (Nat.le_of_ble_eq_true rfl)) (bk hs31 (Nat.le_of_ble_eq_true rfl)) hw hS hq (lv_sub hl [3, 4, 5, 6, 1, 0] rfl)
                            · have hF := it_f h86 hF
                              refine lv_aload_n hx hb dL_law_304 rfl (lv_at hl 3 rfl) ?_
                              refine lv_iload hx hb dL_law_305 (lv_at hl 8 rfl) ?_
                              obtain ⟨r88, C90, hc89, hF⟩ := b2_t hF
                              refine call_SNE hC (c_L_ticks l (gP G H) (H.size - bb G) (hw.lp hn) (Nat.zero_le _) hfl r42 _ _ _ hc89) wsL_284 ⟨rfl, rfl, by decide, by decide⟩ hw hn hS hl.1 rfl (rest := []) rfl (Nat.le_of_ble_eq_true rfl) dL_law_307 ⟨(show (kc31 + 1561) + 11130 ≤ 676253 from rk2 hc31 hLc31 (Nat.le_of_ble_eq_true rfl)), (show (ks31 + 9350) + 66990 ≤ 7072710 from rk2 hs31 hLs31 (Nat.le_of_ble_eq_true rfl))⟩ (fun H locs hw hS hk => ?_)
                              have hq := hq.kp hk
                              refine lv_if_eq (tgt := 355) hx hb dL_law_310 (by decide) (fun h91 => ?_) (fun h91 => ?_)
                              · have hF := it_t h91 hF
                                refine lv_iconst (v := 0) hx hb dL_law_355 (by decide) ?_
                                refine lv_istore_n (lv' := [(3, .int (0 : Int32)), (8, .int r60), (0, .ref b), (1, .ref (bb G + 0)), (2, .ref (bb G + 244)), (4, .int v9), (5, .int v28), (6, .int r38), (7, .int r42)]) hx hb dL_law_356 rfl hl (by decide) rfl (fun ls hl => ?_)
                                obtain ⟨v92, ev92, hF⟩ := nm_t hF
                                refine lv_iinc (v := v92) (lv' := [(5, .int v92), (3, .int (0 : Int32)), (8, .int r60), (0, .ref b), (1, .ref (bb G + 0)), (2, .ref (bb G + 244)), (4, .int v9), (6, .int r38), (7, .int r42)]) hx hb dL_law_357 hl (k := 6) rfl (by rw [ev92]; rfl) (by decide) rfl (fun ls hl => ?_)
                                refine lv_goto (tgt := 140) hx hb dL_law_360 (by decide) ?_
                                exact it_back hF hk31 (kc31 + 12691) (ks31 + 76340) _ _ _ (bk hc31 (Nat.le_of_ble_eq_true rfl)) (bk hs31 (Nat.le_of_ble_eq_true rfl)) hw hS hq (lv_sub hl [3, 4, 5, 6, 1, 0] rfl)
                              · have hF := it_f h91 hF
                                refine lv_aload_n hx hb dL_law_313 rfl (lv_at hl 3 rfl) ?_
                                refine lv_iconst (v := 0) hx hb dL_law_314 (by decide) ?_
                                obtain ⟨r93, C95, hc94, hF⟩ := b2_t hF
                                refine call_SWE hC (c_L_tryRestore l (gP G H) (H.size - bb G) (hw.lp hn) (Nat.zero_le _) hfl (0 : Int32) _ _ _ hc94) wwL_142 ⟨rfl, rfl, by decide, by decide⟩ hw hn hS hl.1 rfl (rest := []) rfl (Nat.le_of_ble_eq_true rfl) dL_law_315 ⟨(show (kc31 + 12691) + 2 ≤ 676253 from rk2 hc31 hLc31 (Nat.le_of_ble_eq_true rfl)), (show (ks31 + 76340) + 12 ≤ 7072710 from rk2 hs31 hLs31 (Nat.le_of_ble_eq_true rfl))⟩ (fun H locs hw hS hk => ?_)
                                have hq := hq.kp hk
                                refine lv_iload hx hb dL_law_318 (lv_at hl 0 rfl) ?_
                                refine lv_icmp_ne (tgt := 355) hx hb dL_law_320 (by decide) (fun h96 => ?_) (fun h96 => ?_)
                                · have hF := it_f h96 hF
                                  refine lv_iconst (v := 0) hx hb dL_law_355 (by decide) ?_
                                  refine lv_istore_n (lv' := [(3, .int (0 : Int32)), (8, .int r60), (0, .ref b), (1, .ref (bb G + 0)), (2, .ref (bb G + 244)), (4, .int v9), (5, .int v28), (6, .int r38), (7, .int r42)]) hx hb dL_law_356 rfl hl (by decide) rfl (fun ls hl => ?_)
                                  obtain ⟨v97, ev97, hF⟩ := nm_t hF
                                  refine lv_iinc (v := v97) (lv' := [(5, .int v97), (3, .int (0 : Int32)), (8, .int r60), (0, .ref b), (1, .ref (bb G + 0)), (2, .ref (bb G + 244)), (4, .int v9), (6, .int r38), (7, .int r42)]) hx hb dL_law_357 hl (k := 6) rfl (by rw [ev97]; rfl) (by decide) rfl (fun ls hl => ?_)
                                  refine lv_goto (tgt := 140) hx hb dL_law_360 (by decide) ?_
                                  exact it_back hF hk31 (kc31 + 12693) (ks31 + 76352) _ _ _ (bk hc31 (Nat.le_of_ble_eq_true rfl)) (bk hs31 (Nat.le_of_ble_eq_true rfl)) hw hS hq (lv_sub hl [3, 4, 5, 6, 1, 0] rfl)
                                · have hF := it_t h96 hF
                                  refine lv_aload_n hx hb dL_law_323 rfl (lv_at hl 4 rfl) ?_
                                  refine lv_iconst (v := 0) hx hb dL_law_324 (by decide) ?_
                                  obtain ⟨r98, D100, hc99, hF⟩ := b2_t hF
                                  refine call_SWQ hC (c_L_tryRestore l (gQ G H) (H.size - (bb G + 244)) hq.lq (Nat.zero_le _) hfl (0 : Int32) _ _ _ hc99) wwL_142 ⟨rfl, rfl, by decide, by decide⟩ hw hq hS hl.1 rfl (rest := []) rfl (Nat.le_of_ble_eq_true rfl) dL_law_325 ⟨(show (kc31 + 12693) + 2 ≤ 676253 from rk2 hc31 hLc31 (Nat.le_of_ble_eq_true rfl)), (show (ks31 + 76352) + 12 ≤ 7072710 from rk2 hs31 hLs31 (Nat.le_of_ble_eq_true rfl))⟩ (fun H locs hq hS hk => ?_)
                                  have hw := hw.kq hk
                                  refine lv_iload hx hb dL_law_328 (lv_at hl 0 rfl) ?_
                                  refine lv_icmp_ne (tgt := 355) hx hb dL_law_330 (by decide) (fun h101 => ?_) (fun h101 => ?_)
                                  · have hF := it_f h101 hF
                                    refine lv_iconst (v := 0) hx hb dL_law_355 (by decide) ?_
                                    refine lv_istore_n (lv' := [(3, .int (0 : Int32)), (8, .int r60), (0, .ref b), (1, .ref (bb G + 0)), (2, .ref (bb G + 244)), (4, .int v9), (5, .int v28), (6, .int r38), (7, .int r42)]) hx hb dL_law_356 rfl hl (by decide) rfl (fun ls hl => ?_)
                                    obtain ⟨v102, ev102, hF⟩ := nm_t hF
                                    refine lv_iinc (v := v102) (lv' := [(5, .int v102), (3, .int (0 : Int32)), (8, .int r60), (0, .ref b), (1, .ref (bb G + 0)), (2, .ref (bb G + 244)), (4, .int v9), (6, .int r38), (7, .int r42)]) hx hb dL_law_357 hl (k := 6) rfl (by rw [ev102]; rfl) (by decide) rfl (fun ls hl => ?_)
                                    refine lv_goto (tgt := 140) hx hb dL_law_360 (by decide) ?_
                                    exact it_back hF hk31 (kc31 + 12695) (ks31 + 76364) _ _ _ (bk hc31 (Nat.le_of_ble_eq_true rfl)) (bk hs31 (Nat.le_of_ble_eq_true rfl)) hw hS hq (lv_sub hl [3, 4, 5, 6, 1, 0] rfl)
                                  · have hF := it_t h101 hF
                                    refine lv_aload_n hx hb dL_law_333 rfl (lv_at hl 3 rfl) ?_
                                    obtain ⟨r103, C105, hc104, hF⟩ := b2_t hF
                                    refine call_SWE hC (c_L_tryUndo l (gP G H) (H.size - bb G) (hw.lp hn) (Nat.zero_le _) hfl  _ _ _ hc104) wwL_139 ⟨rfl, rfl, by decide, by decide⟩ hw hn hS hl.1 rfl (rest := []) rfl (Nat.le_of_ble_eq_true rfl) dL_law_334 ⟨(show (kc31 + 12695) + 1 ≤ 676253 from rk2 hc31 hLc31 (Nat.le_of_ble_eq_true rfl)), (show (ks31 + 76364) + 6 ≤ 7072710 from rk2 hs31 hLs31 (Nat.le_of_ble_eq_true rfl))⟩ (fun H locs hw hS hk => ?_)
                                    have hq := hq.kp hk
                                    refine lv_sipush (v := -1003) hx hb dL_law_337 (by decide) ?_
                                    refine lv_icmp_ne (tgt := 355) hx hb dL_law_340 (by decide) (fun h106 => ?_) (fun h106 => ?_)
                                    · have hF := it_f h106 hF
                                      refine lv_iconst (v := 0) hx hb dL_law_355 (by decide) ?_
                                      refine lv_istore_n (lv' := [(3, .int (0 : Int32)), (8, .int r60), (0, .ref b), (1, .ref (bb G + 0)), (2, .ref (bb G + 244)), (4, .int v9), (5, .int v28), (6, .int r38), (7, .int r42)]) hx hb dL_law_356 rfl hl (by decide) rfl (fun ls hl => ?_)
                                      obtain ⟨v107, ev107, hF⟩ := nm_t hF
                                      refine lv_iinc (v := v107) (lv' := [(5, .int v107), (3, .int (0 : Int32)), (8, .int r60), (0, .ref b), (1, .ref (bb G + 0)), (2, .ref (bb G + 244)), (4, .int v9), (6, .int r38), (7, .int r42)]) hx hb dL_law_357 hl (k := 6) rfl (by rw [ev107]; rfl) (by decide) rfl (fun ls hl => ?_)
                                      refine lv_goto (tgt := 140) hx hb dL_law_360 (by decide) ?_
                                      exact it_back hF hk31 (kc31 + 12696) (ks31 + 76370) _ _ _ (bk hc31 (Nat.le_of_ble_eq_true rfl)) (bk hs31 (Nat.le_of_ble_eq_true rfl)) hw hS hq (lv_sub hl [3, 4, 5, 6, 1, 0] rfl)
                                    · have hF := it_t h106 hF
                                      refine lv_aload_n hx hb dL_law_343 rfl (lv_at hl 3 rfl) ?_
                                      refine lv_aload_n hx hb dL_law_344 rfl (lv_at hl 4 rfl) ?_
                                      obtain ⟨r108, C110, D111, hc109, hF⟩ := b3_t hF
                                      refine call_S2 hC (c_L_alike l G b L xs hbG hfl  _ _ _ _ _ hc109) wsL_266 ⟨rfl, rfl, by decide, by decide⟩ hX hbG hw hq hS hl.1 rfl (rest := []) rfl (Nat.le_of_ble_eq_true rfl) dL_law_345 ⟨(show (kc31 + 12696) + 393 ≤ 676253 from rk2 hc31 hLc31 (Nat.le_of_ble_eq_true rfl)), (show (ks31 + 76370) + 2358 ≤ 7072710 from rk2 hs31 hLs31 (Nat.le_of_ble_eq_true rfl))⟩ (fun H locs hw hq hS => ?_)
                                      refine lv_if_eq (tgt := 355) hx hb dL_law_348 (by decide) (fun h112 => ?_) (fun h112 => ?_)
                                      · have hF := it_t h112 hF
                                        refine lv_iconst (v := 0) hx hb dL_law_355 (by decide) ?_
                                        refine lv_istore_n (lv' := [(3, .int (0 : Int32)), (8, .int r60), (0, .ref b), (1, .ref (bb G + 0)), (2, .ref (bb G + 244)), (4, .int v9), (5, .int v28), (6, .int r38), (7, .int r42)]) hx hb dL_law_356 rfl hl (by decide) rfl (fun ls hl => ?_)
                                        obtain ⟨v113, ev113, hF⟩ := nm_t hF
                                        refine lv_iinc (v := v113) (lv' := [(5, .int v113), (3, .int (0 : Int32)), (8, .int r60), (0, .ref b), (1, .ref (bb G + 0)), (2, .ref (bb G + 244)), (4, .int v9), (6, .int r38), (7, .int r42)]) hx hb dL_law_357 hl (k := 6) rfl (by rw [ev113]; rfl) (by decide) rfl (fun ls hl => ?_)
                                        refine lv_goto (tgt := 140) hx hb dL_law_360 (by decide) ?_
                                        exact it_back hF hk31 (kc31 + 13089) (ks31 + 78728) _ _ _ (bk hc31 (Nat.le_of_ble_eq_true rfl)) (bk hs31 (Nat.le_of_ble_eq_true rfl)) hw hS hq (lv_sub hl [3, 4, 5, 6, 1, 0] rfl)
                                      · have hF := it_f h112 hF
                                        refine lv_iconst (v := 1) hx hb dL_law_351 (by decide) ?_
                                        refine lv_goto (tgt := 356) hx hb dL_law_352 (by decide) ?_
                                        refine lv_istore_n (lv' := [(3, .int (1 : Int32)), (8, .int r60), (0, .ref b), (1, .ref (bb G + 0)), (2, .ref (bb G + 244)), (4, .int v9), (5, .int v28), (6, .int r38), (7, .int r42)]) hx hb dL_law_356 rfl hl (by decide) rfl (fun ls hl => ?_)
                                        obtain ⟨v114, ev114, hF⟩ := nm_t hF
                                        refine lv_iinc (v := v114) (lv' := [(5, .int v114), (3, .int (1 : Int32)), (8, .int r60), (0, .ref b), (1, .ref (bb G + 0)), (2, .ref (bb G + 244)), (4, .int v9), (6, .int r38), (7, .int r42)]) hx hb dL_law_357 hl (k := 6) rfl (by rw [ev114]; rfl) (by decide) rfl (fun ls hl => ?_)
                                        refine lv_goto (tgt := 140) hx hb dL_law_360 (by decide) ?_
                                        exact it_back hF hk31 (kc31 + 13089) (ks31 + 78728) _ _ _ (bk hc31 (Nat.le_of_ble_eq_true rfl)) (bk hs31 (Nat.le_of_ble_eq_true rfl)) hw hS hq (lv_sub hl [3, 4, 5, 6, 1, 0] rfl)
              refine lv_icmp_ne (tgt := 234) hx hb dL_law_205 (by decide) (fun h52 => ?_) (fun h52 => ?_)
              · have hF := it_f h52 hF
                refine lv_iconst (v := 0) hx hb dL_law_234 (by decide) ?_
                refine W.widen (k := (kc31 + 778)) (n := (ks31 + 4664)) (show (kc31 + 6) ≤ (kc31 + 778) from Nat.add_le_add_left (Nat.le_of_ble_eq_true rfl) _) (show (ks31 + 36) ≤ (ks31 + 4664) from Nat.add_le_add_left (Nat.le_of_ble_eq_true rfl) _) ?_
                exact hJ235 (0 : Int32) C48 D51 _ _ _ hF hw hS hq (lv_sub hl [2, 3, 4, 5, 7, 1, 0] rfl)
              · have hF := it_t h52 hF
                refine lv_aload_n hx hb dL_law_208 rfl (lv_at hl 4 rfl) ?_
                obtain ⟨r115, D117, hc116, hF⟩ := b2_t hF
                refine call_SNQ hC (c_L_refuses l (gQ G H) (H.size - (bb G + 244)) hq.lq (Nat.zero_le _) hfl  _ _ _ hc116) wsL_263 ⟨rfl, rfl, by decide, by decide⟩ hw hq hS hl.1 rfl (rest := []) rfl (Nat.le_of_ble_eq_true rfl) dL_law_209 ⟨(show (kc31 + 6) + 75 ≤ 676253 from rk2 hc31 hLc31 (Nat.le_of_ble_eq_true rfl)), (show (ks31 + 36) + 450 ≤ 7072710 from rk2 hs31 hLs31 (Nat.le_of_ble_eq_true rfl))⟩ (fun H locs hq hS hk => ?_)
                have hw := hw.kq hk
                refine lv_if_eq (tgt := 234) hx hb dL_law_212 (by decide) (fun h118 => ?_) (fun h118 => ?_)
                · have hF := it_t h118 hF
                  refine lv_iconst (v := 0) hx hb dL_law_234 (by decide) ?_
                  refine W.widen (k := (kc31 + 778)) (n := (ks31 + 4664)) (show (kc31 + 81) ≤ (kc31 + 778) from Nat.add_le_add_left (Nat.le_of_ble_eq_true rfl) _) (show (ks31 + 486) ≤ (ks31 + 4664) from Nat.add_le_add_left (Nat.le_of_ble_eq_true rfl) _) ?_
                  exact hJ235 (0 : Int32) C48 D117 _ _ _ hF hw hS hq (lv_sub hl [2, 3, 4, 5, 7, 1, 0] rfl)
                · have hF := it_f h118 hF
                  refine lv_aload_n hx hb dL_law_215 rfl (lv_at hl 3 rfl) ?_
                  refine lv_aload_n hx hb dL_law_216 rfl (lv_at hl 4 rfl) ?_
                  obtain ⟨r119, C121, D122, hc120, hF⟩ := b3_t hF
                  refine call_S2 hC (c_L_alike l G b L xs hbG hfl  _ _ _ _ _ hc120) wsL_266 ⟨rfl, rfl, by decide, by decide⟩ hX hbG hw hq hS hl.1 rfl (rest := []) rfl (Nat.le_of_ble_eq_true rfl) dL_law_217 ⟨(show (kc31 + 81) + 393 ≤ 676253 from rk2 hc31 hLc31 (Nat.le_of_ble_eq_true rfl)), (show (ks31 + 486) + 2358 ≤ 7072710 from rk2 hs31 hLs31 (Nat.le_of_ble_eq_true rfl))⟩ (fun H locs hw hq hS => ?_)
                  refine lv_if_eq (tgt := 234) hx hb dL_law_220 (by decide) (fun h123 => ?_) (fun h123 => ?_)
                  · have hF := it_t h123 hF
                    refine lv_iconst (v := 0) hx hb dL_law_234 (by decide) ?_
                    refine W.widen (k := (kc31 + 778)) (n := (ks31 + 4664)) (show (kc31 + 474) ≤ (kc31 + 778) from Nat.add_le_add_left (Nat.le_of_ble_eq_true rfl) _) (show (ks31 + 2844) ≤ (ks31 + 4664) from Nat.add_le_add_left (Nat.le_of_ble_eq_true rfl) _) ?_
                    exact hJ235 (0 : Int32) C121 D122 _ _ _ hF hw hS hq (lv_sub hl [2, 3, 4, 5, 7, 1, 0] rfl)
                  · have hF := it_f h123 hF
                    refine lv_aload_n hx hb dL_law_223 rfl (lv_at hl 3 rfl) ?_
                    obtain ⟨r124, C126, hc125, hF⟩ := b2_t hF
                    refine call_SNE hC (c_L_sound l (gP G H) (H.size - bb G) (hw.lp hn) (Nat.zero_le _) hfl  _ _ _ hc125) wsL_214 ⟨rfl, rfl, by decide, by decide⟩ hw hn hS hl.1 rfl (rest := []) rfl (Nat.le_of_ble_eq_true rfl) dL_law_224 ⟨(show (kc31 + 474) + 304 ≤ 676253 from rk2 hc31 hLc31 (Nat.le_of_ble_eq_true rfl)), (show (ks31 + 2844) + 1820 ≤ 7072710 from rk2 hs31 hLs31 (Nat.le_of_ble_eq_true rfl))⟩ (fun H locs hw hS hk => ?_)
                    have hq := hq.kp hk
                    refine lv_if_eq (tgt := 234) hx hb dL_law_227 (by decide) (fun h127 => ?_) (fun h127 => ?_)
                    · have hF := it_t h127 hF
                      refine lv_iconst (v := 0) hx hb dL_law_234 (by decide) ?_
                      exact hJ235 (0 : Int32) C126 D122 _ _ _ hF hw hS hq (lv_sub hl [2, 3, 4, 5, 7, 1, 0] rfl)
                    · have hF := it_f h127 hF
                      refine lv_iconst (v := 1) hx hb dL_law_230 (by decide) ?_
                      refine lv_goto (tgt := 235) hx hb dL_law_231 (by decide) ?_
                      exact hJ235 (1 : Int32) C126 D122 _ _ _ hF hw hS hq (lv_sub hl [2, 3, 4, 5, 7, 1, 0] rfl)
        refine lv_if_eq (tgt := 135) hx hb dL_law_106 (by decide) (fun h23 => ?_) (fun h23 => ?_)
        · have hF := it_t h23 hF
          refine lv_iconst (v := 0) hx hb dL_law_135 (by decide) ?_
          refine W.widen (k := (kc12 + 983)) (n := (ks12 + 5894)) (show (kc12 + 211) ≤ (kc12 + 983) from Nat.add_le_add_left (Nat.le_of_ble_eq_true rfl) _) (show (ks12 + 1266) ≤ (ks12 + 5894) from Nat.add_le_add_left (Nat.le_of_ble_eq_true rfl) _) ?_
          exact hJ136 (0 : Int32) C21 D22 _ _ _ hF hw hS hq (lv_sub hl [0, 1, 2, 4] rfl)
        · have hF := it_f h23 hF
          refine lv_aload_n hx hb dL_law_109 rfl (lv_at hl 2 rfl) ?_
          obtain ⟨r129, D131, hc130, hF⟩ := b2_t hF
          refine call_SNQ hC (c_L_refuses l (gQ G H) (H.size - (bb G + 244)) hq.lq (Nat.zero_le _) hfl  _ _ _ hc130) wsL_263 ⟨rfl, rfl, by decide, by decide⟩ hw hq hS hl.1 rfl (rest := []) rfl (Nat.le_of_ble_eq_true rfl) dL_law_110 ⟨(show (kc12 + 211) + 75 ≤ 676253 from rk2 hc12 hLc12 (Nat.le_of_ble_eq_true rfl)), (show (ks12 + 1266) + 450 ≤ 7072710 from rk2 hs12 hLs12 (Nat.le_of_ble_eq_true rfl))⟩ (fun H locs hq hS hk => ?_)
          have hw := hw.kq hk
          refine lv_if_eq (tgt := 135) hx hb dL_law_113 (by decide) (fun h132 => ?_) (fun h132 => ?_)
          · have hF := it_t h132 hF
            refine lv_iconst (v := 0) hx hb dL_law_135 (by decide) ?_
            refine W.widen (k := (kc12 + 983)) (n := (ks12 + 5894)) (show (kc12 + 286) ≤ (kc12 + 983) from Nat.add_le_add_left (Nat.le_of_ble_eq_true rfl) _) (show (ks12 + 1716) ≤ (ks12 + 5894) from Nat.add_le_add_left (Nat.le_of_ble_eq_true rfl) _) ?_
            exact hJ136 (0 : Int32) C21 D131 _ _ _ hF hw hS hq (lv_sub hl [0, 1, 2, 4] rfl)
          · have hF := it_f h132 hF
            refine lv_aload_n hx hb dL_law_116 rfl (lv_at hl 1 rfl) ?_
            refine lv_aload_n hx hb dL_law_117 rfl (lv_at hl 2 rfl) ?_
            obtain ⟨r133, C135, D136, hc134, hF⟩ := b3_t hF
            refine call_S2 hC (c_L_alike l G b L xs hbG hfl  _ _ _ _ _ hc134) wsL_266 ⟨rfl, rfl, by decide, by decide⟩ hX hbG hw hq hS hl.1 rfl (rest := []) rfl (Nat.le_of_ble_eq_true rfl) dL_law_118 ⟨(show (kc12 + 286) + 393 ≤ 676253 from rk2 hc12 hLc12 (Nat.le_of_ble_eq_true rfl)), (show (ks12 + 1716) + 2358 ≤ 7072710 from rk2 hs12 hLs12 (Nat.le_of_ble_eq_true rfl))⟩ (fun H locs hw hq hS => ?_)
            refine lv_if_eq (tgt := 135) hx hb dL_law_121 (by decide) (fun h137 => ?_) (fun h137 => ?_)
            · have hF := it_t h137 hF
              refine lv_iconst (v := 0) hx hb dL_law_135 (by decide) ?_
              refine W.widen (k := (kc12 + 983)) (n := (ks12 + 5894)) (show (kc12 + 679) ≤ (kc12 + 983) from Nat.add_le_add_left (Nat.le_of_ble_eq_true rfl) _) (show (ks12 + 4074) ≤ (ks12 + 5894) from Nat.add_le_add_left (Nat.le_of_ble_eq_true rfl) _) ?_
              exact hJ136 (0 : Int32) C135 D136 _ _ _ hF hw hS hq (lv_sub hl [0, 1, 2, 4] rfl)
            · have hF := it_f h137 hF
              refine lv_aload_n hx hb dL_law_124 rfl (lv_at hl 1 rfl) ?_
              obtain ⟨r138, C140, hc139, hF⟩ := b2_t hF
              refine call_SNE hC (c_L_sound l (gP G H) (H.size - bb G) (hw.lp hn) (Nat.zero_le _) hfl  _ _ _ hc139) wsL_214 ⟨rfl, rfl, by decide, by decide⟩ hw hn hS hl.1 rfl (rest := []) rfl (Nat.le_of_ble_eq_true rfl) dL_law_125 ⟨(show (kc12 + 679) + 304 ≤ 676253 from rk2 hc12 hLc12 (Nat.le_of_ble_eq_true rfl)), (show (ks12 + 4074) + 1820 ≤ 7072710 from rk2 hs12 hLs12 (Nat.le_of_ble_eq_true rfl))⟩ (fun H locs hw hS hk => ?_)
              have hq := hq.kp hk
              refine lv_if_eq (tgt := 135) hx hb dL_law_128 (by decide) (fun h141 => ?_) (fun h141 => ?_)
              · have hF := it_t h141 hF
                refine lv_iconst (v := 0) hx hb dL_law_135 (by decide) ?_
                exact hJ136 (0 : Int32) C140 D136 _ _ _ hF hw hS hq (lv_sub hl [0, 1, 2, 4] rfl)
              · have hF := it_f h141 hF
                refine lv_iconst (v := 1) hx hb dL_law_131 (by decide) ?_
                refine lv_goto (tgt := 136) hx hb dL_law_132 (by decide) ?_
                exact hJ136 (1 : Int32) C140 D136 _ _ _ hF hw hS hq (lv_sub hl [0, 1, 2, 4] rfl)
  refine lv_if_ne (tgt := 80) hx hb dL_law_20 (by decide) (fun h4 => ?_) (fun h4 => ?_)
  · have hF := it_f h4 hF
    refine lv_iconst (v := 0) hx hb dL_law_80 (by decide) ?_
    refine W.widen (k := 1775) (n := 14646) (Nat.le_of_ble_eq_true rfl) (Nat.le_of_ble_eq_true rfl) ?_
    exact hJ81 (0 : Int32) C3 D _ _ _ hF hw hS hq (lv_sub hl [0, 1, 2] rfl)
  · have hF := it_t h4 hF
    refine lv_aload_n hx hb dL_law_23 rfl (lv_at hl 1 rfl) ?_
    refine lv_bipush (v := 6) hx hb dL_law_24 (by decide) ?_
    obtain ⟨r143, C145, hc144, hF⟩ := b2_t hF
    refine call_SWE hC (c_L_tryAbout l (gP G H) (H.size - bb G) (hw.lp hn) (Nat.zero_le _) hfl (6 : Int32) _ _ _ hc144) wwL_129 ⟨rfl, rfl, by decide, by decide⟩ hw hn hS hl.1 rfl (rest := []) rfl (Nat.le_of_ble_eq_true rfl) dL_law_26 ⟨(show 1000 + 1 ≤ 676253 from (Nat.le_of_ble_eq_true rfl)), (show 10000 + 6 ≤ 7072710 from (Nat.le_of_ble_eq_true rfl))⟩ (fun H locs hw hS hk => ?_)
    have hq := hq.kp hk
    refine lv_iconst (v := 1) hx hb dL_law_29 (by decide) ?_
    refine lv_icmp_ne (tgt := 80) hx hb dL_law_30 (by decide) (fun h146 => ?_) (fun h146 => ?_)
    · have hF := it_f h146 hF
      refine lv_iconst (v := 0) hx hb dL_law_80 (by decide) ?_
      refine W.widen (k := 1775) (n := 14646) (Nat.le_of_ble_eq_true rfl) (Nat.le_of_ble_eq_true rfl) ?_
      exact hJ81 (0 : Int32) C145 D _ _ _ hF hw hS hq (lv_sub hl [0, 1, 2] rfl)
    · have hF := it_t h146 hF
      refine lv_aload_n hx hb dL_law_33 rfl (lv_at hl 1 rfl) ?_
      refine lv_bipush (v := 9) hx hb dL_law_34 (by decide) ?_
      obtain ⟨r147, C149, hc148, hF⟩ := b2_t hF
      refine call_SWE hC (c_L_tryAbout l (gP G H) (H.size - bb G) (hw.lp hn) (Nat.zero_le _) hfl (9 : Int32) _ _ _ hc148) wwL_129 ⟨rfl, rfl, by decide, by decide⟩ hw hn hS hl.1 rfl (rest := []) rfl (Nat.le_of_ble_eq_true rfl) dL_law_36 ⟨(show 1001 + 1 ≤ 676253 from (Nat.le_of_ble_eq_true rfl)), (show 10006 + 6 ≤ 7072710 from (Nat.le_of_ble_eq_true rfl))⟩ (fun H locs hw hS hk => ?_)
      have hq := hq.kp hk
      refine lv_bipush (v := 40) hx hb dL_law_39 (by decide) ?_
      refine lv_icmp_ne (tgt := 80) hx hb dL_law_41 (by decide) (fun h150 => ?_) (fun h150 => ?_)
      · have hF := it_f h150 hF
        refine lv_iconst (v := 0) hx hb dL_law_80 (by decide) ?_
        refine W.widen (k := 1775) (n := 14646) (Nat.le_of_ble_eq_true rfl) (Nat.le_of_ble_eq_true rfl) ?_
        exact hJ81 (0 : Int32) C149 D _ _ _ hF hw hS hq (lv_sub hl [0, 1, 2] rfl)
      · have hF := it_t h150 hF
        refine lv_aload_n hx hb dL_law_44 rfl (lv_at hl 1 rfl) ?_
        obtain ⟨r151, C153, hc152, hF⟩ := b2_t hF
        refine call_SWE hC (c_L_tryUndo l (gP G H) (H.size - bb G) (hw.lp hn) (Nat.zero_le _) hfl  _ _ _ hc152) wwL_139 ⟨rfl, rfl, by decide, by decide⟩ hw hn hS hl.1 rfl (rest := []) rfl (Nat.le_of_ble_eq_true rfl) dL_law_45 ⟨(show 1002 + 1 ≤ 676253 from (Nat.le_of_ble_eq_true rfl)), (show 10012 + 6 ≤ 7072710 from (Nat.le_of_ble_eq_true rfl))⟩ (fun H locs hw hS hk => ?_)
        have hq := hq.kp hk
        refine lv_sipush (v := -1003) hx hb dL_law_48 (by decide) ?_
        refine lv_icmp_ne (tgt := 80) hx hb dL_law_51 (by decide) (fun h154 => ?_) (fun h154 => ?_)
        · have hF := it_f h154 hF
          refine lv_iconst (v := 0) hx hb dL_law_80 (by decide) ?_
          refine W.widen (k := 1775) (n := 14646) (Nat.le_of_ble_eq_true rfl) (Nat.le_of_ble_eq_true rfl) ?_
          exact hJ81 (0 : Int32) C153 D _ _ _ hF hw hS hq (lv_sub hl [0, 1, 2] rfl)
        · have hF := it_t h154 hF
          refine lv_aload_n hx hb dL_law_54 rfl (lv_at hl 2 rfl) ?_
          obtain ⟨r155, D157, hc156, hF⟩ := b2_t hF
          refine call_SNQ hC (c_L_refuses l (gQ G H) (H.size - (bb G + 244)) hq.lq (Nat.zero_le _) hfl  _ _ _ hc156) wsL_263 ⟨rfl, rfl, by decide, by decide⟩ hw hq hS hl.1 rfl (rest := []) rfl (Nat.le_of_ble_eq_true rfl) dL_law_55 ⟨(show 1003 + 75 ≤ 676253 from (Nat.le_of_ble_eq_true rfl)), (show 10018 + 450 ≤ 7072710 from (Nat.le_of_ble_eq_true rfl))⟩ (fun H locs hq hS hk => ?_)
          have hw := hw.kq hk
          refine lv_if_eq (tgt := 80) hx hb dL_law_58 (by decide) (fun h158 => ?_) (fun h158 => ?_)
          · have hF := it_t h158 hF
            refine lv_iconst (v := 0) hx hb dL_law_80 (by decide) ?_
            refine W.widen (k := 1775) (n := 14646) (Nat.le_of_ble_eq_true rfl) (Nat.le_of_ble_eq_true rfl) ?_
            exact hJ81 (0 : Int32) C153 D157 _ _ _ hF hw hS hq (lv_sub hl [0, 1, 2] rfl)
          · have hF := it_f h158 hF
            refine lv_aload_n hx hb dL_law_61 rfl (lv_at hl 1 rfl) ?_
            refine lv_aload_n hx hb dL_law_62 rfl (lv_at hl 2 rfl) ?_
            obtain ⟨r159, C161, D162, hc160, hF⟩ := b3_t hF
            refine call_S2 hC (c_L_alike l G b L xs hbG hfl  _ _ _ _ _ hc160) wsL_266 ⟨rfl, rfl, by decide, by decide⟩ hX hbG hw hq hS hl.1 rfl (rest := []) rfl (Nat.le_of_ble_eq_true rfl) dL_law_63 ⟨(show 1078 + 393 ≤ 676253 from (Nat.le_of_ble_eq_true rfl)), (show 10468 + 2358 ≤ 7072710 from (Nat.le_of_ble_eq_true rfl))⟩ (fun H locs hw hq hS => ?_)
            refine lv_if_eq (tgt := 80) hx hb dL_law_66 (by decide) (fun h163 => ?_) (fun h163 => ?_)
            · have hF := it_t h163 hF
              refine lv_iconst (v := 0) hx hb dL_law_80 (by decide) ?_
              refine W.widen (k := 1775) (n := 14646) (Nat.le_of_ble_eq_true rfl) (Nat.le_of_ble_eq_true rfl) ?_
              exact hJ81 (0 : Int32) C161 D162 _ _ _ hF hw hS hq (lv_sub hl [0, 1, 2] rfl)
            · have hF := it_f h163 hF
              refine lv_aload_n hx hb dL_law_69 rfl (lv_at hl 1 rfl) ?_
              obtain ⟨r164, C166, hc165, hF⟩ := b2_t hF
              refine call_SNE hC (c_L_sound l (gP G H) (H.size - bb G) (hw.lp hn) (Nat.zero_le _) hfl  _ _ _ hc165) wsL_214 ⟨rfl, rfl, by decide, by decide⟩ hw hn hS hl.1 rfl (rest := []) rfl (Nat.le_of_ble_eq_true rfl) dL_law_70 ⟨(show 1471 + 304 ≤ 676253 from (Nat.le_of_ble_eq_true rfl)), (show 12826 + 1820 ≤ 7072710 from (Nat.le_of_ble_eq_true rfl))⟩ (fun H locs hw hS hk => ?_)
              have hq := hq.kp hk
              refine lv_if_eq (tgt := 80) hx hb dL_law_73 (by decide) (fun h167 => ?_) (fun h167 => ?_)
              · have hF := it_t h167 hF
                refine lv_iconst (v := 0) hx hb dL_law_80 (by decide) ?_
                exact hJ81 (0 : Int32) C166 D162 _ _ _ hF hw hS hq (lv_sub hl [0, 1, 2] rfl)
              · have hF := it_f h167 hF
                refine lv_iconst (v := 1) hx hb dL_law_76 (by decide) ?_
                refine lv_goto (tgt := 81) hx hb dL_law_77 (by decide) ?_
                exact hJ81 (1 : Int32) C166 D162 _ _ _ hF hw hS hq (lv_sub hl [0, 1, 2] rfl)
