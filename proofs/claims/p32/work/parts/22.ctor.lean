/-! the constructors, by program out of the bytecode -/
def sE (G : GG) (E : Nat → va_E) (o : Nat) : Nat → va_E := fun a => if a < o then E a else if a = o then .inr (6, [.ref (bb G + (o + 1)), .int 0]) else plantC G (o + 1) z0 (a - (o + 1))
theorem sE_lt (G : GG) (E : Nat → va_E) {o a : Nat} (h : a < o) : sE G E o a = E a := if_pos h
theorem sE_0 (G : GG) (E : Nat → va_E) (o : Nat) : sE G E o o = .inr (6, [.ref (bb G + (o + 1)), .int 0]) := by unfold sE; rw [if_neg (by omega), if_pos rfl]
theorem sE_at (G : GG) (E : Nat → va_E) (o j : Nat) : sE G E o (o + 1 + j) = plantC G (o + 1) z0 j := by
  unfold sE
  rw [if_neg (by omega), if_neg (by omega), show o + 1 + j - (o + 1) = j by omega]
def hE (G : GG) (E : Nat → va_E) (o : Nat) : Nat → va_E := fun a => if a < o then E a else if a = o then .inr (2, [.ref (bb G + (o + 1)), .int 0, .int 0]) else if a = o + 1 then .inl (G.2.1 3, 14, .inr (.inr (.inr (.inr (fun j => some (bb G + (o + 2 + 13 * j))))))) else plantC G (o + 2 + 13 * ((a - (o + 2)) / 13)) z0 ((a - (o + 2)) % 13)
theorem hE_lt (G : GG) (E : Nat → va_E) {o a : Nat} (h : a < o) : hE G E o a = E a := if_pos h
theorem hE_0 (G : GG) (E : Nat → va_E) (o : Nat) : hE G E o o = .inr (2, [.ref (bb G + (o + 1)), .int 0, .int 0]) := by unfold hE; rw [if_neg (by omega), if_pos rfl]
theorem hE_1 (G : GG) (E : Nat → va_E) (o : Nat) : hE G E o (o + 1) = .inl (G.2.1 3, 14, .inr (.inr (.inr (.inr (fun j => some (bb G + (o + 2 + 13 * j))))))) := by unfold hE; rw [if_neg (by omega), if_neg (by omega), if_pos rfl]
theorem hE_at (G : GG) (E : Nat → va_E) (o j i : Nat) (hi : i < 13) : hE G E o (o + 2 + 13 * j + i) = plantC G (o + 2 + 13 * j) z0 i := by
  unfold hE
  rw [if_neg (by omega), if_neg (by omega), if_neg (by omega), show (o + 2 + 13 * j + i - (o + 2)) / 13 = j by omega, show (o + 2 + 13 * j + i - (o + 2)) % 13 = i by omega]
def lE (G : GG) (E : Nat → va_E) (o : Nat) : Nat → va_E := fun a => if a < o then E a else if a = o then .inr (4, [.ref (bb G + (o + 1)), .int 0, .int 4, .int 50, .int 50, .int 1, .ref (bb G + (o + 2)), .ref (bb G + (o + 3)), .ref (bb G + (o + 4)), .int 0, .int 0]) else if a = o + 1 then .inl (G.2.1 0, 60, .inl z0) else if a = o + 2 then .inl (G.2.1 0, 5, .inl (fun j => if j = 0 then 10 else 0)) else if a = o + 3 then .inl (G.2.1 0, 5, .inl z0) else .inl (G.2.1 0, 8, .inl (fun j => if j < 8 then 40 else 0))
theorem lE_lt (G : GG) (E : Nat → va_E) {o a : Nat} (h : a < o) : lE G E o a = E a := if_pos h
theorem lE_0 (G : GG) (E : Nat → va_E) (o : Nat) : lE G E o o = .inr (4, [.ref (bb G + (o + 1)), .int 0, .int 4, .int 50, .int 50, .int 1, .ref (bb G + (o + 2)), .ref (bb G + (o + 3)), .ref (bb G + (o + 4)), .int 0, .int 0]) := by unfold lE; rw [if_neg (by omega), if_pos rfl]
theorem lE_1 (G : GG) (E : Nat → va_E) (o : Nat) : lE G E o (o + 1) = .inl (G.2.1 0, 60, .inl z0) := by unfold lE; rw [if_neg (by omega), if_neg (by omega), if_pos rfl]
theorem lE_2 (G : GG) (E : Nat → va_E) (o : Nat) : lE G E o (o + 2) = .inl (G.2.1 0, 5, .inl (fun j => if j = 0 then 10 else 0)) := by unfold lE; rw [if_neg (by omega), if_neg (by omega), if_neg (by omega), if_pos rfl]
theorem lE_3 (G : GG) (E : Nat → va_E) (o : Nat) : lE G E o (o + 3) = .inl (G.2.1 0, 5, .inl z0) := by unfold lE; rw [if_neg (by omega), if_neg (by omega), if_neg (by omega), if_neg (by omega), if_pos rfl]
theorem lE_4 (G : GG) (E : Nat → va_E) (o : Nat) : lE G E o (o + 4) = .inl (G.2.1 0, 8, .inl (fun j => if j < 8 then 40 else 0)) := by unfold lE; rw [if_neg (by omega), if_neg (by omega), if_neg (by omega), if_neg (by omega), if_neg (by omega)]
theorem oiX0 : OI RX0 3 := ⟨(lg 187 (by decide +kernel) rfl), (lg 40 (by decide +kernel) rfl), (lg 41 (by decide +kernel) rfl)⟩
theorem oiX1 : OI RX1 1 := ⟨(lg 108 (by decide +kernel) rfl), (lg 40 (by decide +kernel) rfl), (lg 41 (by decide +kernel) rfl)⟩
theorem oiX3 : OI RX3 3 := ⟨(lg 160 (by decide +kernel) rfl), (lg 40 (by decide +kernel) rfl), (lg 41 (by decide +kernel) rfl)⟩
theorem oiX7 : OI RX7 3 := ⟨(lg 125 (by decide +kernel) rfl), (lg 40 (by decide +kernel) rfl), (lg 41 (by decide +kernel) rfl)⟩
theorem oiX5 : OI RX5 3 := ⟨(lg 100 (by decide +kernel) rfl), (lg 40 (by decide +kernel) rfl), (lg 41 (by decide +kernel) rfl)⟩
theorem nwX5_17 : Cond.classLink RX5 17 RX1 ∈ lw_g ∧ Cond.instantiable RX1 2 ∈ lw_g ∧ Cond.initialized RX1 ∈ lw_g := ⟨(lg 103 (by decide +kernel) rfl), (lg 104 (by decide +kernel) rfl), (lg 20 (by decide +kernel) rfl)⟩
theorem wnX5_19 : WN RX5 19 yX1_init cX1_init 1 := ⟨List.mem_of_getElem? (i := 0) rfl, (lg 106 (by decide +kernel) rfl), (lg 20 (by decide +kernel) rfl), (lg 107 (by decide +kernel) rfl), ⟨by decide +kernel, by decide +kernel⟩, by decide +kernel, rfl⟩
theorem nwX5_31 : Cond.classLink RX5 31 RX7 ∈ lw_g ∧ Cond.instantiable RX7 7 ∈ lw_g ∧ Cond.initialized RX7 ∈ lw_g := ⟨(lg 120 (by decide +kernel) rfl), (lg 121 (by decide +kernel) rfl), (lg 21 (by decide +kernel) rfl)⟩
theorem wnX5_33 : WN RX5 33 yX7_init cX7_init 1 := ⟨List.mem_of_getElem? (i := 1) rfl, (lg 123 (by decide +kernel) rfl), (lg 21 (by decide +kernel) rfl), (lg 124 (by decide +kernel) rfl), ⟨by decide +kernel, by decide +kernel⟩, by decide +kernel, rfl⟩
theorem nwX5_38 : Cond.classLink RX5 38 RX3 ∈ lw_g ∧ Cond.instantiable RX3 5 ∈ lw_g ∧ Cond.initialized RX3 ∈ lw_g := ⟨(lg 155 (by decide +kernel) rfl), (lg 156 (by decide +kernel) rfl), (lg 22 (by decide +kernel) rfl)⟩
theorem wnX5_40 : WN RX5 40 yX3_init cX3_init 1 := ⟨List.mem_of_getElem? (i := 2) rfl, (lg 158 (by decide +kernel) rfl), (lg 22 (by decide +kernel) rfl), (lg 159 (by decide +kernel) rfl), ⟨by decide +kernel, by decide +kernel⟩, by decide +kernel, rfl⟩
theorem nwX5_9 : Cond.classLink RX5 9 RX0 ∈ lw_g ∧ Cond.instantiable RX0 7 ∈ lw_g ∧ Cond.initialized RX0 ∈ lw_g := ⟨(lg 101 (by decide +kernel) rfl), (lg 183 (by decide +kernel) rfl), (lg 23 (by decide +kernel) rfl)⟩
theorem wnX5_45 : WN RX5 45 yX0_init cX0_init 1 := ⟨List.mem_of_getElem? (i := 3) rfl, (lg 185 (by decide +kernel) rfl), (lg 23 (by decide +kernel) rfl), (lg 186 (by decide +kernel) rfl), ⟨by decide +kernel, by decide +kernel⟩, by decide +kernel, rfl⟩
theorem oiX6 : OI RX6 1 := ⟨(lg 283 (by decide +kernel) rfl), (lg 40 (by decide +kernel) rfl), (lg 41 (by decide +kernel) rfl)⟩
theorem nwX6_7 : Cond.classLink RX6 7 RX5 ∈ lw_g ∧ Cond.instantiable RX5 9 ∈ lw_g ∧ Cond.initialized RX5 ∈ lw_g := ⟨(lg 284 (by decide +kernel) rfl), (lg 96 (by decide +kernel) rfl), (lg 19 (by decide +kernel) rfl)⟩
theorem wiX6_9 : WI RX6 9 yX5_init cX5_init 2 := ⟨(lg 285 (by decide +kernel) rfl), (lg 98 (by decide +kernel) rfl), (lg 19 (by decide +kernel) rfl), (lg 99 (by decide +kernel) rfl), ⟨by decide +kernel, by decide +kernel⟩, by decide +kernel, rfl⟩
theorem oiX4 : OI RX4 3 := ⟨(lg 47 (by decide +kernel) rfl), (lg 40 (by decide +kernel) rfl), (lg 41 (by decide +kernel) rfl)⟩
theorem oiX2 : OI RX2 3 := ⟨(lg 263 (by decide +kernel) rfl), (lg 40 (by decide +kernel) rfl), (lg 41 (by decide +kernel) rfl)⟩
theorem nwX2_9 : Cond.classLink RX2 9 RX5 ∈ lw_g ∧ Cond.instantiable RX5 9 ∈ lw_g ∧ Cond.initialized RX5 ∈ lw_g := ⟨(lg 264 (by decide +kernel) rfl), (lg 96 (by decide +kernel) rfl), (lg 19 (by decide +kernel) rfl)⟩
theorem wiX2_17 : WI RX2 17 yX5_init cX5_init 2 := ⟨(lg 266 (by decide +kernel) rfl), (lg 98 (by decide +kernel) rfl), (lg 19 (by decide +kernel) rfl), (lg 99 (by decide +kernel) rfl), ⟨by decide +kernel, by decide +kernel⟩, by decide +kernel, rfl⟩
set_option maxHeartbeats 4000000 in
set_option maxRecDepth 100000 in
theorem c_X0_init (l : Launch) (G : GG) (k : Nat) (E : Nat → va_E) (o : Nat) : CtI l yX0_init cX0_init 1 (rmX 1 16 0 0) 0 0 G k E o k E := by
  refine CtI.of (by decide) (Nat.le_of_ble_eq_true rfl) ?_
  intro p e s m below meth c ls hC hI hnm hr hlk hw hl
  have hx := hC.1
  have hb := hC.2.1
  have hS : LW G s s.heap [] := va_S.rf
  refine lv_aload_n hx hb dX0_init_0 rfl (lv_at hl 0 rfl) ?_
  refine rc_obj hC oiX0 hl.1 dX0_init_1 (by decide) (by decide) ?_
  exact m_vretI hC hr hlk hw hS (fun a _ H h => h) dX0_init_4
set_option maxHeartbeats 4000000 in
set_option maxRecDepth 100000 in
theorem c_X1_init (l : Launch) (G : GG) (k : Nat) (E : Nat → va_E) (o : Nat) : CtI l yX1_init cX1_init 1 (rmX 1 16 0 0) 0 0 G k E o k E := by
  refine CtI.of (by decide) (Nat.le_of_ble_eq_true rfl) ?_
  intro p e s m below meth c ls hC hI hnm hr hlk hw hl
  have hx := hC.1
  have hb := hC.2.1
  have hS : LW G s s.heap [] := va_S.rf
  refine lv_aload_n hx hb dX1_init_0 rfl (lv_at hl 0 rfl) ?_
  refine rc_obj hC oiX1 hl.1 dX1_init_1 (by decide) (by decide) ?_
  exact m_vretI hC hr hlk hw hS (fun a _ H h => h) dX1_init_4
set_option maxHeartbeats 4000000 in
set_option maxRecDepth 100000 in
theorem c_X3_init (l : Launch) (G : GG) (k : Nat) (E : Nat → va_E) (o : Nat) : CtI l yX3_init cX3_init 1 (rmX 1 16 0 0) 0 0 G k E o k E := by
  refine CtI.of (by decide) (Nat.le_of_ble_eq_true rfl) ?_
  intro p e s m below meth c ls hC hI hnm hr hlk hw hl
  have hx := hC.1
  have hb := hC.2.1
  have hS : LW G s s.heap [] := va_S.rf
  refine lv_aload_n hx hb dX3_init_0 rfl (lv_at hl 0 rfl) ?_
  refine rc_obj hC oiX3 hl.1 dX3_init_1 (by decide) (by decide) ?_
  exact m_vretI hC hr hlk hw hS (fun a _ H h => h) dX3_init_4
set_option maxHeartbeats 4000000 in
set_option maxRecDepth 100000 in
theorem c_X7_init (l : Launch) (G : GG) (o : Nat) (E : Nat → va_E) (he : E o = .inr (7, [.null, .int 0, .int 0, .int 0, .int 0, .int 0, .int 0])) : CtI l yX7_init cX7_init 1 (rmX 1 16 1 8) 1 8 G (o + 1) E o (o + 2) (ue (ue E (o + 1) (.inl (G.2.1 0, 8, .inl (fun _ => 0)))) o (.inr (7, [.ref (bb G + (o + 1)), .int 0, .int 0, .int 0, .int 0, .int 0, .int 0]))) := by
  refine CtI.of (by decide) (Nat.le_of_ble_eq_true rfl) ?_
  intro p e s m below meth c ls hC hI hnm hr hlk hw hl
  have hx := hC.1
  have hb := hC.2.1
  have hS : LW G s s.heap [] := va_S.rf
  have q0 := he
  have hlow : ∀ (a : Nat) (ha : a < o), E a = E a := fun a _ => rfl
  refine lv_aload_n hx hb dX7_init_0 rfl (lv_at hl 0 rfl) ?_
  refine rc_obj hC oiX7 hl.1 dX7_init_1 (by decide) (by decide) ?_
  refine lv_aload_n hx hb dX7_init_4 rfl (lv_at hl 0 rfl) ?_
  refine lv_bipush (v := 8) hx hb dX7_init_5 (by decide) ?_
  refine rc_newi (N := 8) hC hw hS aw_int (by decide) (by decide) (Nat.le_of_ble_eq_true rfl) (by decide) (by decide) dX7_init_7 (fun H hw hS => ?_)
  obtain ⟨E1, hE1⟩ : ∃ F : Nat → va_E, F = ue E (o + 1) (.inl (G.2.1 0, 8, .inl (fun _ => 0))) := ⟨_, rfl⟩
  have hw : Rw G (o + 2) E1 H := by rw [hE1]; exact hw
  have q0 : E1 o = .inr (7, [.null, .int 0, .int 0, .int 0, .int 0, .int 0, .int 0]) := by rw [hE1]; exact ((ue_ne _ _ (show o ≠ (o + 1) by omega)).trans q0)
  have q1 : E1 (o + 1) = .inl (G.2.1 0, 8, .inl (fun _ => 0)) := by rw [hE1]; exact ue_same _ _ _
  have hlow : ∀ (a : Nat) (ha : a < o), E1 (a) = E a := fun a ha => by rw [hE1]; exact ((ue_ne _ _ (show a ≠ (o + 1) by omega)).trans (hlow a ha))
  refine rc_putF (v := .ref (bb G + (o + 1))) hC hw hS inX7g tyX7_ok nmX7 rfl (by omega) q0 0 (by decide) (lg 126 (by decide +kernel) rfl) rfl hnm rfl rfl rfl (Nat.le_of_ble_eq_true rfl) dX7_init_9 (fun H locs hw hS => ?_)
  obtain ⟨E2, hE2⟩ : ∃ F : Nat → va_E, F = ue E1 o (.inr (7, [.ref (bb G + (o + 1)), .int 0, .int 0, .int 0, .int 0, .int 0, .int 0])) := ⟨_, rfl⟩
  have hw : Rw G (o + 2) E2 H := by rw [hE2]; exact hw
  have q1 : E2 (o + 1) = .inl (G.2.1 0, 8, .inl (fun _ => 0)) := by rw [hE2]; exact ((ue_ne _ _ (show (o + 1) ≠ o by omega)).trans q1)
  have q0 : E2 o = .inr (7, [.ref (bb G + (o + 1)), .int 0, .int 0, .int 0, .int 0, .int 0, .int 0]) := by rw [hE2]; exact ue_same _ _ _
  have hlow : ∀ (a : Nat) (ha : a < o), E2 (a) = E a := fun a ha => by rw [hE2]; exact ((ue_ne _ _ (show a ≠ o by omega)).trans (hlow a ha))
  refine m_vretI hC hr hlk hw hS (fun a ha H h => ?_) dX7_init_12
  rcases (show a < o ∨ a = o ∨ a = o + 1 by omega) with h1 | rfl | rfl
  · rw [ue_ne _ _ (by omega), ue_ne _ _ (by omega), ← hlow a h1]; exact h
  · rw [ue_same]; rw [q0] at h; exact h
  · rw [ue_ne _ _ (by omega), ue_same]; rw [q1] at h; exact h
set_option maxHeartbeats 4000000 in
set_option maxRecDepth 100000 in
theorem c_X5_init (l : Launch) (G : GG) (o : Nat) (E : Nat → va_E) (he : E o = .inr (5, [.null, .int 0, .null, .null, .null, .null, .null, .int 0, .int 0])) : CtI l yX5_init cX5_init 2 (rmX 2 36 12 70) 12 70 G (o + 1) E o (o + 13) (pE G E o) := by
  refine CtI.of (by decide) (Nat.le_of_ble_eq_true rfl) ?_
  intro p e s m below meth c ls hC hI hnm hr hlk hw hl
  have hx := hC.1
  have hb := hC.2.1
  have hS : LW G s s.heap [] := va_S.rf
  have q0 := he
  have hlow : ∀ (a : Nat) (ha : a < o), E a = E a := fun a _ => rfl
  refine lv_aload_n hx hb dX5_init_0 rfl (lv_at hl 0 rfl) ?_
  refine rc_obj hC oiX5 hl.1 dX5_init_1 (by decide) (by decide) ?_
  refine lv_aload_n hx hb dX5_init_4 rfl (lv_at hl 0 rfl) ?_
  refine lv_iconst (v := 5) hx hb dX5_init_5 (by decide) ?_
  refine rc_anew (t0 := 2) (N := 5) hC hw hS rfl hI.2.1 (lg 101 (by decide +kernel) rfl) (by decide) (by decide) (Nat.le_of_ble_eq_true rfl) (by decide) (by decide) dX5_init_6 (fun H hw hS => ?_)
  obtain ⟨E1, hE1⟩ : ∃ F : Nat → va_E, F = ue E (o + 1) (.inl (G.2.1 2, 5, .inr (.inr (.inr (.inr (fun _ => none)))))) := ⟨_, rfl⟩
  have hw : Rw G (o + 2) E1 H := by rw [hE1]; exact hw
  have q0 : E1 o = .inr (5, [.null, .int 0, .null, .null, .null, .null, .null, .int 0, .int 0]) := by rw [hE1]; exact ((ue_ne _ _ (show o ≠ (o + 1) by omega)).trans q0)
  have q1 : E1 (o + 1) = .inl (G.2.1 2, 5, .inr (.inr (.inr (.inr (fun _ => none))))) := by rw [hE1]; exact ue_same _ _ _
  have hlow : ∀ (a : Nat) (ha : a < o), E1 (a) = E a := fun a ha => by rw [hE1]; exact ((ue_ne _ _ (show a ≠ (o + 1) by omega)).trans (hlow a ha))
  refine rc_putF (v := .ref (bb G + (o + 1))) hC hw hS inX5g tyX5_ok nmX5 rfl (by omega) q0 0 (by decide) (lg 223 (by decide +kernel) rfl) rfl hnm rfl rfl rfl (Nat.le_of_ble_eq_true rfl) dX5_init_9 (fun H locs hw hS => ?_)
  obtain ⟨E2, hE2⟩ : ∃ F : Nat → va_E, F = ue E1 o (.inr (5, [.ref (bb G + (o + 1)), .int 0, .null, .null, .null, .null, .null, .int 0, .int 0])) := ⟨_, rfl⟩
  have hw : Rw G (o + 2) E2 H := by rw [hE2]; exact hw
  have q1 : E2 (o + 1) = .inl (G.2.1 2, 5, .inr (.inr (.inr (.inr (fun _ => none))))) := by rw [hE2]; exact ((ue_ne _ _ (show (o + 1) ≠ o by omega)).trans q1)
  have q0 : E2 o = .inr (5, [.ref (bb G + (o + 1)), .int 0, .null, .null, .null, .null, .null, .int 0, .int 0]) := by rw [hE2]; exact ue_same _ _ _
  have hlow : ∀ (a : Nat) (ha : a < o), E2 (a) = E a := fun a ha => by rw [hE2]; exact ((ue_ne _ _ (show a ≠ o by omega)).trans (hlow a ha))
  refine lv_aload_n hx hb dX5_init_12 rfl (lv_at hl 0 rfl) ?_
  refine rc_new (ci := 1) (fs := [.int 0, .int 0]) hC hw hS inX1g tyX1_ok rfl nwX5_17 (fun j hj => by rcases (show j = 0 ∨ j = 1 by omega) with rfl | rfl <;> rfl) (by decide) (by decide) dX5_init_13 (fun H hw hS => ?_)
  obtain ⟨E3, hE3⟩ : ∃ F : Nat → va_E, F = ue E2 (o + 2) (.inr (1, [.int 0, .int 0])) := ⟨_, rfl⟩
  have hw : Rw G (o + 3) E3 H := by rw [hE3]; exact hw
  have q0 : E3 o = .inr (5, [.ref (bb G + (o + 1)), .int 0, .null, .null, .null, .null, .null, .int 0, .int 0]) := by rw [hE3]; exact ((ue_ne _ _ (show o ≠ (o + 2) by omega)).trans q0)
  have q1 : E3 (o + 1) = .inl (G.2.1 2, 5, .inr (.inr (.inr (.inr (fun _ => none))))) := by rw [hE3]; exact ((ue_ne _ _ (show (o + 1) ≠ (o + 2) by omega)).trans q1)
  have q2 : E3 (o + 2) = .inr (1, [.int 0, .int 0]) := by rw [hE3]; exact ue_same _ _ _
  have hlow : ∀ (a : Nat) (ha : a < o), E3 (a) = E a := fun a ha => by rw [hE3]; exact ((ue_ne _ _ (show a ≠ (o + 2) by omega)).trans (hlow a ha))
  refine lv_dup hx hb dX5_init_16 rfl ?_
  refine rc_initN hC hI (c_X1_init l G (o + 3) E3 (o + 2)) wnX5_19 ⟨rfl, rfl, by decide, by decide⟩ hw hS hl.1 (Nat.le_of_ble_eq_true rfl) dX5_init_17 ⟨by decide, by decide⟩ (fun H locs hw hS => ?_)
  refine rc_putF (v := .ref (bb G + (o + 2))) hC hw hS inX5g tyX5_ok nmX5 rfl (by omega) q0 2 (by decide) (lg 227 (by decide +kernel) rfl) rfl hnm rfl rfl rfl (Nat.le_of_ble_eq_true rfl) dX5_init_20 (fun H locs hw hS => ?_)
  obtain ⟨E4, hE4⟩ : ∃ F : Nat → va_E, F = ue E3 o (.inr (5, [.ref (bb G + (o + 1)), .int 0, .ref (bb G + (o + 2)), .null, .null, .null, .null, .int 0, .int 0])) := ⟨_, rfl⟩
  have hw : Rw G (o + 3) E4 H := by rw [hE4]; exact hw
  have q1 : E4 (o + 1) = .inl (G.2.1 2, 5, .inr (.inr (.inr (.inr (fun _ => none))))) := by rw [hE4]; exact ((ue_ne _ _ (show (o + 1) ≠ o by omega)).trans q1)
  have q2 : E4 (o + 2) = .inr (1, [.int 0, .int 0]) := by rw [hE4]; exact ((ue_ne _ _ (show (o + 2) ≠ o by omega)).trans q2)
  have q0 : E4 o = .inr (5, [.ref (bb G + (o + 1)), .int 0, .ref (bb G + (o + 2)), .null, .null, .null, .null, .int 0, .int 0]) := by rw [hE4]; exact ue_same _ _ _
  have hlow : ∀ (a : Nat) (ha : a < o), E4 (a) = E a := fun a ha => by rw [hE4]; exact ((ue_ne _ _ (show a ≠ o by omega)).trans (hlow a ha))
  refine lv_aload_n hx hb dX5_init_23 rfl (lv_at hl 0 rfl) ?_
  refine rc_new (ci := 1) (fs := [.int 0, .int 0]) hC hw hS inX1g tyX1_ok rfl nwX5_17 (fun j hj => by rcases (show j = 0 ∨ j = 1 by omega) with rfl | rfl <;> rfl) (by decide) (by decide) dX5_init_24 (fun H hw hS => ?_)
  obtain ⟨E5, hE5⟩ : ∃ F : Nat → va_E, F = ue E4 (o + 3) (.inr (1, [.int 0, .int 0])) := ⟨_, rfl⟩
  have hw : Rw G (o + 4) E5 H := by rw [hE5]; exact hw
  have q0 : E5 o = .inr (5, [.ref (bb G + (o + 1)), .int 0, .ref (bb G + (o + 2)), .null, .null, .null, .null, .int 0, .int 0]) := by rw [hE5]; exact ((ue_ne _ _ (show o ≠ (o + 3) by omega)).trans q0)
  have q1 : E5 (o + 1) = .inl (G.2.1 2, 5, .inr (.inr (.inr (.inr (fun _ => none))))) := by rw [hE5]; exact ((ue_ne _ _ (show (o + 1) ≠ (o + 3) by omega)).trans q1)
  have q2 : E5 (o + 2) = .inr (1, [.int 0, .int 0]) := by rw [hE5]; exact ((ue_ne _ _ (show (o + 2) ≠ (o + 3) by omega)).trans q2)
  have q3 : E5 (o + 3) = .inr (1, [.int 0, .int 0]) := by rw [hE5]; exact ue_same _ _ _
  have hlow : ∀ (a : Nat) (ha : a < o), E5 (a) = E a := fun a ha => by rw [hE5]; exact ((ue_ne _ _ (show a ≠ (o + 3) by omega)).trans (hlow a ha))
  refine lv_dup hx hb dX5_init_27 rfl ?_
  refine rc_initN hC hI (c_X1_init l G (o + 4) E5 (o + 3)) wnX5_19 ⟨rfl, rfl, by decide, by decide⟩ hw hS hl.1 (Nat.le_of_ble_eq_true rfl) dX5_init_28 ⟨by decide, by decide⟩ (fun H locs hw hS => ?_)
  refine rc_putF (v := .ref (bb G + (o + 3))) hC hw hS inX5g tyX5_ok nmX5 rfl (by omega) q0 3 (by decide) (lg 228 (by decide +kernel) rfl) rfl hnm rfl rfl rfl (Nat.le_of_ble_eq_true rfl) dX5_init_31 (fun H locs hw hS => ?_)
  obtain ⟨E6, hE6⟩ : ∃ F : Nat → va_E, F = ue E5 o (.inr (5, [.ref (bb G + (o + 1)), .int 0, .ref (bb G + (o + 2)), .ref (bb G + (o + 3)), .null, .null, .null, .int 0, .int 0])) := ⟨_, rfl⟩
  have hw : Rw G (o + 4) E6 H := by rw [hE6]; exact hw
  have q1 : E6 (o + 1) = .inl (G.2.1 2, 5, .inr (.inr (.inr (.inr (fun _ => none))))) := by rw [hE6]; exact ((ue_ne _ _ (show (o + 1) ≠ o by omega)).trans q1)
  have q2 : E6 (o + 2) = .inr (1, [.int 0, .int 0]) := by rw [hE6]; exact ((ue_ne _ _ (show (o + 2) ≠ o by omega)).trans q2)
  have q3 : E6 (o + 3) = .inr (1, [.int 0, .int 0]) := by rw [hE6]; exact ((ue_ne _ _ (show (o + 3) ≠ o by omega)).trans q3)
  have q0 : E6 o = .inr (5, [.ref (bb G + (o + 1)), .int 0, .ref (bb G + (o + 2)), .ref (bb G + (o + 3)), .null, .null, .null, .int 0, .int 0]) := by rw [hE6]; exact ue_same _ _ _
  have hlow : ∀ (a : Nat) (ha : a < o), E6 (a) = E a := fun a ha => by rw [hE6]; exact ((ue_ne _ _ (show a ≠ o by omega)).trans (hlow a ha))
  refine lv_aload_n hx hb dX5_init_34 rfl (lv_at hl 0 rfl) ?_
  refine lv_bipush (v := 6) hx hb dX5_init_35 (by decide) ?_
  refine rc_newi (N := 6) hC hw hS aw_int (by decide) (by decide) (Nat.le_of_ble_eq_true rfl) (by decide) (by decide) dX5_init_37 (fun H hw hS => ?_)
  obtain ⟨E7, hE7⟩ : ∃ F : Nat → va_E, F = ue E6 (o + 4) (.inl (G.2.1 0, 6, .inl (fun _ => 0))) := ⟨_, rfl⟩
  have hw : Rw G (o + 5) E7 H := by rw [hE7]; exact hw
  have q0 : E7 o = .inr (5, [.ref (bb G + (o + 1)), .int 0, .ref (bb G + (o + 2)), .ref (bb G + (o + 3)), .null, .null, .null, .int 0, .int 0]) := by rw [hE7]; exact ((ue_ne _ _ (show o ≠ (o + 4) by omega)).trans q0)
  have q1 : E7 (o + 1) = .inl (G.2.1 2, 5, .inr (.inr (.inr (.inr (fun _ => none))))) := by rw [hE7]; exact ((ue_ne _ _ (show (o + 1) ≠ (o + 4) by omega)).trans q1)
  have q2 : E7 (o + 2) = .inr (1, [.int 0, .int 0]) := by rw [hE7]; exact ((ue_ne _ _ (show (o + 2) ≠ (o + 4) by omega)).trans q2)
  have q3 : E7 (o + 3) = .inr (1, [.int 0, .int 0]) := by rw [hE7]; exact ((ue_ne _ _ (show (o + 3) ≠ (o + 4) by omega)).trans q3)
  have q4 : E7 (o + 4) = .inl (G.2.1 0, 6, .inl (fun _ => 0)) := by rw [hE7]; exact ue_same _ _ _
  have hlow : ∀ (a : Nat) (ha : a < o), E7 (a) = E a := fun a ha => by rw [hE7]; exact ((ue_ne _ _ (show a ≠ (o + 4) by omega)).trans (hlow a ha))
  refine rc_putF (v := .ref (bb G + (o + 4))) hC hw hS inX5g tyX5_ok nmX5 rfl (by omega) q0 4 (by decide) (lg 229 (by decide +kernel) rfl) rfl hnm rfl rfl rfl (Nat.le_of_ble_eq_true rfl) dX5_init_39 (fun H locs hw hS => ?_)
  obtain ⟨E8, hE8⟩ : ∃ F : Nat → va_E, F = ue E7 o (.inr (5, [.ref (bb G + (o + 1)), .int 0, .ref (bb G + (o + 2)), .ref (bb G + (o + 3)), .ref (bb G + (o + 4)), .null, .null, .int 0, .int 0])) := ⟨_, rfl⟩
  have hw : Rw G (o + 5) E8 H := by rw [hE8]; exact hw
  have q1 : E8 (o + 1) = .inl (G.2.1 2, 5, .inr (.inr (.inr (.inr (fun _ => none))))) := by rw [hE8]; exact ((ue_ne _ _ (show (o + 1) ≠ o by omega)).trans q1)
  have q2 : E8 (o + 2) = .inr (1, [.int 0, .int 0]) := by rw [hE8]; exact ((ue_ne _ _ (show (o + 2) ≠ o by omega)).trans q2)
  have q3 : E8 (o + 3) = .inr (1, [.int 0, .int 0]) := by rw [hE8]; exact ((ue_ne _ _ (show (o + 3) ≠ o by omega)).trans q3)
  have q4 : E8 (o + 4) = .inl (G.2.1 0, 6, .inl (fun _ => 0)) := by rw [hE8]; exact ((ue_ne _ _ (show (o + 4) ≠ o by omega)).trans q4)
  have q0 : E8 o = .inr (5, [.ref (bb G + (o + 1)), .int 0, .ref (bb G + (o + 2)), .ref (bb G + (o + 3)), .ref (bb G + (o + 4)), .null, .null, .int 0, .int 0]) := by rw [hE8]; exact ue_same _ _ _
  have hlow : ∀ (a : Nat) (ha : a < o), E8 (a) = E a := fun a ha => by rw [hE8]; exact ((ue_ne _ _ (show a ≠ o by omega)).trans (hlow a ha))
  refine lv_aload_n hx hb dX5_init_42 rfl (lv_at hl 0 rfl) ?_
  refine rc_new (ci := 7) (fs := [.null, .int 0, .int 0, .int 0, .int 0, .int 0, .int 0]) hC hw hS inX7g tyX7_ok rfl nwX5_31 (fun j hj => by rcases (show j = 0 ∨ j = 1 ∨ j = 2 ∨ j = 3 ∨ j = 4 ∨ j = 5 ∨ j = 6 by omega) with rfl | rfl | rfl | rfl | rfl | rfl | rfl <;> rfl) (by decide) (by decide) dX5_init_43 (fun H hw hS => ?_)
  obtain ⟨E9, hE9⟩ : ∃ F : Nat → va_E, F = ue E8 (o + 5) (.inr (7, [.null, .int 0, .int 0, .int 0, .int 0, .int 0, .int 0])) := ⟨_, rfl⟩
  have hw : Rw G (o + 6) E9 H := by rw [hE9]; exact hw
  have q0 : E9 o = .inr (5, [.ref (bb G + (o + 1)), .int 0, .ref (bb G + (o + 2)), .ref (bb G + (o + 3)), .ref (bb G + (o + 4)), .null, .null, .int 0, .int 0]) := by rw [hE9]; exact ((ue_ne _ _ (show o ≠ (o + 5) by omega)).trans q0)
  have q1 : E9 (o + 1) = .inl (G.2.1 2, 5, .inr (.inr (.inr (.inr (fun _ => none))))) := by rw [hE9]; exact ((ue_ne _ _ (show (o + 1) ≠ (o + 5) by omega)).trans q1)
  have q2 : E9 (o + 2) = .inr (1, [.int 0, .int 0]) := by rw [hE9]; exact ((ue_ne _ _ (show (o + 2) ≠ (o + 5) by omega)).trans q2)
  have q3 : E9 (o + 3) = .inr (1, [.int 0, .int 0]) := by rw [hE9]; exact ((ue_ne _ _ (show (o + 3) ≠ (o + 5) by omega)).trans q3)
  have q4 : E9 (o + 4) = .inl (G.2.1 0, 6, .inl (fun _ => 0)) := by rw [hE9]; exact ((ue_ne _ _ (show (o + 4) ≠ (o + 5) by omega)).trans q4)
  have q5 : E9 (o + 5) = .inr (7, [.null, .int 0, .int 0, .int 0, .int 0, .int 0, .int 0]) := by rw [hE9]; exact ue_same _ _ _
  have hlow : ∀ (a : Nat) (ha : a < o), E9 (a) = E a := fun a ha => by rw [hE9]; exact ((ue_ne _ _ (show a ≠ (o + 5) by omega)).trans (hlow a ha))
  refine lv_dup hx hb dX5_init_46 rfl ?_
  refine rc_initN hC hI (c_X7_init l G (o + 5) E9 q5) wnX5_33 ⟨rfl, rfl, by decide, by decide⟩ hw hS hl.1 (Nat.le_of_ble_eq_true rfl) dX5_init_47 ⟨by decide, by decide⟩ (fun H locs hw hS => ?_)
  obtain ⟨E10, hE10⟩ : ∃ F : Nat → va_E, F = ue (ue E9 (o + 6) (.inl (G.2.1 0, 8, .inl (fun _ => 0)))) (o + 5) (.inr (7, [.ref (bb G + (o + 6)), .int 0, .int 0, .int 0, .int 0, .int 0, .int 0])) := ⟨_, rfl⟩
  have hw : Rw G (o + 7) E10 H := by rw [hE10]; exact hw
  have q0 : E10 o = .inr (5, [.ref (bb G + (o + 1)), .int 0, .ref (bb G + (o + 2)), .ref (bb G + (o + 3)), .ref (bb G + (o + 4)), .null, .null, .int 0, .int 0]) := by rw [hE10]; exact ((ue_ne _ _ (show o ≠ (o + 5) by omega)).trans ((ue_ne _ _ (show o ≠ (o + 6) by omega)).trans q0))
  have q1 : E10 (o + 1) = .inl (G.2.1 2, 5, .inr (.inr (.inr (.inr (fun _ => none))))) := by rw [hE10]; exact ((ue_ne _ _ (show (o + 1) ≠ (o + 5) by omega)).trans ((ue_ne _ _ (show (o + 1) ≠ (o + 6) by omega)).trans q1))
  have q2 : E10 (o + 2) = .inr (1, [.int 0, .int 0]) := by rw [hE10]; exact ((ue_ne _ _ (show (o + 2) ≠ (o + 5) by omega)).trans ((ue_ne _ _ (show (o + 2) ≠ (o + 6) by omega)).trans q2))
  have q3 : E10 (o + 3) = .inr (1, [.int 0, .int 0]) := by rw [hE10]; exact ((ue_ne _ _ (show (o + 3) ≠ (o + 5) by omega)).trans ((ue_ne _ _ (show (o + 3) ≠ (o + 6) by omega)).trans q3))
  have q4 : E10 (o + 4) = .inl (G.2.1 0, 6, .inl (fun _ => 0)) := by rw [hE10]; exact ((ue_ne _ _ (show (o + 4) ≠ (o + 5) by omega)).trans ((ue_ne _ _ (show (o + 4) ≠ (o + 6) by omega)).trans q4))
  have q6 : E10 (o + 6) = .inl (G.2.1 0, 8, .inl (fun _ => 0)) := by rw [hE10]; exact (ue_ne _ _ (show (o + 6) ≠ (o + 5) by omega)).trans (ue_same _ _ _)
  have q5 : E10 (o + 5) = .inr (7, [.ref (bb G + (o + 6)), .int 0, .int 0, .int 0, .int 0, .int 0, .int 0]) := by rw [hE10]; exact ue_same _ _ _
  have hlow : ∀ (a : Nat) (ha : a < o), E10 (a) = E a := fun a ha => by rw [hE10]; exact ((ue_ne _ _ (show a ≠ (o + 5) by omega)).trans ((ue_ne _ _ (show a ≠ (o + 6) by omega)).trans (hlow a ha)))
  refine rc_putF (v := .ref (bb G + (o + 5))) hC hw hS inX5g tyX5_ok nmX5 rfl (by omega) q0 5 (by decide) (lg 231 (by decide +kernel) rfl) rfl hnm rfl rfl rfl (Nat.le_of_ble_eq_true rfl) dX5_init_50 (fun H locs hw hS => ?_)
  obtain ⟨E11, hE11⟩ : ∃ F : Nat → va_E, F = ue E10 o (.inr (5, [.ref (bb G + (o + 1)), .int 0, .ref (bb G + (o + 2)), .ref (bb G + (o + 3)), .ref (bb G + (o + 4)), .ref (bb G + (o + 5)), .null, .int 0, .int 0])) := ⟨_, rfl⟩
  have hw : Rw G (o + 7) E11 H := by rw [hE11]; exact hw
  have q1 : E11 (o + 1) = .inl (G.2.1 2, 5, .inr (.inr (.inr (.inr (fun _ => none))))) := by rw [hE11]; exact ((ue_ne _ _ (show (o + 1) ≠ o by omega)).trans q1)
  have q2 : E11 (o + 2) = .inr (1, [.int 0, .int 0]) := by rw [hE11]; exact ((ue_ne _ _ (show (o + 2) ≠ o by omega)).trans q2)
  have q3 : E11 (o + 3) = .inr (1, [.int 0, .int 0]) := by rw [hE11]; exact ((ue_ne _ _ (show (o + 3) ≠ o by omega)).trans q3)
  have q4 : E11 (o + 4) = .inl (G.2.1 0, 6, .inl (fun _ => 0)) := by rw [hE11]; exact ((ue_ne _ _ (show (o + 4) ≠ o by omega)).trans q4)
  have q5 : E11 (o + 5) = .inr (7, [.ref (bb G + (o + 6)), .int 0, .int 0, .int 0, .int 0, .int 0, .int 0]) := by rw [hE11]; exact ((ue_ne _ _ (show (o + 5) ≠ o by omega)).trans q5)
  have q6 : E11 (o + 6) = .inl (G.2.1 0, 8, .inl (fun _ => 0)) := by rw [hE11]; exact ((ue_ne _ _ (show (o + 6) ≠ o by omega)).trans q6)
  have q0 : E11 o = .inr (5, [.ref (bb G + (o + 1)), .int 0, .ref (bb G + (o + 2)), .ref (bb G + (o + 3)), .ref (bb G + (o + 4)), .ref (bb G + (o + 5)), .null, .int 0, .int 0]) := by rw [hE11]; exact ue_same _ _ _
  have hlow : ∀ (a : Nat) (ha : a < o), E11 (a) = E a := fun a ha => by rw [hE11]; exact ((ue_ne _ _ (show a ≠ o by omega)).trans (hlow a ha))
  refine lv_aload_n hx hb dX5_init_53 rfl (lv_at hl 0 rfl) ?_
  refine rc_new (ci := 3) (fs := [.int 0, .int 0, .int 0, .int 0, .int 0]) hC hw hS inX3g tyX3_ok rfl nwX5_38 (fun j hj => by rcases (show j = 0 ∨ j = 1 ∨ j = 2 ∨ j = 3 ∨ j = 4 by omega) with rfl | rfl | rfl | rfl | rfl <;> rfl) (by decide) (by decide) dX5_init_54 (fun H hw hS => ?_)
  obtain ⟨E12, hE12⟩ : ∃ F : Nat → va_E, F = ue E11 (o + 7) (.inr (3, [.int 0, .int 0, .int 0, .int 0, .int 0])) := ⟨_, rfl⟩
  have hw : Rw G (o + 8) E12 H := by rw [hE12]; exact hw
  have q0 : E12 o = .inr (5, [.ref (bb G + (o + 1)), .int 0, .ref (bb G + (o + 2)), .ref (bb G + (o + 3)), .ref (bb G + (o + 4)), .ref (bb G + (o + 5)), .null, .int 0, .int 0]) := by rw [hE12]; exact ((ue_ne _ _ (show o ≠ (o + 7) by omega)).trans q0)
  have q1 : E12 (o + 1) = .inl (G.2.1 2, 5, .inr (.inr (.inr (.inr (fun _ => none))))) := by rw [hE12]; exact ((ue_ne _ _ (show (o + 1) ≠ (o + 7) by omega)).trans q1)
  have q2 : E12 (o + 2) = .inr (1, [.int 0, .int 0]) := by rw [hE12]; exact ((ue_ne _ _ (show (o + 2) ≠ (o + 7) by omega)).trans q2)
  have q3 : E12 (o + 3) = .inr (1, [.int 0, .int 0]) := by rw [hE12]; exact ((ue_ne _ _ (show (o + 3) ≠ (o + 7) by omega)).trans q3)
  have q4 : E12 (o + 4) = .inl (G.2.1 0, 6, .inl (fun _ => 0)) := by rw [hE12]; exact ((ue_ne _ _ (show (o + 4) ≠ (o + 7) by omega)).trans q4)
  have q5 : E12 (o + 5) = .inr (7, [.ref (bb G + (o + 6)), .int 0, .int 0, .int 0, .int 0, .int 0, .int 0]) := by rw [hE12]; exact ((ue_ne _ _ (show (o + 5) ≠ (o + 7) by omega)).trans q5)
  have q6 : E12 (o + 6) = .inl (G.2.1 0, 8, .inl (fun _ => 0)) := by rw [hE12]; exact ((ue_ne _ _ (show (o + 6) ≠ (o + 7) by omega)).trans q6)
  have q7 : E12 (o + 7) = .inr (3, [.int 0, .int 0, .int 0, .int 0, .int 0]) := by rw [hE12]; exact ue_same _ _ _
  have hlow : ∀ (a : Nat) (ha : a < o), E12 (a) = E a := fun a ha => by rw [hE12]; exact ((ue_ne _ _ (show a ≠ (o + 7) by omega)).trans (hlow a ha))
  refine lv_dup hx hb dX5_init_57 rfl ?_
  refine rc_initN hC hI (c_X3_init l G (o + 8) E12 (o + 7)) wnX5_40 ⟨rfl, rfl, by decide, by decide⟩ hw hS hl.1 (Nat.le_of_ble_eq_true rfl) dX5_init_58 ⟨by decide, by decide⟩ (fun H locs hw hS => ?_)
  refine rc_putF (v := .ref (bb G + (o + 7))) hC hw hS inX5g tyX5_ok nmX5 rfl (by omega) q0 6 (by decide) (lg 233 (by decide +kernel) rfl) rfl hnm rfl rfl rfl (Nat.le_of_ble_eq_true rfl) dX5_init_61 (fun H locs hw hS => ?_)
  obtain ⟨E13, hE13⟩ : ∃ F : Nat → va_E, F = ue E12 o (.inr (5, [.ref (bb G + (o + 1)), .int 0, .ref (bb G + (o + 2)), .ref (bb G + (o + 3)), .ref (bb G + (o + 4)), .ref (bb G + (o + 5)), .ref (bb G + (o + 7)), .int 0, .int 0])) := ⟨_, rfl⟩
  have hw : Rw G (o + 8) E13 H := by rw [hE13]; exact hw
  have q1 : E13 (o + 1) = .inl (G.2.1 2, 5, .inr (.inr (.inr (.inr (fun _ => none))))) := by rw [hE13]; exact ((ue_ne _ _ (show (o + 1) ≠ o by omega)).trans q1)
  have q2 : E13 (o + 2) = .inr (1, [.int 0, .int 0]) := by rw [hE13]; exact ((ue_ne _ _ (show (o + 2) ≠ o by omega)).trans q2)
  have q3 : E13 (o + 3) = .inr (1, [.int 0, .int 0]) := by rw [hE13]; exact ((ue_ne _ _ (show (o + 3) ≠ o by omega)).trans q3)
  have q4 : E13 (o + 4) = .inl (G.2.1 0, 6, .inl (fun _ => 0)) := by rw [hE13]; exact ((ue_ne _ _ (show (o + 4) ≠ o by omega)).trans q4)
  have q5 : E13 (o + 5) = .inr (7, [.ref (bb G + (o + 6)), .int 0, .int 0, .int 0, .int 0, .int 0, .int 0]) := by rw [hE13]; exact ((ue_ne _ _ (show (o + 5) ≠ o by omega)).trans q5)
  have q6 : E13 (o + 6) = .inl (G.2.1 0, 8, .inl (fun _ => 0)) := by rw [hE13]; exact ((ue_ne _ _ (show (o + 6) ≠ o by omega)).trans q6)
  have q7 : E13 (o + 7) = .inr (3, [.int 0, .int 0, .int 0, .int 0, .int 0]) := by rw [hE13]; exact ((ue_ne _ _ (show (o + 7) ≠ o by omega)).trans q7)
  have q0 : E13 o = .inr (5, [.ref (bb G + (o + 1)), .int 0, .ref (bb G + (o + 2)), .ref (bb G + (o + 3)), .ref (bb G + (o + 4)), .ref (bb G + (o + 5)), .ref (bb G + (o + 7)), .int 0, .int 0]) := by rw [hE13]; exact ue_same _ _ _
  have hlow : ∀ (a : Nat) (ha : a < o), E13 (a) = E a := fun a ha => by rw [hE13]; exact ((ue_ne _ _ (show a ≠ o by omega)).trans (hlow a ha))
  refine lv_iconst (v := 0) hx hb dX5_init_64 (by decide) ?_
  refine lv_istore_n (lv' := [(1, .int (0 : Int32)), (0, .ref (bb G + o))]) hx hb dX5_init_65 rfl hl (by decide) rfl (fun ls hl => ?_)
  refine lv_iload_n hx hb dX5_init_66 rfl (lv_at hl 0 rfl) ?_
  refine lv_aload_n hx hb dX5_init_67 rfl (lv_at hl 1 rfl) ?_
  refine rc_get (v := .ref (bb G + (o + 1))) hC hw inX5g rfl (by omega) q0 0 (by decide) (lg 223 (by decide +kernel) rfl) rfl dX5_init_68 ?_
  refine rc_alen (t0 := 2) (v := 5) hC hw (by omega) q1 rfl rfl dX5_init_71 ?_
  refine lv_icmp_ge (tgt := 94) hx hb dX5_init_72 (by decide) (fun hc => ?_) (fun hc => ?_)
  · exact absurd hc (by decide)
  refine lv_aload_n hx hb dX5_init_75 rfl (lv_at hl 1 rfl) ?_
  refine rc_get (v := .ref (bb G + (o + 1))) hC hw inX5g rfl (by omega) q0 0 (by decide) (lg 223 (by decide +kernel) rfl) rfl dX5_init_76 ?_
  refine lv_iload_n hx hb dX5_init_79 rfl (lv_at hl 0 rfl) ?_
  refine rc_new (ci := 0) (fs := [.int 0, .int 0, .int 0, .int 0, .int 0, .int 0, .int 0]) hC hw hS inX0g tyX0_ok rfl nwX5_9 (fun j hj => by rcases (show j = 0 ∨ j = 1 ∨ j = 2 ∨ j = 3 ∨ j = 4 ∨ j = 5 ∨ j = 6 by omega) with rfl | rfl | rfl | rfl | rfl | rfl | rfl <;> rfl) (by decide) (by decide) dX5_init_80 (fun H hw hS => ?_)
  obtain ⟨E14, hE14⟩ : ∃ F : Nat → va_E, F = ue E13 (o + 8) (.inr (0, [.int 0, .int 0, .int 0, .int 0, .int 0, .int 0, .int 0])) := ⟨_, rfl⟩
  have hw : Rw G (o + 9) E14 H := by rw [hE14]; exact hw
  have q0 : E14 o = .inr (5, [.ref (bb G + (o + 1)), .int 0, .ref (bb G + (o + 2)), .ref (bb G + (o + 3)), .ref (bb G + (o + 4)), .ref (bb G + (o + 5)), .ref (bb G + (o + 7)), .int 0, .int 0]) := by rw [hE14]; exact ((ue_ne _ _ (show o ≠ (o + 8) by omega)).trans q0)
  have q1 : E14 (o + 1) = .inl (G.2.1 2, 5, .inr (.inr (.inr (.inr (fun _ => none))))) := by rw [hE14]; exact ((ue_ne _ _ (show (o + 1) ≠ (o + 8) by omega)).trans q1)
  have q2 : E14 (o + 2) = .inr (1, [.int 0, .int 0]) := by rw [hE14]; exact ((ue_ne _ _ (show (o + 2) ≠ (o + 8) by omega)).trans q2)
  have q3 : E14 (o + 3) = .inr (1, [.int 0, .int 0]) := by rw [hE14]; exact ((ue_ne _ _ (show (o + 3) ≠ (o + 8) by omega)).trans q3)
  have q4 : E14 (o + 4) = .inl (G.2.1 0, 6, .inl (fun _ => 0)) := by rw [hE14]; exact ((ue_ne _ _ (show (o + 4) ≠ (o + 8) by omega)).trans q4)
  have q5 : E14 (o + 5) = .inr (7, [.ref (bb G + (o + 6)), .int 0, .int 0, .int 0, .int 0, .int 0, .int 0]) := by rw [hE14]; exact ((ue_ne _ _ (show (o + 5) ≠ (o + 8) by omega)).trans q5)
  have q6 : E14 (o + 6) = .inl (G.2.1 0, 8, .inl (fun _ => 0)) := by rw [hE14]; exact ((ue_ne _ _ (show (o + 6) ≠ (o + 8) by omega)).trans q6)
  have q7 : E14 (o + 7) = .inr (3, [.int 0, .int 0, .int 0, .int 0, .int 0]) := by rw [hE14]; exact ((ue_ne _ _ (show (o + 7) ≠ (o + 8) by omega)).trans q7)
  have q8 : E14 (o + 8) = .inr (0, [.int 0, .int 0, .int 0, .int 0, .int 0, .int 0, .int 0]) := by rw [hE14]; exact ue_same _ _ _
  have hlow : ∀ (a : Nat) (ha : a < o), E14 (a) = E a := fun a ha => by rw [hE14]; exact ((ue_ne _ _ (show a ≠ (o + 8) by omega)).trans (hlow a ha))
  refine lv_dup hx hb dX5_init_83 rfl ?_
  refine rc_initN hC hI (c_X0_init l G (o + 9) E14 (o + 8)) wnX5_45 ⟨rfl, rfl, by decide, by decide⟩ hw hS hl.1 (Nat.le_of_ble_eq_true rfl) dX5_init_84 ⟨by decide, by decide⟩ (fun H locs hw hS => ?_)
  refine rc_aast (t0 := 2) (r := vwCl[0]) hC hw hS (by omega) q1 rfl (by omega) q8 rfl (show vp_in (0 : Int32) 5 by unfold vp_in; decide) dX5_init_87 (fun H locs hw hS => ?_)
  obtain ⟨E15, hE15⟩ : ∃ F : Nat → va_E, F = ue E14 (o + 1) (.inl (G.2.1 2, 5, .inr (.inr (.inr (.inr (va_up (fun _ => none) (0 : Int32).toNatClampNeg (some (bb G + (o + 8))))))))) := ⟨_, rfl⟩
  have hw : Rw G (o + 9) E15 H := by rw [hE15]; exact hw
  have q0 : E15 o = .inr (5, [.ref (bb G + (o + 1)), .int 0, .ref (bb G + (o + 2)), .ref (bb G + (o + 3)), .ref (bb G + (o + 4)), .ref (bb G + (o + 5)), .ref (bb G + (o + 7)), .int 0, .int 0]) := by rw [hE15]; exact ((ue_ne _ _ (show o ≠ (o + 1) by omega)).trans q0)
  have q2 : E15 (o + 2) = .inr (1, [.int 0, .int 0]) := by rw [hE15]; exact ((ue_ne _ _ (show (o + 2) ≠ (o + 1) by omega)).trans q2)
  have q3 : E15 (o + 3) = .inr (1, [.int 0, .int 0]) := by rw [hE15]; exact ((ue_ne _ _ (show (o + 3) ≠ (o + 1) by omega)).trans q3)
  have q4 : E15 (o + 4) = .inl (G.2.1 0, 6, .inl (fun _ => 0)) := by rw [hE15]; exact ((ue_ne _ _ (show (o + 4) ≠ (o + 1) by omega)).trans q4)
  have q5 : E15 (o + 5) = .inr (7, [.ref (bb G + (o + 6)), .int 0, .int 0, .int 0, .int 0, .int 0, .int 0]) := by rw [hE15]; exact ((ue_ne _ _ (show (o + 5) ≠ (o + 1) by omega)).trans q5)
  have q6 : E15 (o + 6) = .inl (G.2.1 0, 8, .inl (fun _ => 0)) := by rw [hE15]; exact ((ue_ne _ _ (show (o + 6) ≠ (o + 1) by omega)).trans q6)
  have q7 : E15 (o + 7) = .inr (3, [.int 0, .int 0, .int 0, .int 0, .int 0]) := by rw [hE15]; exact ((ue_ne _ _ (show (o + 7) ≠ (o + 1) by omega)).trans q7)
  have q8 : E15 (o + 8) = .inr (0, [.int 0, .int 0, .int 0, .int 0, .int 0, .int 0, .int 0]) := by rw [hE15]; exact ((ue_ne _ _ (show (o + 8) ≠ (o + 1) by omega)).trans q8)
  have q1 : E15 (o + 1) = .inl (G.2.1 2, 5, .inr (.inr (.inr (.inr (va_up (fun _ => none) (0 : Int32).toNatClampNeg (some (bb G + (o + 8)))))))) := by rw [hE15]; exact ue_same _ _ _
  have hlow : ∀ (a : Nat) (ha : a < o), E15 (a) = E a := fun a ha => by rw [hE15]; exact ((ue_ne _ _ (show a ≠ (o + 1) by omega)).trans (hlow a ha))
  refine lv_iinc (v := 1) (lv' := [(1, .int (1 : Int32)), (0, .ref (bb G + o))]) hx hb dX5_init_88 hl (k := 0) rfl (by decide) (by decide) rfl (fun ls hl => ?_)
  refine lv_goto (tgt := 66) hx hb dX5_init_91 (by decide) ?_
  refine lv_iload_n hx hb dX5_init_66 rfl (lv_at hl 0 rfl) ?_
  refine lv_aload_n hx hb dX5_init_67 rfl (lv_at hl 1 rfl) ?_
  refine rc_get (v := .ref (bb G + (o + 1))) hC hw inX5g rfl (by omega) q0 0 (by decide) (lg 223 (by decide +kernel) rfl) rfl dX5_init_68 ?_
  refine rc_alen (t0 := 2) (v := 5) hC hw (by omega) q1 rfl rfl dX5_init_71 ?_
  refine lv_icmp_ge (tgt := 94) hx hb dX5_init_72 (by decide) (fun hc => ?_) (fun hc => ?_)
  · exact absurd hc (by decide)
  refine lv_aload_n hx hb dX5_init_75 rfl (lv_at hl 1 rfl) ?_
  refine rc_get (v := .ref (bb G + (o + 1))) hC hw inX5g rfl (by omega) q0 0 (by decide) (lg 223 (by decide +kernel) rfl) rfl dX5_init_76 ?_
  refine lv_iload_n hx hb dX5_init_79 rfl (lv_at hl 0 rfl) ?_
  refine rc_new (ci := 0) (fs := [.int 0, .int 0, .int 0, .int 0, .int 0, .int 0, .int 0]) hC hw hS inX0g tyX0_ok rfl nwX5_9 (fun j hj => by rcases (show j = 0 ∨ j = 1 ∨ j = 2 ∨ j = 3 ∨ j = 4 ∨ j = 5 ∨ j = 6 by omega) with rfl | rfl | rfl | rfl | rfl | rfl | rfl <;> rfl) (by decide) (by decide) dX5_init_80 (fun H hw hS => ?_)
  obtain ⟨E16, hE16⟩ : ∃ F : Nat → va_E, F = ue E15 (o + 9) (.inr (0, [.int 0, .int 0, .int 0, .int 0, .int 0, .int 0, .int 0])) := ⟨_, rfl⟩
  have hw : Rw G (o + 10) E16 H := by rw [hE16]; exact hw
  have q0 : E16 o = .inr (5, [.ref (bb G + (o + 1)), .int 0, .ref (bb G + (o + 2)), .ref (bb G + (o + 3)), .ref (bb G + (o + 4)), .ref (bb G + (o + 5)), .ref (bb G + (o + 7)), .int 0, .int 0]) := by rw [hE16]; exact ((ue_ne _ _ (show o ≠ (o + 9) by omega)).trans q0)
  have q1 : E16 (o + 1) = .inl (G.2.1 2, 5, .inr (.inr (.inr (.inr (va_up (fun _ => none) (0 : Int32).toNatClampNeg (some (bb G + (o + 8)))))))) := by rw [hE16]; exact ((ue_ne _ _ (show (o + 1) ≠ (o + 9) by omega)).trans q1)
  have q2 : E16 (o + 2) = .inr (1, [.int 0, .int 0]) := by rw [hE16]; exact ((ue_ne _ _ (show (o + 2) ≠ (o + 9) by omega)).trans q2)
  have q3 : E16 (o + 3) = .inr (1, [.int 0, .int 0]) := by rw [hE16]; exact ((ue_ne _ _ (show (o + 3) ≠ (o + 9) by omega)).trans q3)
  have q4 : E16 (o + 4) = .inl (G.2.1 0, 6, .inl (fun _ => 0)) := by rw [hE16]; exact ((ue_ne _ _ (show (o + 4) ≠ (o + 9) by omega)).trans q4)
  have q5 : E16 (o + 5) = .inr (7, [.ref (bb G + (o + 6)), .int 0, .int 0, .int 0, .int 0, .int 0, .int 0]) := by rw [hE16]; exact ((ue_ne _ _ (show (o + 5) ≠ (o + 9) by omega)).trans q5)
  have q6 : E16 (o + 6) = .inl (G.2.1 0, 8, .inl (fun _ => 0)) := by rw [hE16]; exact ((ue_ne _ _ (show (o + 6) ≠ (o + 9) by omega)).trans q6)
  have q7 : E16 (o + 7) = .inr (3, [.int 0, .int 0, .int 0, .int 0, .int 0]) := by rw [hE16]; exact ((ue_ne _ _ (show (o + 7) ≠ (o + 9) by omega)).trans q7)
  have q8 : E16 (o + 8) = .inr (0, [.int 0, .int 0, .int 0, .int 0, .int 0, .int 0, .int 0]) := by rw [hE16]; exact ((ue_ne _ _ (show (o + 8) ≠ (o + 9) by omega)).trans q8)
  have q9 : E16 (o + 9) = .inr (0, [.int 0, .int 0, .int 0, .int 0, .int 0, .int 0, .int 0]) := by rw [hE16]; exact ue_same _ _ _
  have hlow : ∀ (a : Nat) (ha : a < o), E16 (a) = E a := fun a ha => by rw [hE16]; exact ((ue_ne _ _ (show a ≠ (o + 9) by omega)).trans (hlow a ha))
  refine lv_dup hx hb dX5_init_83 rfl ?_
  refine rc_initN hC hI (c_X0_init l G (o + 10) E16 (o + 9)) wnX5_45 ⟨rfl, rfl, by decide, by decide⟩ hw hS hl.1 (Nat.le_of_ble_eq_true rfl) dX5_init_84 ⟨by decide, by decide⟩ (fun H locs hw hS => ?_)
  refine rc_aast (t0 := 2) (r := vwCl[0]) hC hw hS (by omega) q1 rfl (by omega) q9 rfl (show vp_in (1 : Int32) 5 by unfold vp_in; decide) dX5_init_87 (fun H locs hw hS => ?_)
  obtain ⟨E17, hE17⟩ : ∃ F : Nat → va_E, F = ue E16 (o + 1) (.inl (G.2.1 2, 5, .inr (.inr (.inr (.inr (va_up (va_up (fun _ => none) (0 : Int32).toNatClampNeg (some (bb G + (o + 8)))) (1 : Int32).toNatClampNeg (some (bb G + (o + 9))))))))) := ⟨_, rfl⟩
  have hw : Rw G (o + 10) E17 H := by rw [hE17]; exact hw
  have q0 : E17 o = .inr (5, [.ref (bb G + (o + 1)), .int 0, .ref (bb G + (o + 2)), .ref (bb G + (o + 3)), .ref (bb G + (o + 4)), .ref (bb G + (o + 5)), .ref (bb G + (o + 7)), .int 0, .int 0]) := by rw [hE17]; exact ((ue_ne _ _ (show o ≠ (o + 1) by omega)).trans q0)
  have q2 : E17 (o + 2) = .inr (1, [.int 0, .int 0]) := by rw [hE17]; exact ((ue_ne _ _ (show (o + 2) ≠ (o + 1) by omega)).trans q2)
  have q3 : E17 (o + 3) = .inr (1, [.int 0, .int 0]) := by rw [hE17]; exact ((ue_ne _ _ (show (o + 3) ≠ (o + 1) by omega)).trans q3)
  have q4 : E17 (o + 4) = .inl (G.2.1 0, 6, .inl (fun _ => 0)) := by rw [hE17]; exact ((ue_ne _ _ (show (o + 4) ≠ (o + 1) by omega)).trans q4)
  have q5 : E17 (o + 5) = .inr (7, [.ref (bb G + (o + 6)), .int 0, .int 0, .int 0, .int 0, .int 0, .int 0]) := by rw [hE17]; exact ((ue_ne _ _ (show (o + 5) ≠ (o + 1) by omega)).trans q5)
  have q6 : E17 (o + 6) = .inl (G.2.1 0, 8, .inl (fun _ => 0)) := by rw [hE17]; exact ((ue_ne _ _ (show (o + 6) ≠ (o + 1) by omega)).trans q6)
  have q7 : E17 (o + 7) = .inr (3, [.int 0, .int 0, .int 0, .int 0, .int 0]) := by rw [hE17]; exact ((ue_ne _ _ (show (o + 7) ≠ (o + 1) by omega)).trans q7)
  have q8 : E17 (o + 8) = .inr (0, [.int 0, .int 0, .int 0, .int 0, .int 0, .int 0, .int 0]) := by rw [hE17]; exact ((ue_ne _ _ (show (o + 8) ≠ (o + 1) by omega)).trans q8)
  have q9 : E17 (o + 9) = .inr (0, [.int 0, .int 0, .int 0, .int 0, .int 0, .int 0, .int 0]) := by rw [hE17]; exact ((ue_ne _ _ (show (o + 9) ≠ (o + 1) by omega)).trans q9)
  have q1 : E17 (o + 1) = .inl (G.2.1 2, 5, .inr (.inr (.inr (.inr (va_up (va_up (fun _ => none) (0 : Int32).toNatClampNeg (some (bb G + (o + 8)))) (1 : Int32).toNatClampNeg (some (bb G + (o + 9)))))))) := by rw [hE17]; exact ue_same _ _ _
  have hlow : ∀ (a : Nat) (ha : a < o), E17 (a) = E a := fun a ha => by rw [hE17]; exact ((ue_ne _ _ (show a ≠ (o + 1) by omega)).trans (hlow a ha))
  refine lv_iinc (v := 2) (lv' := [(1, .int (2 : Int32)), (0, .ref (bb G + o))]) hx hb dX5_init_88 hl (k := 0) rfl (by decide) (by decide) rfl (fun ls hl => ?_)
  refine lv_goto (tgt := 66) hx hb dX5_init_91 (by decide) ?_
  refine lv_iload_n hx hb dX5_init_66 rfl (lv_at hl 0 rfl) ?_
  refine lv_aload_n hx hb dX5_init_67 rfl (lv_at hl 1 rfl) ?_
  refine rc_get (v := .ref (bb G + (o + 1))) hC hw inX5g rfl (by omega) q0 0 (by decide) (lg 223 (by decide +kernel) rfl) rfl dX5_init_68 ?_
  refine rc_alen (t0 := 2) (v := 5) hC hw (by omega) q1 rfl rfl dX5_init_71 ?_
  refine lv_icmp_ge (tgt := 94) hx hb dX5_init_72 (by decide) (fun hc => ?_) (fun hc => ?_)
  · exact absurd hc (by decide)
  refine lv_aload_n hx hb dX5_init_75 rfl (lv_at hl 1 rfl) ?_
  refine rc_get (v := .ref (bb G + (o + 1))) hC hw inX5g rfl (by omega) q0 0 (by decide) (lg 223 (by decide +kernel) rfl) rfl dX5_init_76 ?_
  refine lv_iload_n hx hb dX5_init_79 rfl (lv_at hl 0 rfl) ?_
  refine rc_new (ci := 0) (fs := [.int 0, .int 0, .int 0, .int 0, .int 0, .int 0, .int 0]) hC hw hS inX0g tyX0_ok rfl nwX5_9 (fun j hj => by rcases (show j = 0 ∨ j = 1 ∨ j = 2 ∨ j = 3 ∨ j = 4 ∨ j = 5 ∨ j = 6 by omega) with rfl | rfl | rfl | rfl | rfl | rfl | rfl <;> rfl) (by decide) (by decide) dX5_init_80 (fun H hw hS => ?_)
  obtain ⟨E18, hE18⟩ : ∃ F : Nat → va_E, F = ue E17 (o + 10) (.inr (0, [.int 0, .int 0, .int 0, .int 0, .int 0, .int 0, .int 0])) := ⟨_, rfl⟩
  have hw : Rw G (o + 11) E18 H := by rw [hE18]; exact hw
  have q0 : E18 o = .inr (5, [.ref (bb G + (o + 1)), .int 0, .ref (bb G + (o + 2)), .ref (bb G + (o + 3)), .ref (bb G + (o + 4)), .ref (bb G + (o + 5)), .ref (bb G + (o + 7)), .int 0, .int 0]) := by rw [hE18]; exact ((ue_ne _ _ (show o ≠ (o + 10) by omega)).trans q0)
  have q1 : E18 (o + 1) = .inl (G.2.1 2, 5, .inr (.inr (.inr (.inr (va_up (va_up (fun _ => none) (0 : Int32).toNatClampNeg (some (bb G + (o + 8)))) (1 : Int32).toNatClampNeg (some (bb G + (o + 9)))))))) := by rw [hE18]; exact ((ue_ne _ _ (show (o + 1) ≠ (o + 10) by omega)).trans q1)
  have q2 : E18 (o + 2) = .inr (1, [.int 0, .int 0]) := by rw [hE18]; exact ((ue_ne _ _ (show (o + 2) ≠ (o + 10) by omega)).trans q2)
  have q3 : E18 (o + 3) = .inr (1, [.int 0, .int 0]) := by rw [hE18]; exact ((ue_ne _ _ (show (o + 3) ≠ (o + 10) by omega)).trans q3)
  have q4 : E18 (o + 4) = .inl (G.2.1 0, 6, .inl (fun _ => 0)) := by rw [hE18]; exact ((ue_ne _ _ (show (o + 4) ≠ (o + 10) by omega)).trans q4)
  have q5 : E18 (o + 5) = .inr (7, [.ref (bb G + (o + 6)), .int 0, .int 0, .int 0, .int 0, .int 0, .int 0]) := by rw [hE18]; exact ((ue_ne _ _ (show (o + 5) ≠ (o + 10) by omega)).trans q5)
  have q6 : E18 (o + 6) = .inl (G.2.1 0, 8, .inl (fun _ => 0)) := by rw [hE18]; exact ((ue_ne _ _ (show (o + 6) ≠ (o + 10) by omega)).trans q6)
  have q7 : E18 (o + 7) = .inr (3, [.int 0, .int 0, .int 0, .int 0, .int 0]) := by rw [hE18]; exact ((ue_ne _ _ (show (o + 7) ≠ (o + 10) by omega)).trans q7)
  have q8 : E18 (o + 8) = .inr (0, [.int 0, .int 0, .int 0, .int 0, .int 0, .int 0, .int 0]) := by rw [hE18]; exact ((ue_ne _ _ (show (o + 8) ≠ (o + 10) by omega)).trans q8)
  have q9 : E18 (o + 9) = .inr (0, [.int 0, .int 0, .int 0, .int 0, .int 0, .int 0, .int 0]) := by rw [hE18]; exact ((ue_ne _ _ (show (o + 9) ≠ (o + 10) by omega)).trans q9)
  have q10 : E18 (o + 10) = .inr (0, [.int 0, .int 0, .int 0, .int 0, .int 0, .int 0, .int 0]) := by rw [hE18]; exact ue_same _ _ _
  have hlow : ∀ (a : Nat) (ha : a < o), E18 (a) = E a := fun a ha => by rw [hE18]; exact ((ue_ne _ _ (show a ≠ (o + 10) by omega)).trans (hlow a ha))
  refine lv_dup hx hb dX5_init_83 rfl ?_
  refine rc_initN hC hI (c_X0_init l G (o + 11) E18 (o + 10)) wnX5_45 ⟨rfl, rfl, by decide, by decide⟩ hw hS hl.1 (Nat.le_of_ble_eq_true rfl) dX5_init_84 ⟨by decide, by decide⟩ (fun H locs hw hS => ?_)
  refine rc_aast (t0 := 2) (r := vwCl[0]) hC hw hS (by omega) q1 rfl (by omega) q10 rfl (show vp_in (2 : Int32) 5 by unfold vp_in; decide) dX5_init_87 (fun H locs hw hS => ?_)
  obtain ⟨E19, hE19⟩ : ∃ F : Nat → va_E, F = ue E18 (o + 1) (.inl (G.2.1 2, 5, .inr (.inr (.inr (.inr (va_up (va_up (va_up (fun _ => none) (0 : Int32).toNatClampNeg (some (bb G + (o + 8)))) (1 : Int32).toNatClampNeg (some (bb G + (o + 9)))) (2 : Int32).toNatClampNeg (some (bb G + (o + 10))))))))) := ⟨_, rfl⟩
  have hw : Rw G (o + 11) E19 H := by rw [hE19]; exact hw
  have q0 : E19 o = .inr (5, [.ref (bb G + (o + 1)), .int 0, .ref (bb G + (o + 2)), .ref (bb G + (o + 3)), .ref (bb G + (o + 4)), .ref (bb G + (o + 5)), .ref (bb G + (o + 7)), .int 0, .int 0]) := by rw [hE19]; exact ((ue_ne _ _ (show o ≠ (o + 1) by omega)).trans q0)
  have q2 : E19 (o + 2) = .inr (1, [.int 0, .int 0]) := by rw [hE19]; exact ((ue_ne _ _ (show (o + 2) ≠ (o + 1) by omega)).trans q2)
  have q3 : E19 (o + 3) = .inr (1, [.int 0, .int 0]) := by rw [hE19]; exact ((ue_ne _ _ (show (o + 3) ≠ (o + 1) by omega)).trans q3)
  have q4 : E19 (o + 4) = .inl (G.2.1 0, 6, .inl (fun _ => 0)) := by rw [hE19]; exact ((ue_ne _ _ (show (o + 4) ≠ (o + 1) by omega)).trans q4)
  have q5 : E19 (o + 5) = .inr (7, [.ref (bb G + (o + 6)), .int 0, .int 0, .int 0, .int 0, .int 0, .int 0]) := by rw [hE19]; exact ((ue_ne _ _ (show (o + 5) ≠ (o + 1) by omega)).trans q5)
  have q6 : E19 (o + 6) = .inl (G.2.1 0, 8, .inl (fun _ => 0)) := by rw [hE19]; exact ((ue_ne _ _ (show (o + 6) ≠ (o + 1) by omega)).trans q6)
  have q7 : E19 (o + 7) = .inr (3, [.int 0, .int 0, .int 0, .int 0, .int 0]) := by rw [hE19]; exact ((ue_ne _ _ (show (o + 7) ≠ (o + 1) by omega)).trans q7)
  have q8 : E19 (o + 8) = .inr (0, [.int 0, .int 0, .int 0, .int 0, .int 0, .int 0, .int 0]) := by rw [hE19]; exact ((ue_ne _ _ (show (o + 8) ≠ (o + 1) by omega)).trans q8)
  have q9 : E19 (o + 9) = .inr (0, [.int 0, .int 0, .int 0, .int 0, .int 0, .int 0, .int 0]) := by rw [hE19]; exact ((ue_ne _ _ (show (o + 9) ≠ (o + 1) by omega)).trans q9)
  have q10 : E19 (o + 10) = .inr (0, [.int 0, .int 0, .int 0, .int 0, .int 0, .int 0, .int 0]) := by rw [hE19]; exact ((ue_ne _ _ (show (o + 10) ≠ (o + 1) by omega)).trans q10)
  have q1 : E19 (o + 1) = .inl (G.2.1 2, 5, .inr (.inr (.inr (.inr (va_up (va_up (va_up (fun _ => none) (0 : Int32).toNatClampNeg (some (bb G + (o + 8)))) (1 : Int32).toNatClampNeg (some (bb G + (o + 9)))) (2 : Int32).toNatClampNeg (some (bb G + (o + 10)))))))) := by rw [hE19]; exact ue_same _ _ _
  have hlow : ∀ (a : Nat) (ha : a < o), E19 (a) = E a := fun a ha => by rw [hE19]; exact ((ue_ne _ _ (show a ≠ (o + 1) by omega)).trans (hlow a ha))
  refine lv_iinc (v := 3) (lv' := [(1, .int (3 : Int32)), (0, .ref (bb G + o))]) hx hb dX5_init_88 hl (k := 0) rfl (by decide) (by decide) rfl (fun ls hl => ?_)
  refine lv_goto (tgt := 66) hx hb dX5_init_91 (by decide) ?_
  refine lv_iload_n hx hb dX5_init_66 rfl (lv_at hl 0 rfl) ?_
  refine lv_aload_n hx hb dX5_init_67 rfl (lv_at hl 1 rfl) ?_
  refine rc_get (v := .ref (bb G + (o + 1))) hC hw inX5g rfl (by omega) q0 0 (by decide) (lg 223 (by decide +kernel) rfl) rfl dX5_init_68 ?_
  refine rc_alen (t0 := 2) (v := 5) hC hw (by omega) q1 rfl rfl dX5_init_71 ?_
  refine lv_icmp_ge (tgt := 94) hx hb dX5_init_72 (by decide) (fun hc => ?_) (fun hc => ?_)
  · exact absurd hc (by decide)
  refine lv_aload_n hx hb dX5_init_75 rfl (lv_at hl 1 rfl) ?_
  refine rc_get (v := .ref (bb G + (o + 1))) hC hw inX5g rfl (by omega) q0 0 (by decide) (lg 223 (by decide +kernel) rfl) rfl dX5_init_76 ?_
  refine lv_iload_n hx hb dX5_init_79 rfl (lv_at hl 0 rfl) ?_
  refine rc_new (ci := 0) (fs := [.int 0, .int 0, .int 0, .int 0, .int 0, .int 0, .int 0]) hC hw hS inX0g tyX0_ok rfl nwX5_9 (fun j hj => by rcases (show j = 0 ∨ j = 1 ∨ j = 2 ∨ j = 3 ∨ j = 4 ∨ j = 5 ∨ j = 6 by omega) with rfl | rfl | rfl | rfl | rfl | rfl | rfl <;> rfl) (by decide) (by decide) dX5_init_80 (fun H hw hS => ?_)
  obtain ⟨E20, hE20⟩ : ∃ F : Nat → va_E, F = ue E19 (o + 11) (.inr (0, [.int 0, .int 0, .int 0, .int 0, .int 0, .int 0, .int 0])) := ⟨_, rfl⟩
  have hw : Rw G (o + 12) E20 H := by rw [hE20]; exact hw
  have q0 : E20 o = .inr (5, [.ref (bb G + (o + 1)), .int 0, .ref (bb G + (o + 2)), .ref (bb G + (o + 3)), .ref (bb G + (o + 4)), .ref (bb G + (o + 5)), .ref (bb G + (o + 7)), .int 0, .int 0]) := by rw [hE20]; exact ((ue_ne _ _ (show o ≠ (o + 11) by omega)).trans q0)
  have q1 : E20 (o + 1) = .inl (G.2.1 2, 5, .inr (.inr (.inr (.inr (va_up (va_up (va_up (fun _ => none) (0 : Int32).toNatClampNeg (some (bb G + (o + 8)))) (1 : Int32).toNatClampNeg (some (bb G + (o + 9)))) (2 : Int32).toNatClampNeg (some (bb G + (o + 10)))))))) := by rw [hE20]; exact ((ue_ne _ _ (show (o + 1) ≠ (o + 11) by omega)).trans q1)
  have q2 : E20 (o + 2) = .inr (1, [.int 0, .int 0]) := by rw [hE20]; exact ((ue_ne _ _ (show (o + 2) ≠ (o + 11) by omega)).trans q2)
  have q3 : E20 (o + 3) = .inr (1, [.int 0, .int 0]) := by rw [hE20]; exact ((ue_ne _ _ (show (o + 3) ≠ (o + 11) by omega)).trans q3)
  have q4 : E20 (o + 4) = .inl (G.2.1 0, 6, .inl (fun _ => 0)) := by rw [hE20]; exact ((ue_ne _ _ (show (o + 4) ≠ (o + 11) by omega)).trans q4)
  have q5 : E20 (o + 5) = .inr (7, [.ref (bb G + (o + 6)), .int 0, .int 0, .int 0, .int 0, .int 0, .int 0]) := by rw [hE20]; exact ((ue_ne _ _ (show (o + 5) ≠ (o + 11) by omega)).trans q5)
  have q6 : E20 (o + 6) = .inl (G.2.1 0, 8, .inl (fun _ => 0)) := by rw [hE20]; exact ((ue_ne _ _ (show (o + 6) ≠ (o + 11) by omega)).trans q6)
  have q7 : E20 (o + 7) = .inr (3, [.int 0, .int 0, .int 0, .int 0, .int 0]) := by rw [hE20]; exact ((ue_ne _ _ (show (o + 7) ≠ (o + 11) by omega)).trans q7)
  have q8 : E20 (o + 8) = .inr (0, [.int 0, .int 0, .int 0, .int 0, .int 0, .int 0, .int 0]) := by rw [hE20]; exact ((ue_ne _ _ (show (o + 8) ≠ (o + 11) by omega)).trans q8)
  have q9 : E20 (o + 9) = .inr (0, [.int 0, .int 0, .int 0, .int 0, .int 0, .int 0, .int 0]) := by rw [hE20]; exact ((ue_ne _ _ (show (o + 9) ≠ (o + 11) by omega)).trans q9)
  have q10 : E20 (o + 10) = .inr (0, [.int 0, .int 0, .int 0, .int 0, .int 0, .int 0, .int 0]) := by rw [hE20]; exact ((ue_ne _ _ (show (o + 10) ≠ (o + 11) by omega)).trans q10)
  have q11 : E20 (o + 11) = .inr (0, [.int 0, .int 0, .int 0, .int 0, .int 0, .int 0, .int 0]) := by rw [hE20]; exact ue_same _ _ _
  have hlow : ∀ (a : Nat) (ha : a < o), E20 (a) = E a := fun a ha => by rw [hE20]; exact ((ue_ne _ _ (show a ≠ (o + 11) by omega)).trans (hlow a ha))
  refine lv_dup hx hb dX5_init_83 rfl ?_
  refine rc_initN hC hI (c_X0_init l G (o + 12) E20 (o + 11)) wnX5_45 ⟨rfl, rfl, by decide, by decide⟩ hw hS hl.1 (Nat.le_of_ble_eq_true rfl) dX5_init_84 ⟨by decide, by decide⟩ (fun H locs hw hS => ?_)
  refine rc_aast (t0 := 2) (r := vwCl[0]) hC hw hS (by omega) q1 rfl (by omega) q11 rfl (show vp_in (3 : Int32) 5 by unfold vp_in; decide) dX5_init_87 (fun H locs hw hS => ?_)
  obtain ⟨E21, hE21⟩ : ∃ F : Nat → va_E, F = ue E20 (o + 1) (.inl (G.2.1 2, 5, .inr (.inr (.inr (.inr (va_up (va_up (va_up (va_up (fun _ => none) (0 : Int32).toNatClampNeg (some (bb G + (o + 8)))) (1 : Int32).toNatClampNeg (some (bb G + (o + 9)))) (2 : Int32).toNatClampNeg (some (bb G + (o + 10)))) (3 : Int32).toNatClampNeg (some (bb G + (o + 11))))))))) := ⟨_, rfl⟩
  have hw : Rw G (o + 12) E21 H := by rw [hE21]; exact hw
  have q0 : E21 o = .inr (5, [.ref (bb G + (o + 1)), .int 0, .ref (bb G + (o + 2)), .ref (bb G + (o + 3)), .ref (bb G + (o + 4)), .ref (bb G + (o + 5)), .ref (bb G + (o + 7)), .int 0, .int 0]) := by rw [hE21]; exact ((ue_ne _ _ (show o ≠ (o + 1) by omega)).trans q0)
  have q2 : E21 (o + 2) = .inr (1, [.int 0, .int 0]) := by rw [hE21]; exact ((ue_ne _ _ (show (o + 2) ≠ (o + 1) by omega)).trans q2)
  have q3 : E21 (o + 3) = .inr (1, [.int 0, .int 0]) := by rw [hE21]; exact ((ue_ne _ _ (show (o + 3) ≠ (o + 1) by omega)).trans q3)
  have q4 : E21 (o + 4) = .inl (G.2.1 0, 6, .inl (fun _ => 0)) := by rw [hE21]; exact ((ue_ne _ _ (show (o + 4) ≠ (o + 1) by omega)).trans q4)
  have q5 : E21 (o + 5) = .inr (7, [.ref (bb G + (o + 6)), .int 0, .int 0, .int 0, .int 0, .int 0, .int 0]) := by rw [hE21]; exact ((ue_ne _ _ (show (o + 5) ≠ (o + 1) by omega)).trans q5)
  have q6 : E21 (o + 6) = .inl (G.2.1 0, 8, .inl (fun _ => 0)) := by rw [hE21]; exact ((ue_ne _ _ (show (o + 6) ≠ (o + 1) by omega)).trans q6)
  have q7 : E21 (o + 7) = .inr (3, [.int 0, .int 0, .int 0, .int 0, .int 0]) := by rw [hE21]; exact ((ue_ne _ _ (show (o + 7) ≠ (o + 1) by omega)).trans q7)
  have q8 : E21 (o + 8) = .inr (0, [.int 0, .int 0, .int 0, .int 0, .int 0, .int 0, .int 0]) := by rw [hE21]; exact ((ue_ne _ _ (show (o + 8) ≠ (o + 1) by omega)).trans q8)
  have q9 : E21 (o + 9) = .inr (0, [.int 0, .int 0, .int 0, .int 0, .int 0, .int 0, .int 0]) := by rw [hE21]; exact ((ue_ne _ _ (show (o + 9) ≠ (o + 1) by omega)).trans q9)
  have q10 : E21 (o + 10) = .inr (0, [.int 0, .int 0, .int 0, .int 0, .int 0, .int 0, .int 0]) := by rw [hE21]; exact ((ue_ne _ _ (show (o + 10) ≠ (o + 1) by omega)).trans q10)
  have q11 : E21 (o + 11) = .inr (0, [.int 0, .int 0, .int 0, .int 0, .int 0, .int 0, .int 0]) := by rw [hE21]; exact ((ue_ne _ _ (show (o + 11) ≠ (o + 1) by omega)).trans q11)
  have q1 : E21 (o + 1) = .inl (G.2.1 2, 5, .inr (.inr (.inr (.inr (va_up (va_up (va_up (va_up (fun _ => none) (0 : Int32).toNatClampNeg (some (bb G + (o + 8)))) (1 : Int32).toNatClampNeg (some (bb G + (o + 9)))) (2 : Int32).toNatClampNeg (some (bb G + (o + 10)))) (3 : Int32).toNatClampNeg (some (bb G + (o + 11)))))))) := by rw [hE21]; exact ue_same _ _ _
  have hlow : ∀ (a : Nat) (ha : a < o), E21 (a) = E a := fun a ha => by rw [hE21]; exact ((ue_ne _ _ (show a ≠ (o + 1) by omega)).trans (hlow a ha))
  refine lv_iinc (v := 4) (lv' := [(1, .int (4 : Int32)), (0, .ref (bb G + o))]) hx hb dX5_init_88 hl (k := 0) rfl (by decide) (by decide) rfl (fun ls hl => ?_)
  refine lv_goto (tgt := 66) hx hb dX5_init_91 (by decide) ?_
  refine lv_iload_n hx hb dX5_init_66 rfl (lv_at hl 0 rfl) ?_
  refine lv_aload_n hx hb dX5_init_67 rfl (lv_at hl 1 rfl) ?_
  refine rc_get (v := .ref (bb G + (o + 1))) hC hw inX5g rfl (by omega) q0 0 (by decide) (lg 223 (by decide +kernel) rfl) rfl dX5_init_68 ?_
  refine rc_alen (t0 := 2) (v := 5) hC hw (by omega) q1 rfl rfl dX5_init_71 ?_
  refine lv_icmp_ge (tgt := 94) hx hb dX5_init_72 (by decide) (fun hc => ?_) (fun hc => ?_)
  · exact absurd hc (by decide)
  refine lv_aload_n hx hb dX5_init_75 rfl (lv_at hl 1 rfl) ?_
  refine rc_get (v := .ref (bb G + (o + 1))) hC hw inX5g rfl (by omega) q0 0 (by decide) (lg 223 (by decide +kernel) rfl) rfl dX5_init_76 ?_
  refine lv_iload_n hx hb dX5_init_79 rfl (lv_at hl 0 rfl) ?_
  refine rc_new (ci := 0) (fs := [.int 0, .int 0, .int 0, .int 0, .int 0, .int 0, .int 0]) hC hw hS inX0g tyX0_ok rfl nwX5_9 (fun j hj => by rcases (show j = 0 ∨ j = 1 ∨ j = 2 ∨ j = 3 ∨ j = 4 ∨ j = 5 ∨ j = 6 by omega) with rfl | rfl | rfl | rfl | rfl | rfl | rfl <;> rfl) (by decide) (by decide) dX5_init_80 (fun H hw hS => ?_)
  obtain ⟨E22, hE22⟩ : ∃ F : Nat → va_E, F = ue E21 (o + 12) (.inr (0, [.int 0, .int 0, .int 0, .int 0, .int 0, .int 0, .int 0])) := ⟨_, rfl⟩
  have hw : Rw G (o + 13) E22 H := by rw [hE22]; exact hw
  have q0 : E22 o = .inr (5, [.ref (bb G + (o + 1)), .int 0, .ref (bb G + (o + 2)), .ref (bb G + (o + 3)), .ref (bb G + (o + 4)), .ref (bb G + (o + 5)), .ref (bb G + (o + 7)), .int 0, .int 0]) := by rw [hE22]; exact ((ue_ne _ _ (show o ≠ (o + 12) by omega)).trans q0)
  have q1 : E22 (o + 1) = .inl (G.2.1 2, 5, .inr (.inr (.inr (.inr (va_up (va_up (va_up (va_up (fun _ => none) (0 : Int32).toNatClampNeg (some (bb G + (o + 8)))) (1 : Int32).toNatClampNeg (some (bb G + (o + 9)))) (2 : Int32).toNatClampNeg (some (bb G + (o + 10)))) (3 : Int32).toNatClampNeg (some (bb G + (o + 11)))))))) := by rw [hE22]; exact ((ue_ne _ _ (show (o + 1) ≠ (o + 12) by omega)).trans q1)
  have q2 : E22 (o + 2) = .inr (1, [.int 0, .int 0]) := by rw [hE22]; exact ((ue_ne _ _ (show (o + 2) ≠ (o + 12) by omega)).trans q2)
  have q3 : E22 (o + 3) = .inr (1, [.int 0, .int 0]) := by rw [hE22]; exact ((ue_ne _ _ (show (o + 3) ≠ (o + 12) by omega)).trans q3)
  have q4 : E22 (o + 4) = .inl (G.2.1 0, 6, .inl (fun _ => 0)) := by rw [hE22]; exact ((ue_ne _ _ (show (o + 4) ≠ (o + 12) by omega)).trans q4)
  have q5 : E22 (o + 5) = .inr (7, [.ref (bb G + (o + 6)), .int 0, .int 0, .int 0, .int 0, .int 0, .int 0]) := by rw [hE22]; exact ((ue_ne _ _ (show (o + 5) ≠ (o + 12) by omega)).trans q5)
  have q6 : E22 (o + 6) = .inl (G.2.1 0, 8, .inl (fun _ => 0)) := by rw [hE22]; exact ((ue_ne _ _ (show (o + 6) ≠ (o + 12) by omega)).trans q6)
  have q7 : E22 (o + 7) = .inr (3, [.int 0, .int 0, .int 0, .int 0, .int 0]) := by rw [hE22]; exact ((ue_ne _ _ (show (o + 7) ≠ (o + 12) by omega)).trans q7)
  have q8 : E22 (o + 8) = .inr (0, [.int 0, .int 0, .int 0, .int 0, .int 0, .int 0, .int 0]) := by rw [hE22]; exact ((ue_ne _ _ (show (o + 8) ≠ (o + 12) by omega)).trans q8)
  have q9 : E22 (o + 9) = .inr (0, [.int 0, .int 0, .int 0, .int 0, .int 0, .int 0, .int 0]) := by rw [hE22]; exact ((ue_ne _ _ (show (o + 9) ≠ (o + 12) by omega)).trans q9)
  have q10 : E22 (o + 10) = .inr (0, [.int 0, .int 0, .int 0, .int 0, .int 0, .int 0, .int 0]) := by rw [hE22]; exact ((ue_ne _ _ (show (o + 10) ≠ (o + 12) by omega)).trans q10)
  have q11 : E22 (o + 11) = .inr (0, [.int 0, .int 0, .int 0, .int 0, .int 0, .int 0, .int 0]) := by rw [hE22]; exact ((ue_ne _ _ (show (o + 11) ≠ (o + 12) by omega)).trans q11)
  have q12 : E22 (o + 12) = .inr (0, [.int 0, .int 0, .int 0, .int 0, .int 0, .int 0, .int 0]) := by rw [hE22]; exact ue_same _ _ _
  have hlow : ∀ (a : Nat) (ha : a < o), E22 (a) = E a := fun a ha => by rw [hE22]; exact ((ue_ne _ _ (show a ≠ (o + 12) by omega)).trans (hlow a ha))
  refine lv_dup hx hb dX5_init_83 rfl ?_
  refine rc_initN hC hI (c_X0_init l G (o + 13) E22 (o + 12)) wnX5_45 ⟨rfl, rfl, by decide, by decide⟩ hw hS hl.1 (Nat.le_of_ble_eq_true rfl) dX5_init_84 ⟨by decide, by decide⟩ (fun H locs hw hS => ?_)
  refine rc_aast (t0 := 2) (r := vwCl[0]) hC hw hS (by omega) q1 rfl (by omega) q12 rfl (show vp_in (4 : Int32) 5 by unfold vp_in; decide) dX5_init_87 (fun H locs hw hS => ?_)
  obtain ⟨E23, hE23⟩ : ∃ F : Nat → va_E, F = ue E22 (o + 1) (.inl (G.2.1 2, 5, .inr (.inr (.inr (.inr (va_up (va_up (va_up (va_up (va_up (fun _ => none) (0 : Int32).toNatClampNeg (some (bb G + (o + 8)))) (1 : Int32).toNatClampNeg (some (bb G + (o + 9)))) (2 : Int32).toNatClampNeg (some (bb G + (o + 10)))) (3 : Int32).toNatClampNeg (some (bb G + (o + 11)))) (4 : Int32).toNatClampNeg (some (bb G + (o + 12))))))))) := ⟨_, rfl⟩
  have hw : Rw G (o + 13) E23 H := by rw [hE23]; exact hw
  have q0 : E23 o = .inr (5, [.ref (bb G + (o + 1)), .int 0, .ref (bb G + (o + 2)), .ref (bb G + (o + 3)), .ref (bb G + (o + 4)), .ref (bb G + (o + 5)), .ref (bb G + (o + 7)), .int 0, .int 0]) := by rw [hE23]; exact ((ue_ne _ _ (show o ≠ (o + 1) by omega)).trans q0)
  have q2 : E23 (o + 2) = .inr (1, [.int 0, .int 0]) := by rw [hE23]; exact ((ue_ne _ _ (show (o + 2) ≠ (o + 1) by omega)).trans q2)
  have q3 : E23 (o + 3) = .inr (1, [.int 0, .int 0]) := by rw [hE23]; exact ((ue_ne _ _ (show (o + 3) ≠ (o + 1) by omega)).trans q3)
  have q4 : E23 (o + 4) = .inl (G.2.1 0, 6, .inl (fun _ => 0)) := by rw [hE23]; exact ((ue_ne _ _ (show (o + 4) ≠ (o + 1) by omega)).trans q4)
  have q5 : E23 (o + 5) = .inr (7, [.ref (bb G + (o + 6)), .int 0, .int 0, .int 0, .int 0, .int 0, .int 0]) := by rw [hE23]; exact ((ue_ne _ _ (show (o + 5) ≠ (o + 1) by omega)).trans q5)
  have q6 : E23 (o + 6) = .inl (G.2.1 0, 8, .inl (fun _ => 0)) := by rw [hE23]; exact ((ue_ne _ _ (show (o + 6) ≠ (o + 1) by omega)).trans q6)
  have q7 : E23 (o + 7) = .inr (3, [.int 0, .int 0, .int 0, .int 0, .int 0]) := by rw [hE23]; exact ((ue_ne _ _ (show (o + 7) ≠ (o + 1) by omega)).trans q7)
  have q8 : E23 (o + 8) = .inr (0, [.int 0, .int 0, .int 0, .int 0, .int 0, .int 0, .int 0]) := by rw [hE23]; exact ((ue_ne _ _ (show (o + 8) ≠ (o + 1) by omega)).trans q8)
  have q9 : E23 (o + 9) = .inr (0, [.int 0, .int 0, .int 0, .int 0, .int 0, .int 0, .int 0]) := by rw [hE23]; exact ((ue_ne _ _ (show (o + 9) ≠ (o + 1) by omega)).trans q9)
  have q10 : E23 (o + 10) = .inr (0, [.int 0, .int 0, .int 0, .int 0, .int 0, .int 0, .int 0]) := by rw [hE23]; exact ((ue_ne _ _ (show (o + 10) ≠ (o + 1) by omega)).trans q10)
  have q11 : E23 (o + 11) = .inr (0, [.int 0, .int 0, .int 0, .int 0, .int 0, .int 0, .int 0]) := by rw [hE23]; exact ((ue_ne _ _ (show (o + 11) ≠ (o + 1) by omega)).trans q11)
  have q12 : E23 (o + 12) = .inr (0, [.int 0, .int 0, .int 0, .int 0, .int 0, .int 0, .int 0]) := by rw [hE23]; exact ((ue_ne _ _ (show (o + 12) ≠ (o + 1) by omega)).trans q12)
  have q1 : E23 (o + 1) = .inl (G.2.1 2, 5, .inr (.inr (.inr (.inr (va_up (va_up (va_up (va_up (va_up (fun _ => none) (0 : Int32).toNatClampNeg (some (bb G + (o + 8)))) (1 : Int32).toNatClampNeg (some (bb G + (o + 9)))) (2 : Int32).toNatClampNeg (some (bb G + (o + 10)))) (3 : Int32).toNatClampNeg (some (bb G + (o + 11)))) (4 : Int32).toNatClampNeg (some (bb G + (o + 12)))))))) := by rw [hE23]; exact ue_same _ _ _
  have hlow : ∀ (a : Nat) (ha : a < o), E23 (a) = E a := fun a ha => by rw [hE23]; exact ((ue_ne _ _ (show a ≠ (o + 1) by omega)).trans (hlow a ha))
  refine lv_iinc (v := 5) (lv' := [(1, .int (5 : Int32)), (0, .ref (bb G + o))]) hx hb dX5_init_88 hl (k := 0) rfl (by decide) (by decide) rfl (fun ls hl => ?_)
  refine lv_goto (tgt := 66) hx hb dX5_init_91 (by decide) ?_
  refine lv_iload_n hx hb dX5_init_66 rfl (lv_at hl 0 rfl) ?_
  refine lv_aload_n hx hb dX5_init_67 rfl (lv_at hl 1 rfl) ?_
  refine rc_get (v := .ref (bb G + (o + 1))) hC hw inX5g rfl (by omega) q0 0 (by decide) (lg 223 (by decide +kernel) rfl) rfl dX5_init_68 ?_
  refine rc_alen (t0 := 2) (v := 5) hC hw (by omega) q1 rfl rfl dX5_init_71 ?_
  refine lv_icmp_ge (tgt := 94) hx hb dX5_init_72 (by decide) (fun hc => ?_) (fun hc => ?_)
  rotate_left
  · exact (hc (by decide)).elim
  refine m_vretI hC hr hlk hw hS (fun a ha H h => ?_) dX5_init_94
  rcases Nat.lt_or_ge a o with h1 | h1
  · rw [pE_lt _ _ h1, ← hlow a h1]; exact h
  obtain ⟨j, rfl⟩ : ∃ j, a = o + j := ⟨a - o, by omega⟩
  rw [pE_at]
  rcases (show j = 0 ∨ j = 1 ∨ j = 2 ∨ j = 3 ∨ j = 4 ∨ j = 5 ∨ j = 6 ∨ j = 7 ∨ j = 8 ∨ j = 9 ∨ j = 10 ∨ j = 11 ∨ j = 12 by omega) with rfl | rfl | rfl | rfl | rfl | rfl | rfl | rfl | rfl | rfl | rfl | rfl | rfl
  · rw [show E23 (o + 0) = _ from q0] at h; exact h
  · rw [q1] at h; exact at_q (fun j hj => by rcases (show j = 0 ∨ j = 1 ∨ j = 2 ∨ j = 3 ∨ j = 4 by omega) with rfl | rfl | rfl | rfl | rfl <;> rfl) h
  · rw [q2] at h; exact h
  · rw [q3] at h; exact h
  · rw [q4] at h; exact at_i (fun j hj => by rw [tr_lt _ hj]; rfl) h
  · rw [q5] at h; exact h
  · rw [q6] at h; exact at_i (fun j hj => by rw [tr_lt _ hj]; rfl) h
  · rw [q7] at h; exact h
  · rw [q8] at h; exact h
  · rw [q9] at h; exact h
  · rw [q10] at h; exact h
  · rw [q11] at h; exact h
  · rw [q12] at h; exact h
set_option maxHeartbeats 4000000 in
set_option maxRecDepth 100000 in
theorem c_X6_init (l : Launch) (G : GG) (o : Nat) (E : Nat → va_E) (he : E o = .inr (6, [.null, .int 0])) : CtI l yX6_init cX6_init 1 (rmX 3 57 13 79) 13 79 G (o + 1) E o (o + 14) (sE G E o) := by
  refine CtI.of (by decide) (Nat.le_of_ble_eq_true rfl) ?_
  intro p e s m below meth c ls hC hI hnm hr hlk hw hl
  have hx := hC.1
  have hb := hC.2.1
  have hS : LW G s s.heap [] := va_S.rf
  have q0 := he
  have hlow : ∀ (a : Nat) (ha : a < o), E a = E a := fun a _ => rfl
  refine lv_aload_n hx hb dX6_init_0 rfl (lv_at hl 0 rfl) ?_
  refine rc_obj hC oiX6 hl.1 dX6_init_1 (by decide) (by decide) ?_
  refine lv_aload_n hx hb dX6_init_4 rfl (lv_at hl 0 rfl) ?_
  refine rc_new (ci := 5) (fs := [.null, .int 0, .null, .null, .null, .null, .null, .int 0, .int 0]) hC hw hS inX5g tyX5_ok rfl nwX6_7 (fun j hj => by rcases (show j = 0 ∨ j = 1 ∨ j = 2 ∨ j = 3 ∨ j = 4 ∨ j = 5 ∨ j = 6 ∨ j = 7 ∨ j = 8 by omega) with rfl | rfl | rfl | rfl | rfl | rfl | rfl | rfl | rfl <;> rfl) (by decide) (by decide) dX6_init_5 (fun H hw hS => ?_)
  obtain ⟨E1, hE1⟩ : ∃ F : Nat → va_E, F = ue E (o + 1) (.inr (5, [.null, .int 0, .null, .null, .null, .null, .null, .int 0, .int 0])) := ⟨_, rfl⟩
  have hw : Rw G (o + 2) E1 H := by rw [hE1]; exact hw
  have q0 : E1 o = .inr (6, [.null, .int 0]) := by rw [hE1]; exact ((ue_ne _ _ (show o ≠ (o + 1) by omega)).trans q0)
  have q1 : E1 (o + 1) = .inr (5, [.null, .int 0, .null, .null, .null, .null, .null, .int 0, .int 0]) := by rw [hE1]; exact ue_same _ _ _
  have hlow : ∀ (a : Nat) (ha : a < o), E1 (a) = E a := fun a ha => by rw [hE1]; exact ((ue_ne _ _ (show a ≠ (o + 1) by omega)).trans (hlow a ha))
  refine lv_dup hx hb dX6_init_8 rfl ?_
  refine rc_init hC hI (c_X5_init l G (o + 1) E1 q1) wiX6_9 ⟨rfl, rfl, by decide, by decide⟩ hw hS hl.1 (Nat.le_of_ble_eq_true rfl) dX6_init_9 ⟨by decide, by decide⟩ (fun H locs hw hS => ?_)
  obtain ⟨E2, hE2⟩ : ∃ F : Nat → va_E, F = pE G E1 (o + 1) := ⟨_, rfl⟩
  have hw : Rw G (o + 14) E2 H := by rw [hE2]; exact hw
  have q0 : E2 o = .inr (6, [.null, .int 0]) := by rw [hE2]; exact ((pE_lt _ _ (show o < (o + 1) by omega)).trans q0)
  have q1 : E2 (o + 1) = .inr (5, [.ref (bb G + ((o + 1) + 1)), .int (z0 65), .ref (bb G + ((o + 1) + 2)), .ref (bb G + ((o + 1) + 3)), .ref (bb G + ((o + 1) + 4)), .ref (bb G + ((o + 1) + 5)), .ref (bb G + ((o + 1) + 7)), .int (z0 6), .int (z0 7)]) := by rw [hE2]; exact pE_at G E1 (o + 1) 0
  have hlow : ∀ (a : Nat) (ha : a < o), E2 (a) = E a := fun a ha => by rw [hE2]; exact ((pE_lt _ _ (show a < (o + 1) by omega)).trans (hlow a ha))
  have hp1 : ∀ (j : Nat) (hj : j < 13), E2 ((o + 1) + j) = plantC G (o + 1) z0 j := fun j hj => by rw [hE2]; exact pE_at G E1 (o + 1) j
  refine rc_putF (v := .ref (bb G + (o + 1))) hC hw hS inX6g tyX6_ok nmX6 rfl (by omega) q0 0 (by decide) (lg 286 (by decide +kernel) rfl) rfl hnm rfl rfl rfl (Nat.le_of_ble_eq_true rfl) dX6_init_12 (fun H locs hw hS => ?_)
  obtain ⟨E3, hE3⟩ : ∃ F : Nat → va_E, F = ue E2 o (.inr (6, [.ref (bb G + (o + 1)), .int 0])) := ⟨_, rfl⟩
  have hw : Rw G (o + 14) E3 H := by rw [hE3]; exact hw
  have q1 : E3 (o + 1) = .inr (5, [.ref (bb G + ((o + 1) + 1)), .int (z0 65), .ref (bb G + ((o + 1) + 2)), .ref (bb G + ((o + 1) + 3)), .ref (bb G + ((o + 1) + 4)), .ref (bb G + ((o + 1) + 5)), .ref (bb G + ((o + 1) + 7)), .int (z0 6), .int (z0 7)]) := by rw [hE3]; exact ((ue_ne _ _ (show (o + 1) ≠ o by omega)).trans q1)
  have q0 : E3 o = .inr (6, [.ref (bb G + (o + 1)), .int 0]) := by rw [hE3]; exact ue_same _ _ _
  have hlow : ∀ (a : Nat) (ha : a < o), E3 (a) = E a := fun a ha => by rw [hE3]; exact ((ue_ne _ _ (show a ≠ o by omega)).trans (hlow a ha))
  have hp1 : ∀ (j : Nat) (hj : j < 13), E3 ((o + 1) + j) = plantC G (o + 1) z0 j := fun j hj => by rw [hE3]; exact ((ue_ne _ _ (show (o + 1) + j ≠ o by omega)).trans (hp1 j hj))
  refine m_vretI hC hr hlk hw hS (fun a ha H h => ?_) dX6_init_15
  rcases (show a < o ∨ a = o ∨ ∃ j, j < 13 ∧ a = o + 1 + j by rcases Nat.lt_or_ge o a with q | q; exact Or.inr (Or.inr ⟨a - (o + 1), by omega, by omega⟩); omega) with h1 | rfl | ⟨j, hj, rfl⟩
  · rw [sE_lt _ _ h1, ← hlow a h1]; exact h
  · rw [sE_0]; rw [q0] at h; exact h
  · rw [sE_at, ← hp1 j hj]; exact h
set_option maxHeartbeats 4000000 in
set_option maxRecDepth 100000 in
theorem c_X4_fillR (l : Launch) (G : GG) (o : Nat) (E : Nat → va_E) (he : E o = .inr (4, [.ref (bb G + (o + 1)), .int 0, .int 4, .int 50, .int 50, .int 1, .ref (bb G + (o + 2)), .ref (bb G + (o + 3)), .ref (bb G + (o + 4)), .int 0, .int 0])) (he4 : E (o + 4) = .inl (G.2.1 0, 8, .inl (fun _ => 0))) : CtI l yX4_fillTemperatures cX4_fillTemperatures 2 (rmX 0 0 0 0) 0 0 G (o + 5) E o (o + 5) (ue E (o + 4) (.inl (G.2.1 0, 8, .inl (fun j => if j < 8 then 40 else 0)))) := by
  refine CtI.of (by decide) (Nat.le_of_ble_eq_true rfl) ?_
  intro p e s m below meth c ls hC hI hnm hr hlk hw hl
  have hx := hC.1
  have hb := hC.2.1
  have hS : LW G s s.heap [] := va_S.rf
  have q0 := he
  have q4 := he4
  have hoth : ∀ (a : Nat) (ha : a ≠ o + 4), E a = E a := fun a _ => rfl
  refine lv_iconst (v := 0) hx hb dX4_fillTemperatures_0 (by decide) ?_
  refine lv_istore_n (lv' := [(1, .int (0 : Int32)), (0, .ref (bb G + o))]) hx hb dX4_fillTemperatures_1 rfl hl (by decide) rfl (fun ls hl => ?_)
  refine lv_iload_n hx hb dX4_fillTemperatures_2 rfl (lv_at hl 0 rfl) ?_
  refine lv_aload_n hx hb dX4_fillTemperatures_3 rfl (lv_at hl 1 rfl) ?_
  refine rc_get (v := .ref (bb G + (o + 4))) hC hw inX4g rfl (by omega) q0 8 (by decide) (lg 67 (by decide +kernel) rfl) rfl dX4_fillTemperatures_4 ?_
  refine rc_alen (t0 := 0) (v := 8) hC hw (by omega) q4 rfl rfl dX4_fillTemperatures_7 ?_
  refine lv_icmp_ge (tgt := 25) hx hb dX4_fillTemperatures_8 (by decide) (fun hc => ?_) (fun hc => ?_)
  · exact absurd hc (by decide)
  refine lv_aload_n hx hb dX4_fillTemperatures_11 rfl (lv_at hl 1 rfl) ?_
  refine rc_get (v := .ref (bb G + (o + 4))) hC hw inX4g rfl (by omega) q0 8 (by decide) (lg 67 (by decide +kernel) rfl) rfl dX4_fillTemperatures_12 ?_
  refine lv_iload_n hx hb dX4_fillTemperatures_15 rfl (lv_at hl 0 rfl) ?_
  refine lv_bipush (v := 40) hx hb dX4_fillTemperatures_16 (by decide) ?_
  refine rc_iast hC hw hS (by omega) q4 (show vp_in (0 : Int32) 8 by unfold vp_in; decide) dX4_fillTemperatures_18 (fun H locs hw hS => ?_)
  obtain ⟨E1, hE1⟩ : ∃ F : Nat → va_E, F = ue E (o + 4) (.inl (G.2.1 0, 8, .inl (upd (fun _ => 0) (0 : Int32).toNatClampNeg (40 : Int32)))) := ⟨_, rfl⟩
  have hw : Rw G (o + 5) E1 H := by rw [hE1]; exact hw
  have q0 : E1 o = .inr (4, [.ref (bb G + (o + 1)), .int 0, .int 4, .int 50, .int 50, .int 1, .ref (bb G + (o + 2)), .ref (bb G + (o + 3)), .ref (bb G + (o + 4)), .int 0, .int 0]) := by rw [hE1]; exact ((ue_ne _ _ (show o ≠ (o + 4) by omega)).trans q0)
  have q4 : E1 (o + 4) = .inl (G.2.1 0, 8, .inl (upd (fun _ => 0) (0 : Int32).toNatClampNeg (40 : Int32))) := by rw [hE1]; exact ue_same _ _ _
  have hoth : ∀ (a : Nat) (ha : a ≠ o + 4), E1 (a) = E a := fun a ha => by rw [hE1]; exact ((ue_ne _ _ (show a ≠ (o + 4) by omega)).trans (hoth a ha))
  refine lv_iinc (v := 1) (lv' := [(1, .int (1 : Int32)), (0, .ref (bb G + o))]) hx hb dX4_fillTemperatures_19 hl (k := 0) rfl (by decide) (by decide) rfl (fun ls hl => ?_)
  refine lv_goto (tgt := 2) hx hb dX4_fillTemperatures_22 (by decide) ?_
  refine lv_iload_n hx hb dX4_fillTemperatures_2 rfl (lv_at hl 0 rfl) ?_
  refine lv_aload_n hx hb dX4_fillTemperatures_3 rfl (lv_at hl 1 rfl) ?_
  refine rc_get (v := .ref (bb G + (o + 4))) hC hw inX4g rfl (by omega) q0 8 (by decide) (lg 67 (by decide +kernel) rfl) rfl dX4_fillTemperatures_4 ?_
  refine rc_alen (t0 := 0) (v := 8) hC hw (by omega) q4 rfl rfl dX4_fillTemperatures_7 ?_
  refine lv_icmp_ge (tgt := 25) hx hb dX4_fillTemperatures_8 (by decide) (fun hc => ?_) (fun hc => ?_)
  · exact absurd hc (by decide)
  refine lv_aload_n hx hb dX4_fillTemperatures_11 rfl (lv_at hl 1 rfl) ?_
  refine rc_get (v := .ref (bb G + (o + 4))) hC hw inX4g rfl (by omega) q0 8 (by decide) (lg 67 (by decide +kernel) rfl) rfl dX4_fillTemperatures_12 ?_
  refine lv_iload_n hx hb dX4_fillTemperatures_15 rfl (lv_at hl 0 rfl) ?_
  refine lv_bipush (v := 40) hx hb dX4_fillTemperatures_16 (by decide) ?_
  refine rc_iast hC hw hS (by omega) q4 (show vp_in (1 : Int32) 8 by unfold vp_in; decide) dX4_fillTemperatures_18 (fun H locs hw hS => ?_)
  obtain ⟨E2, hE2⟩ : ∃ F : Nat → va_E, F = ue E1 (o + 4) (.inl (G.2.1 0, 8, .inl (upd (upd (fun _ => 0) (0 : Int32).toNatClampNeg (40 : Int32)) (1 : Int32).toNatClampNeg (40 : Int32)))) := ⟨_, rfl⟩
  have hw : Rw G (o + 5) E2 H := by rw [hE2]; exact hw
  have q0 : E2 o = .inr (4, [.ref (bb G + (o + 1)), .int 0, .int 4, .int 50, .int 50, .int 1, .ref (bb G + (o + 2)), .ref (bb G + (o + 3)), .ref (bb G + (o + 4)), .int 0, .int 0]) := by rw [hE2]; exact ((ue_ne _ _ (show o ≠ (o + 4) by omega)).trans q0)
  have q4 : E2 (o + 4) = .inl (G.2.1 0, 8, .inl (upd (upd (fun _ => 0) (0 : Int32).toNatClampNeg (40 : Int32)) (1 : Int32).toNatClampNeg (40 : Int32))) := by rw [hE2]; exact ue_same _ _ _
  have hoth : ∀ (a : Nat) (ha : a ≠ o + 4), E2 (a) = E a := fun a ha => by rw [hE2]; exact ((ue_ne _ _ (show a ≠ (o + 4) by omega)).trans (hoth a ha))
  refine lv_iinc (v := 2) (lv' := [(1, .int (2 : Int32)), (0, .ref (bb G + o))]) hx hb dX4_fillTemperatures_19 hl (k := 0) rfl (by decide) (by decide) rfl (fun ls hl => ?_)
  refine lv_goto (tgt := 2) hx hb dX4_fillTemperatures_22 (by decide) ?_
  refine lv_iload_n hx hb dX4_fillTemperatures_2 rfl (lv_at hl 0 rfl) ?_
  refine lv_aload_n hx hb dX4_fillTemperatures_3 rfl (lv_at hl 1 rfl) ?_
  refine rc_get (v := .ref (bb G + (o + 4))) hC hw inX4g rfl (by omega) q0 8 (by decide) (lg 67 (by decide +kernel) rfl) rfl dX4_fillTemperatures_4 ?_
  refine rc_alen (t0 := 0) (v := 8) hC hw (by omega) q4 rfl rfl dX4_fillTemperatures_7 ?_
  refine lv_icmp_ge (tgt := 25) hx hb dX4_fillTemperatures_8 (by decide) (fun hc => ?_) (fun hc => ?_)
  · exact absurd hc (by decide)
  refine lv_aload_n hx hb dX4_fillTemperatures_11 rfl (lv_at hl 1 rfl) ?_
  refine rc_get (v := .ref (bb G + (o + 4))) hC hw inX4g rfl (by omega) q0 8 (by decide) (lg 67 (by decide +kernel) rfl) rfl dX4_fillTemperatures_12 ?_
  refine lv_iload_n hx hb dX4_fillTemperatures_15 rfl (lv_at hl 0 rfl) ?_
  refine lv_bipush (v := 40) hx hb dX4_fillTemperatures_16 (by decide) ?_
  refine rc_iast hC hw hS (by omega) q4 (show vp_in (2 : Int32) 8 by unfold vp_in; decide) dX4_fillTemperatures_18 (fun H locs hw hS => ?_)
  obtain ⟨E3, hE3⟩ : ∃ F : Nat → va_E, F = ue E2 (o + 4) (.inl (G.2.1 0, 8, .inl (upd (upd (upd (fun _ => 0) (0 : Int32).toNatClampNeg (40 : Int32)) (1 : Int32).toNatClampNeg (40 : Int32)) (2 : Int32).toNatClampNeg (40 : Int32)))) := ⟨_, rfl⟩
  have hw : Rw G (o + 5) E3 H := by rw [hE3]; exact hw
  have q0 : E3 o = .inr (4, [.ref (bb G + (o + 1)), .int 0, .int 4, .int 50, .int 50, .int 1, .ref (bb G + (o + 2)), .ref (bb G + (o + 3)), .ref (bb G + (o + 4)), .int 0, .int 0]) := by rw [hE3]; exact ((ue_ne _ _ (show o ≠ (o + 4) by omega)).trans q0)
  have q4 : E3 (o + 4) = .inl (G.2.1 0, 8, .inl (upd (upd (upd (fun _ => 0) (0 : Int32).toNatClampNeg (40 : Int32)) (1 : Int32).toNatClampNeg (40 : Int32)) (2 : Int32).toNatClampNeg (40 : Int32))) := by rw [hE3]; exact ue_same _ _ _
  have hoth : ∀ (a : Nat) (ha : a ≠ o + 4), E3 (a) = E a := fun a ha => by rw [hE3]; exact ((ue_ne _ _ (show a ≠ (o + 4) by omega)).trans (hoth a ha))
  refine lv_iinc (v := 3) (lv' := [(1, .int (3 : Int32)), (0, .ref (bb G + o))]) hx hb dX4_fillTemperatures_19 hl (k := 0) rfl (by decide) (by decide) rfl (fun ls hl => ?_)
  refine lv_goto (tgt := 2) hx hb dX4_fillTemperatures_22 (by decide) ?_
  refine lv_iload_n hx hb dX4_fillTemperatures_2 rfl (lv_at hl 0 rfl) ?_
  refine lv_aload_n hx hb dX4_fillTemperatures_3 rfl (lv_at hl 1 rfl) ?_
  refine rc_get (v := .ref (bb G + (o + 4))) hC hw inX4g rfl (by omega) q0 8 (by decide) (lg 67 (by decide +kernel) rfl) rfl dX4_fillTemperatures_4 ?_
  refine rc_alen (t0 := 0) (v := 8) hC hw (by omega) q4 rfl rfl dX4_fillTemperatures_7 ?_
  refine lv_icmp_ge (tgt := 25) hx hb dX4_fillTemperatures_8 (by decide) (fun hc => ?_) (fun hc => ?_)
  · exact absurd hc (by decide)
  refine lv_aload_n hx hb dX4_fillTemperatures_11 rfl (lv_at hl 1 rfl) ?_
  refine rc_get (v := .ref (bb G + (o + 4))) hC hw inX4g rfl (by omega) q0 8 (by decide) (lg 67 (by decide +kernel) rfl) rfl dX4_fillTemperatures_12 ?_
  refine lv_iload_n hx hb dX4_fillTemperatures_15 rfl (lv_at hl 0 rfl) ?_
  refine lv_bipush (v := 40) hx hb dX4_fillTemperatures_16 (by decide) ?_
  refine rc_iast hC hw hS (by omega) q4 (show vp_in (3 : Int32) 8 by unfold vp_in; decide) dX4_fillTemperatures_18 (fun H locs hw hS => ?_)
  obtain ⟨E4, hE4⟩ : ∃ F : Nat → va_E, F = ue E3 (o + 4) (.inl (G.2.1 0, 8, .inl (upd (upd (upd (upd (fun _ => 0) (0 : Int32).toNatClampNeg (40 : Int32)) (1 : Int32).toNatClampNeg (40 : Int32)) (2 : Int32).toNatClampNeg (40 : Int32)) (3 : Int32).toNatClampNeg (40 : Int32)))) := ⟨_, rfl⟩
  have hw : Rw G (o + 5) E4 H := by rw [hE4]; exact hw
  have q0 : E4 o = .inr (4, [.ref (bb G + (o + 1)), .int 0, .int 4, .int 50, .int 50, .int 1, .ref (bb G + (o + 2)), .ref (bb G + (o + 3)), .ref (bb G + (o + 4)), .int 0, .int 0]) := by rw [hE4]; exact ((ue_ne _ _ (show o ≠ (o + 4) by omega)).trans q0)
  have q4 : E4 (o + 4) = .inl (G.2.1 0, 8, .inl (upd (upd (upd (upd (fun _ => 0) (0 : Int32).toNatClampNeg (40 : Int32)) (1 : Int32).toNatClampNeg (40 : Int32)) (2 : Int32).toNatClampNeg (40 : Int32)) (3 : Int32).toNatClampNeg (40 : Int32))) := by rw [hE4]; exact ue_same _ _ _
  have hoth : ∀ (a : Nat) (ha : a ≠ o + 4), E4 (a) = E a := fun a ha => by rw [hE4]; exact ((ue_ne _ _ (show a ≠ (o + 4) by omega)).trans (hoth a ha))
  refine lv_iinc (v := 4) (lv' := [(1, .int (4 : Int32)), (0, .ref (bb G + o))]) hx hb dX4_fillTemperatures_19 hl (k := 0) rfl (by decide) (by decide) rfl (fun ls hl => ?_)
  refine lv_goto (tgt := 2) hx hb dX4_fillTemperatures_22 (by decide) ?_
  refine lv_iload_n hx hb dX4_fillTemperatures_2 rfl (lv_at hl 0 rfl) ?_
  refine lv_aload_n hx hb dX4_fillTemperatures_3 rfl (lv_at hl 1 rfl) ?_
  refine rc_get (v := .ref (bb G + (o + 4))) hC hw inX4g rfl (by omega) q0 8 (by decide) (lg 67 (by decide +kernel) rfl) rfl dX4_fillTemperatures_4 ?_
  refine rc_alen (t0 := 0) (v := 8) hC hw (by omega) q4 rfl rfl dX4_fillTemperatures_7 ?_
  refine lv_icmp_ge (tgt := 25) hx hb dX4_fillTemperatures_8 (by decide) (fun hc => ?_) (fun hc => ?_)
  · exact absurd hc (by decide)
  refine lv_aload_n hx hb dX4_fillTemperatures_11 rfl (lv_at hl 1 rfl) ?_
  refine rc_get (v := .ref (bb G + (o + 4))) hC hw inX4g rfl (by omega) q0 8 (by decide) (lg 67 (by decide +kernel) rfl) rfl dX4_fillTemperatures_12 ?_
  refine lv_iload_n hx hb dX4_fillTemperatures_15 rfl (lv_at hl 0 rfl) ?_
  refine lv_bipush (v := 40) hx hb dX4_fillTemperatures_16 (by decide) ?_
  refine rc_iast hC hw hS (by omega) q4 (show vp_in (4 : Int32) 8 by unfold vp_in; decide) dX4_fillTemperatures_18 (fun H locs hw hS => ?_)
  obtain ⟨E5, hE5⟩ : ∃ F : Nat → va_E, F = ue E4 (o + 4) (.inl (G.2.1 0, 8, .inl (upd (upd (upd (upd (upd (fun _ => 0) (0 : Int32).toNatClampNeg (40 : Int32)) (1 : Int32).toNatClampNeg (40 : Int32)) (2 : Int32).toNatClampNeg (40 : Int32)) (3 : Int32).toNatClampNeg (40 : Int32)) (4 : Int32).toNatClampNeg (40 : Int32)))) := ⟨_, rfl⟩
  have hw : Rw G (o + 5) E5 H := by rw [hE5]; exact hw
  have q0 : E5 o = .inr (4, [.ref (bb G + (o + 1)), .int 0, .int 4, .int 50, .int 50, .int 1, .ref (bb G + (o + 2)), .ref (bb G + (o + 3)), .ref (bb G + (o + 4)), .int 0, .int 0]) := by rw [hE5]; exact ((ue_ne _ _ (show o ≠ (o + 4) by omega)).trans q0)
  have q4 : E5 (o + 4) = .inl (G.2.1 0, 8, .inl (upd (upd (upd (upd (upd (fun _ => 0) (0 : Int32).toNatClampNeg (40 : Int32)) (1 : Int32).toNatClampNeg (40 : Int32)) (2 : Int32).toNatClampNeg (40 : Int32)) (3 : Int32).toNatClampNeg (40 : Int32)) (4 : Int32).toNatClampNeg (40 : Int32))) := by rw [hE5]; exact ue_same _ _ _
  have hoth : ∀ (a : Nat) (ha : a ≠ o + 4), E5 (a) = E a := fun a ha => by rw [hE5]; exact ((ue_ne _ _ (show a ≠ (o + 4) by omega)).trans (hoth a ha))
  refine lv_iinc (v := 5) (lv' := [(1, .int (5 : Int32)), (0, .ref (bb G + o))]) hx hb dX4_fillTemperatures_19 hl (k := 0) rfl (by decide) (by decide) rfl (fun ls hl => ?_)
  refine lv_goto (tgt := 2) hx hb dX4_fillTemperatures_22 (by decide) ?_
  refine lv_iload_n hx hb dX4_fillTemperatures_2 rfl (lv_at hl 0 rfl) ?_
  refine lv_aload_n hx hb dX4_fillTemperatures_3 rfl (lv_at hl 1 rfl) ?_
  refine rc_get (v := .ref (bb G + (o + 4))) hC hw inX4g rfl (by omega) q0 8 (by decide) (lg 67 (by decide +kernel) rfl) rfl dX4_fillTemperatures_4 ?_
  refine rc_alen (t0 := 0) (v := 8) hC hw (by omega) q4 rfl rfl dX4_fillTemperatures_7 ?_
  refine lv_icmp_ge (tgt := 25) hx hb dX4_fillTemperatures_8 (by decide) (fun hc => ?_) (fun hc => ?_)
  · exact absurd hc (by decide)
  refine lv_aload_n hx hb dX4_fillTemperatures_11 rfl (lv_at hl 1 rfl) ?_
  refine rc_get (v := .ref (bb G + (o + 4))) hC hw inX4g rfl (by omega) q0 8 (by decide) (lg 67 (by decide +kernel) rfl) rfl dX4_fillTemperatures_12 ?_
  refine lv_iload_n hx hb dX4_fillTemperatures_15 rfl (lv_at hl 0 rfl) ?_
  refine lv_bipush (v := 40) hx hb dX4_fillTemperatures_16 (by decide) ?_
  refine rc_iast hC hw hS (by omega) q4 (show vp_in (5 : Int32) 8 by unfold vp_in; decide) dX4_fillTemperatures_18 (fun H locs hw hS => ?_)
  obtain ⟨E6, hE6⟩ : ∃ F : Nat → va_E, F = ue E5 (o + 4) (.inl (G.2.1 0, 8, .inl (upd (upd (upd (upd (upd (upd (fun _ => 0) (0 : Int32).toNatClampNeg (40 : Int32)) (1 : Int32).toNatClampNeg (40 : Int32)) (2 : Int32).toNatClampNeg (40 : Int32)) (3 : Int32).toNatClampNeg (40 : Int32)) (4 : Int32).toNatClampNeg (40 : Int32)) (5 : Int32).toNatClampNeg (40 : Int32)))) := ⟨_, rfl⟩
  have hw : Rw G (o + 5) E6 H := by rw [hE6]; exact hw
  have q0 : E6 o = .inr (4, [.ref (bb G + (o + 1)), .int 0, .int 4, .int 50, .int 50, .int 1, .ref (bb G + (o + 2)), .ref (bb G + (o + 3)), .ref (bb G + (o + 4)), .int 0, .int 0]) := by rw [hE6]; exact ((ue_ne _ _ (show o ≠ (o + 4) by omega)).trans q0)
  have q4 : E6 (o + 4) = .inl (G.2.1 0, 8, .inl (upd (upd (upd (upd (upd (upd (fun _ => 0) (0 : Int32).toNatClampNeg (40 : Int32)) (1 : Int32).toNatClampNeg (40 : Int32)) (2 : Int32).toNatClampNeg (40 : Int32)) (3 : Int32).toNatClampNeg (40 : Int32)) (4 : Int32).toNatClampNeg (40 : Int32)) (5 : Int32).toNatClampNeg (40 : Int32))) := by rw [hE6]; exact ue_same _ _ _
  have hoth : ∀ (a : Nat) (ha : a ≠ o + 4), E6 (a) = E a := fun a ha => by rw [hE6]; exact ((ue_ne _ _ (show a ≠ (o + 4) by omega)).trans (hoth a ha))
  refine lv_iinc (v := 6) (lv' := [(1, .int (6 : Int32)), (0, .ref (bb G + o))]) hx hb dX4_fillTemperatures_19 hl (k := 0) rfl (by decide) (by decide) rfl (fun ls hl => ?_)
  refine lv_goto (tgt := 2) hx hb dX4_fillTemperatures_22 (by decide) ?_
  refine lv_iload_n hx hb dX4_fillTemperatures_2 rfl (lv_at hl 0 rfl) ?_
  refine lv_aload_n hx hb dX4_fillTemperatures_3 rfl (lv_at hl 1 rfl) ?_
  refine rc_get (v := .ref (bb G + (o + 4))) hC hw inX4g rfl (by omega) q0 8 (by decide) (lg 67 (by decide +kernel) rfl) rfl dX4_fillTemperatures_4 ?_
  refine rc_alen (t0 := 0) (v := 8) hC hw (by omega) q4 rfl rfl dX4_fillTemperatures_7 ?_
  refine lv_icmp_ge (tgt := 25) hx hb dX4_fillTemperatures_8 (by decide) (fun hc => ?_) (fun hc => ?_)
  · exact absurd hc (by decide)
  refine lv_aload_n hx hb dX4_fillTemperatures_11 rfl (lv_at hl 1 rfl) ?_
  refine rc_get (v := .ref (bb G + (o + 4))) hC hw inX4g rfl (by omega) q0 8 (by decide) (lg 67 (by decide +kernel) rfl) rfl dX4_fillTemperatures_12 ?_
  refine lv_iload_n hx hb dX4_fillTemperatures_15 rfl (lv_at hl 0 rfl) ?_
  refine lv_bipush (v := 40) hx hb dX4_fillTemperatures_16 (by decide) ?_
  refine rc_iast hC hw hS (by omega) q4 (show vp_in (6 : Int32) 8 by unfold vp_in; decide) dX4_fillTemperatures_18 (fun H locs hw hS => ?_)
  obtain ⟨E7, hE7⟩ : ∃ F : Nat → va_E, F = ue E6 (o + 4) (.inl (G.2.1 0, 8, .inl (upd (upd (upd (upd (upd (upd (upd (fun _ => 0) (0 : Int32).toNatClampNeg (40 : Int32)) (1 : Int32).toNatClampNeg (40 : Int32)) (2 : Int32).toNatClampNeg (40 : Int32)) (3 : Int32).toNatClampNeg (40 : Int32)) (4 : Int32).toNatClampNeg (40 : Int32)) (5 : Int32).toNatClampNeg (40 : Int32)) (6 : Int32).toNatClampNeg (40 : Int32)))) := ⟨_, rfl⟩
  have hw : Rw G (o + 5) E7 H := by rw [hE7]; exact hw
  have q0 : E7 o = .inr (4, [.ref (bb G + (o + 1)), .int 0, .int 4, .int 50, .int 50, .int 1, .ref (bb G + (o + 2)), .ref (bb G + (o + 3)), .ref (bb G + (o + 4)), .int 0, .int 0]) := by rw [hE7]; exact ((ue_ne _ _ (show o ≠ (o + 4) by omega)).trans q0)
  have q4 : E7 (o + 4) = .inl (G.2.1 0, 8, .inl (upd (upd (upd (upd (upd (upd (upd (fun _ => 0) (0 : Int32).toNatClampNeg (40 : Int32)) (1 : Int32).toNatClampNeg (40 : Int32)) (2 : Int32).toNatClampNeg (40 : Int32)) (3 : Int32).toNatClampNeg (40 : Int32)) (4 : Int32).toNatClampNeg (40 : Int32)) (5 : Int32).toNatClampNeg (40 : Int32)) (6 : Int32).toNatClampNeg (40 : Int32))) := by rw [hE7]; exact ue_same _ _ _
  have hoth : ∀ (a : Nat) (ha : a ≠ o + 4), E7 (a) = E a := fun a ha => by rw [hE7]; exact ((ue_ne _ _ (show a ≠ (o + 4) by omega)).trans (hoth a ha))
  refine lv_iinc (v := 7) (lv' := [(1, .int (7 : Int32)), (0, .ref (bb G + o))]) hx hb dX4_fillTemperatures_19 hl (k := 0) rfl (by decide) (by decide) rfl (fun ls hl => ?_)
  refine lv_goto (tgt := 2) hx hb dX4_fillTemperatures_22 (by decide) ?_
  refine lv_iload_n hx hb dX4_fillTemperatures_2 rfl (lv_at hl 0 rfl) ?_
  refine lv_aload_n hx hb dX4_fillTemperatures_3 rfl (lv_at hl 1 rfl) ?_
  refine rc_get (v := .ref (bb G + (o + 4))) hC hw inX4g rfl (by omega) q0 8 (by decide) (lg 67 (by decide +kernel) rfl) rfl dX4_fillTemperatures_4 ?_
  refine rc_alen (t0 := 0) (v := 8) hC hw (by omega) q4 rfl rfl dX4_fillTemperatures_7 ?_
  refine lv_icmp_ge (tgt := 25) hx hb dX4_fillTemperatures_8 (by decide) (fun hc => ?_) (fun hc => ?_)
  · exact absurd hc (by decide)
  refine lv_aload_n hx hb dX4_fillTemperatures_11 rfl (lv_at hl 1 rfl) ?_
  refine rc_get (v := .ref (bb G + (o + 4))) hC hw inX4g rfl (by omega) q0 8 (by decide) (lg 67 (by decide +kernel) rfl) rfl dX4_fillTemperatures_12 ?_
  refine lv_iload_n hx hb dX4_fillTemperatures_15 rfl (lv_at hl 0 rfl) ?_
  refine lv_bipush (v := 40) hx hb dX4_fillTemperatures_16 (by decide) ?_
  refine rc_iast hC hw hS (by omega) q4 (show vp_in (7 : Int32) 8 by unfold vp_in; decide) dX4_fillTemperatures_18 (fun H locs hw hS => ?_)
  obtain ⟨E8, hE8⟩ : ∃ F : Nat → va_E, F = ue E7 (o + 4) (.inl (G.2.1 0, 8, .inl (upd (upd (upd (upd (upd (upd (upd (upd (fun _ => 0) (0 : Int32).toNatClampNeg (40 : Int32)) (1 : Int32).toNatClampNeg (40 : Int32)) (2 : Int32).toNatClampNeg (40 : Int32)) (3 : Int32).toNatClampNeg (40 : Int32)) (4 : Int32).toNatClampNeg (40 : Int32)) (5 : Int32).toNatClampNeg (40 : Int32)) (6 : Int32).toNatClampNeg (40 : Int32)) (7 : Int32).toNatClampNeg (40 : Int32)))) := ⟨_, rfl⟩
  have hw : Rw G (o + 5) E8 H := by rw [hE8]; exact hw
  have q0 : E8 o = .inr (4, [.ref (bb G + (o + 1)), .int 0, .int 4, .int 50, .int 50, .int 1, .ref (bb G + (o + 2)), .ref (bb G + (o + 3)), .ref (bb G + (o + 4)), .int 0, .int 0]) := by rw [hE8]; exact ((ue_ne _ _ (show o ≠ (o + 4) by omega)).trans q0)
  have q4 : E8 (o + 4) = .inl (G.2.1 0, 8, .inl (upd (upd (upd (upd (upd (upd (upd (upd (fun _ => 0) (0 : Int32).toNatClampNeg (40 : Int32)) (1 : Int32).toNatClampNeg (40 : Int32)) (2 : Int32).toNatClampNeg (40 : Int32)) (3 : Int32).toNatClampNeg (40 : Int32)) (4 : Int32).toNatClampNeg (40 : Int32)) (5 : Int32).toNatClampNeg (40 : Int32)) (6 : Int32).toNatClampNeg (40 : Int32)) (7 : Int32).toNatClampNeg (40 : Int32))) := by rw [hE8]; exact ue_same _ _ _
  have hoth : ∀ (a : Nat) (ha : a ≠ o + 4), E8 (a) = E a := fun a ha => by rw [hE8]; exact ((ue_ne _ _ (show a ≠ (o + 4) by omega)).trans (hoth a ha))
  refine lv_iinc (v := 8) (lv' := [(1, .int (8 : Int32)), (0, .ref (bb G + o))]) hx hb dX4_fillTemperatures_19 hl (k := 0) rfl (by decide) (by decide) rfl (fun ls hl => ?_)
  refine lv_goto (tgt := 2) hx hb dX4_fillTemperatures_22 (by decide) ?_
  refine lv_iload_n hx hb dX4_fillTemperatures_2 rfl (lv_at hl 0 rfl) ?_
  refine lv_aload_n hx hb dX4_fillTemperatures_3 rfl (lv_at hl 1 rfl) ?_
  refine rc_get (v := .ref (bb G + (o + 4))) hC hw inX4g rfl (by omega) q0 8 (by decide) (lg 67 (by decide +kernel) rfl) rfl dX4_fillTemperatures_4 ?_
  refine rc_alen (t0 := 0) (v := 8) hC hw (by omega) q4 rfl rfl dX4_fillTemperatures_7 ?_
  refine lv_icmp_ge (tgt := 25) hx hb dX4_fillTemperatures_8 (by decide) (fun hc => ?_) (fun hc => ?_)
  rotate_left
  · exact (hc (by decide)).elim
  refine m_vretI hC hr hlk hw hS (fun a ha H h => ?_) dX4_fillTemperatures_25
  by_cases h4 : a = o + 4
  · subst h4; rw [ue_same]; rw [q4] at h
    refine at_i (fun j hj => ?_) h
    rcases (show j = 0 ∨ j = 1 ∨ j = 2 ∨ j = 3 ∨ j = 4 ∨ j = 5 ∨ j = 6 ∨ j = 7 by omega) with rfl | rfl | rfl | rfl | rfl | rfl | rfl | rfl <;> rfl
  · rw [ue_ne _ _ h4, ← hoth a h4]; exact h
set_option maxHeartbeats 4000000 in
set_option maxRecDepth 100000 in
theorem c_X4_init (l : Launch) (G : GG) (o : Nat) (E : Nat → va_E) (he : E o = .inr (4, [.null, .int 0, .int 0, .int 0, .int 0, .int 0, .null, .null, .null, .int 0, .int 0])) : CtI l yX4_init cX4_init 1 (rmX 1 21 4 78) 4 78 G (o + 1) E o (o + 5) (lE G E o) := by
  refine CtI.of (by decide) (Nat.le_of_ble_eq_true rfl) ?_
  intro p e s m below meth c ls hC hI hnm hr hlk hw hl
  have hx := hC.1
  have hb := hC.2.1
  have hS : LW G s s.heap [] := va_S.rf
  have q0 := he
  have hlow : ∀ (a : Nat) (ha : a < o), E a = E a := fun a _ => rfl
  refine lv_aload_n hx hb dX4_init_0 rfl (lv_at hl 0 rfl) ?_
  refine rc_obj hC oiX4 hl.1 dX4_init_1 (by decide) (by decide) ?_
  refine lv_aload_n hx hb dX4_init_4 rfl (lv_at hl 0 rfl) ?_
  refine lv_bipush (v := 60) hx hb dX4_init_5 (by decide) ?_
  refine rc_newi (N := 60) hC hw hS aw_int (by decide) (by decide) (Nat.le_of_ble_eq_true rfl) (by decide) (by decide) dX4_init_7 (fun H hw hS => ?_)
  obtain ⟨E1, hE1⟩ : ∃ F : Nat → va_E, F = ue E (o + 1) (.inl (G.2.1 0, 60, .inl (fun _ => 0))) := ⟨_, rfl⟩
  have hw : Rw G (o + 2) E1 H := by rw [hE1]; exact hw
  have q0 : E1 o = .inr (4, [.null, .int 0, .int 0, .int 0, .int 0, .int 0, .null, .null, .null, .int 0, .int 0]) := by rw [hE1]; exact ((ue_ne _ _ (show o ≠ (o + 1) by omega)).trans q0)
  have q1 : E1 (o + 1) = .inl (G.2.1 0, 60, .inl (fun _ => 0)) := by rw [hE1]; exact ue_same _ _ _
  have hlow : ∀ (a : Nat) (ha : a < o), E1 (a) = E a := fun a ha => by rw [hE1]; exact ((ue_ne _ _ (show a ≠ (o + 1) by omega)).trans (hlow a ha))
  refine rc_putF (v := .ref (bb G + (o + 1))) hC hw hS inX4g tyX4_ok nmX4 rfl (by omega) q0 0 (by decide) (lg 52 (by decide +kernel) rfl) rfl hnm rfl rfl rfl (Nat.le_of_ble_eq_true rfl) dX4_init_9 (fun H locs hw hS => ?_)
  obtain ⟨E2, hE2⟩ : ∃ F : Nat → va_E, F = ue E1 o (.inr (4, [.ref (bb G + (o + 1)), .int 0, .int 0, .int 0, .int 0, .int 0, .null, .null, .null, .int 0, .int 0])) := ⟨_, rfl⟩
  have hw : Rw G (o + 2) E2 H := by rw [hE2]; exact hw
  have q1 : E2 (o + 1) = .inl (G.2.1 0, 60, .inl (fun _ => 0)) := by rw [hE2]; exact ((ue_ne _ _ (show (o + 1) ≠ o by omega)).trans q1)
  have q0 : E2 o = .inr (4, [.ref (bb G + (o + 1)), .int 0, .int 0, .int 0, .int 0, .int 0, .null, .null, .null, .int 0, .int 0]) := by rw [hE2]; exact ue_same _ _ _
  have hlow : ∀ (a : Nat) (ha : a < o), E2 (a) = E a := fun a ha => by rw [hE2]; exact ((ue_ne _ _ (show a ≠ o by omega)).trans (hlow a ha))
  refine lv_aload_n hx hb dX4_init_12 rfl (lv_at hl 0 rfl) ?_
  refine lv_iconst (v := 4) hx hb dX4_init_13 (by decide) ?_
  refine rc_put (v := .int (4 : Int32)) hC hw hS inX4g tyX4_ok nmX4 rfl (by omega) q0 2 (by decide) (lg 55 (by decide +kernel) rfl) rfl rfl rfl (Nat.le_of_ble_eq_true rfl) dX4_init_14 (fun H locs hw hS => ?_)
  obtain ⟨E3, hE3⟩ : ∃ F : Nat → va_E, F = ue E2 o (.inr (4, [.ref (bb G + (o + 1)), .int 0, .int (4 : Int32), .int 0, .int 0, .int 0, .null, .null, .null, .int 0, .int 0])) := ⟨_, rfl⟩
  have hw : Rw G (o + 2) E3 H := by rw [hE3]; exact hw
  have q1 : E3 (o + 1) = .inl (G.2.1 0, 60, .inl (fun _ => 0)) := by rw [hE3]; exact ((ue_ne _ _ (show (o + 1) ≠ o by omega)).trans q1)
  have q0 : E3 o = .inr (4, [.ref (bb G + (o + 1)), .int 0, .int (4 : Int32), .int 0, .int 0, .int 0, .null, .null, .null, .int 0, .int 0]) := by rw [hE3]; exact ue_same _ _ _
  have hlow : ∀ (a : Nat) (ha : a < o), E3 (a) = E a := fun a ha => by rw [hE3]; exact ((ue_ne _ _ (show a ≠ o by omega)).trans (hlow a ha))
  refine lv_aload_n hx hb dX4_init_17 rfl (lv_at hl 0 rfl) ?_
  refine lv_bipush (v := 50) hx hb dX4_init_18 (by decide) ?_
  refine rc_put (v := .int (50 : Int32)) hC hw hS inX4g tyX4_ok nmX4 rfl (by omega) q0 3 (by decide) (lg 57 (by decide +kernel) rfl) rfl rfl rfl (Nat.le_of_ble_eq_true rfl) dX4_init_20 (fun H locs hw hS => ?_)
  obtain ⟨E4, hE4⟩ : ∃ F : Nat → va_E, F = ue E3 o (.inr (4, [.ref (bb G + (o + 1)), .int 0, .int (4 : Int32), .int (50 : Int32), .int 0, .int 0, .null, .null, .null, .int 0, .int 0])) := ⟨_, rfl⟩
  have hw : Rw G (o + 2) E4 H := by rw [hE4]; exact hw
  have q1 : E4 (o + 1) = .inl (G.2.1 0, 60, .inl (fun _ => 0)) := by rw [hE4]; exact ((ue_ne _ _ (show (o + 1) ≠ o by omega)).trans q1)
  have q0 : E4 o = .inr (4, [.ref (bb G + (o + 1)), .int 0, .int (4 : Int32), .int (50 : Int32), .int 0, .int 0, .null, .null, .null, .int 0, .int 0]) := by rw [hE4]; exact ue_same _ _ _
  have hlow : ∀ (a : Nat) (ha : a < o), E4 (a) = E a := fun a ha => by rw [hE4]; exact ((ue_ne _ _ (show a ≠ o by omega)).trans (hlow a ha))
  refine lv_aload_n hx hb dX4_init_23 rfl (lv_at hl 0 rfl) ?_
  refine lv_bipush (v := 50) hx hb dX4_init_24 (by decide) ?_
  refine rc_put (v := .int (50 : Int32)) hC hw hS inX4g tyX4_ok nmX4 rfl (by omega) q0 4 (by decide) (lg 59 (by decide +kernel) rfl) rfl rfl rfl (Nat.le_of_ble_eq_true rfl) dX4_init_26 (fun H locs hw hS => ?_)
  obtain ⟨E5, hE5⟩ : ∃ F : Nat → va_E, F = ue E4 o (.inr (4, [.ref (bb G + (o + 1)), .int 0, .int (4 : Int32), .int (50 : Int32), .int (50 : Int32), .int 0, .null, .null, .null, .int 0, .int 0])) := ⟨_, rfl⟩
  have hw : Rw G (o + 2) E5 H := by rw [hE5]; exact hw
  have q1 : E5 (o + 1) = .inl (G.2.1 0, 60, .inl (fun _ => 0)) := by rw [hE5]; exact ((ue_ne _ _ (show (o + 1) ≠ o by omega)).trans q1)
  have q0 : E5 o = .inr (4, [.ref (bb G + (o + 1)), .int 0, .int (4 : Int32), .int (50 : Int32), .int (50 : Int32), .int 0, .null, .null, .null, .int 0, .int 0]) := by rw [hE5]; exact ue_same _ _ _
  have hlow : ∀ (a : Nat) (ha : a < o), E5 (a) = E a := fun a ha => by rw [hE5]; exact ((ue_ne _ _ (show a ≠ o by omega)).trans (hlow a ha))
  refine lv_aload_n hx hb dX4_init_29 rfl (lv_at hl 0 rfl) ?_
  refine lv_iconst (v := 1) hx hb dX4_init_30 (by decide) ?_
  refine rc_put (v := .int (1 : Int32)) hC hw hS inX4g tyX4_ok nmX4 rfl (by omega) q0 5 (by decide) (lg 61 (by decide +kernel) rfl) rfl rfl rfl (Nat.le_of_ble_eq_true rfl) dX4_init_31 (fun H locs hw hS => ?_)
  obtain ⟨E6, hE6⟩ : ∃ F : Nat → va_E, F = ue E5 o (.inr (4, [.ref (bb G + (o + 1)), .int 0, .int (4 : Int32), .int (50 : Int32), .int (50 : Int32), .int (1 : Int32), .null, .null, .null, .int 0, .int 0])) := ⟨_, rfl⟩
  have hw : Rw G (o + 2) E6 H := by rw [hE6]; exact hw
  have q1 : E6 (o + 1) = .inl (G.2.1 0, 60, .inl (fun _ => 0)) := by rw [hE6]; exact ((ue_ne _ _ (show (o + 1) ≠ o by omega)).trans q1)
  have q0 : E6 o = .inr (4, [.ref (bb G + (o + 1)), .int 0, .int (4 : Int32), .int (50 : Int32), .int (50 : Int32), .int (1 : Int32), .null, .null, .null, .int 0, .int 0]) := by rw [hE6]; exact ue_same _ _ _
  have hlow : ∀ (a : Nat) (ha : a < o), E6 (a) = E a := fun a ha => by rw [hE6]; exact ((ue_ne _ _ (show a ≠ o by omega)).trans (hlow a ha))
  refine lv_aload_n hx hb dX4_init_34 rfl (lv_at hl 0 rfl) ?_
  refine lv_iconst (v := 5) hx hb dX4_init_35 (by decide) ?_
  refine rc_newi (N := 5) hC hw hS aw_int (by decide) (by decide) (Nat.le_of_ble_eq_true rfl) (by decide) (by decide) dX4_init_36 (fun H hw hS => ?_)
  obtain ⟨E7, hE7⟩ : ∃ F : Nat → va_E, F = ue E6 (o + 2) (.inl (G.2.1 0, 5, .inl (fun _ => 0))) := ⟨_, rfl⟩
  have hw : Rw G (o + 3) E7 H := by rw [hE7]; exact hw
  have q0 : E7 o = .inr (4, [.ref (bb G + (o + 1)), .int 0, .int (4 : Int32), .int (50 : Int32), .int (50 : Int32), .int (1 : Int32), .null, .null, .null, .int 0, .int 0]) := by rw [hE7]; exact ((ue_ne _ _ (show o ≠ (o + 2) by omega)).trans q0)
  have q1 : E7 (o + 1) = .inl (G.2.1 0, 60, .inl (fun _ => 0)) := by rw [hE7]; exact ((ue_ne _ _ (show (o + 1) ≠ (o + 2) by omega)).trans q1)
  have q2 : E7 (o + 2) = .inl (G.2.1 0, 5, .inl (fun _ => 0)) := by rw [hE7]; exact ue_same _ _ _
  have hlow : ∀ (a : Nat) (ha : a < o), E7 (a) = E a := fun a ha => by rw [hE7]; exact ((ue_ne _ _ (show a ≠ (o + 2) by omega)).trans (hlow a ha))
  refine rc_putF (v := .ref (bb G + (o + 2))) hC hw hS inX4g tyX4_ok nmX4 rfl (by omega) q0 6 (by decide) (lg 63 (by decide +kernel) rfl) rfl hnm rfl rfl rfl (Nat.le_of_ble_eq_true rfl) dX4_init_38 (fun H locs hw hS => ?_)
  obtain ⟨E8, hE8⟩ : ∃ F : Nat → va_E, F = ue E7 o (.inr (4, [.ref (bb G + (o + 1)), .int 0, .int (4 : Int32), .int (50 : Int32), .int (50 : Int32), .int (1 : Int32), .ref (bb G + (o + 2)), .null, .null, .int 0, .int 0])) := ⟨_, rfl⟩
  have hw : Rw G (o + 3) E8 H := by rw [hE8]; exact hw
  have q1 : E8 (o + 1) = .inl (G.2.1 0, 60, .inl (fun _ => 0)) := by rw [hE8]; exact ((ue_ne _ _ (show (o + 1) ≠ o by omega)).trans q1)
  have q2 : E8 (o + 2) = .inl (G.2.1 0, 5, .inl (fun _ => 0)) := by rw [hE8]; exact ((ue_ne _ _ (show (o + 2) ≠ o by omega)).trans q2)
  have q0 : E8 o = .inr (4, [.ref (bb G + (o + 1)), .int 0, .int (4 : Int32), .int (50 : Int32), .int (50 : Int32), .int (1 : Int32), .ref (bb G + (o + 2)), .null, .null, .int 0, .int 0]) := by rw [hE8]; exact ue_same _ _ _
  have hlow : ∀ (a : Nat) (ha : a < o), E8 (a) = E a := fun a ha => by rw [hE8]; exact ((ue_ne _ _ (show a ≠ o by omega)).trans (hlow a ha))
  refine lv_aload_n hx hb dX4_init_41 rfl (lv_at hl 0 rfl) ?_
  refine lv_iconst (v := 5) hx hb dX4_init_42 (by decide) ?_
  refine rc_newi (N := 5) hC hw hS aw_int (by decide) (by decide) (Nat.le_of_ble_eq_true rfl) (by decide) (by decide) dX4_init_43 (fun H hw hS => ?_)
  obtain ⟨E9, hE9⟩ : ∃ F : Nat → va_E, F = ue E8 (o + 3) (.inl (G.2.1 0, 5, .inl (fun _ => 0))) := ⟨_, rfl⟩
  have hw : Rw G (o + 4) E9 H := by rw [hE9]; exact hw
  have q0 : E9 o = .inr (4, [.ref (bb G + (o + 1)), .int 0, .int (4 : Int32), .int (50 : Int32), .int (50 : Int32), .int (1 : Int32), .ref (bb G + (o + 2)), .null, .null, .int 0, .int 0]) := by rw [hE9]; exact ((ue_ne _ _ (show o ≠ (o + 3) by omega)).trans q0)
  have q1 : E9 (o + 1) = .inl (G.2.1 0, 60, .inl (fun _ => 0)) := by rw [hE9]; exact ((ue_ne _ _ (show (o + 1) ≠ (o + 3) by omega)).trans q1)
  have q2 : E9 (o + 2) = .inl (G.2.1 0, 5, .inl (fun _ => 0)) := by rw [hE9]; exact ((ue_ne _ _ (show (o + 2) ≠ (o + 3) by omega)).trans q2)
  have q3 : E9 (o + 3) = .inl (G.2.1 0, 5, .inl (fun _ => 0)) := by rw [hE9]; exact ue_same _ _ _
  have hlow : ∀ (a : Nat) (ha : a < o), E9 (a) = E a := fun a ha => by rw [hE9]; exact ((ue_ne _ _ (show a ≠ (o + 3) by omega)).trans (hlow a ha))
  refine rc_putF (v := .ref (bb G + (o + 3))) hC hw hS inX4g tyX4_ok nmX4 rfl (by omega) q0 7 (by decide) (lg 65 (by decide +kernel) rfl) rfl hnm rfl rfl rfl (Nat.le_of_ble_eq_true rfl) dX4_init_45 (fun H locs hw hS => ?_)
  obtain ⟨E10, hE10⟩ : ∃ F : Nat → va_E, F = ue E9 o (.inr (4, [.ref (bb G + (o + 1)), .int 0, .int (4 : Int32), .int (50 : Int32), .int (50 : Int32), .int (1 : Int32), .ref (bb G + (o + 2)), .ref (bb G + (o + 3)), .null, .int 0, .int 0])) := ⟨_, rfl⟩
  have hw : Rw G (o + 4) E10 H := by rw [hE10]; exact hw
  have q1 : E10 (o + 1) = .inl (G.2.1 0, 60, .inl (fun _ => 0)) := by rw [hE10]; exact ((ue_ne _ _ (show (o + 1) ≠ o by omega)).trans q1)
  have q2 : E10 (o + 2) = .inl (G.2.1 0, 5, .inl (fun _ => 0)) := by rw [hE10]; exact ((ue_ne _ _ (show (o + 2) ≠ o by omega)).trans q2)
  have q3 : E10 (o + 3) = .inl (G.2.1 0, 5, .inl (fun _ => 0)) := by rw [hE10]; exact ((ue_ne _ _ (show (o + 3) ≠ o by omega)).trans q3)
  have q0 : E10 o = .inr (4, [.ref (bb G + (o + 1)), .int 0, .int (4 : Int32), .int (50 : Int32), .int (50 : Int32), .int (1 : Int32), .ref (bb G + (o + 2)), .ref (bb G + (o + 3)), .null, .int 0, .int 0]) := by rw [hE10]; exact ue_same _ _ _
  have hlow : ∀ (a : Nat) (ha : a < o), E10 (a) = E a := fun a ha => by rw [hE10]; exact ((ue_ne _ _ (show a ≠ o by omega)).trans (hlow a ha))
  refine lv_aload_n hx hb dX4_init_48 rfl (lv_at hl 0 rfl) ?_
  refine lv_bipush (v := 8) hx hb dX4_init_49 (by decide) ?_
  refine rc_newi (N := 8) hC hw hS aw_int (by decide) (by decide) (Nat.le_of_ble_eq_true rfl) (by decide) (by decide) dX4_init_51 (fun H hw hS => ?_)
  obtain ⟨E11, hE11⟩ : ∃ F : Nat → va_E, F = ue E10 (o + 4) (.inl (G.2.1 0, 8, .inl (fun _ => 0))) := ⟨_, rfl⟩
  have hw : Rw G (o + 5) E11 H := by rw [hE11]; exact hw
  have q0 : E11 o = .inr (4, [.ref (bb G + (o + 1)), .int 0, .int (4 : Int32), .int (50 : Int32), .int (50 : Int32), .int (1 : Int32), .ref (bb G + (o + 2)), .ref (bb G + (o + 3)), .null, .int 0, .int 0]) := by rw [hE11]; exact ((ue_ne _ _ (show o ≠ (o + 4) by omega)).trans q0)
  have q1 : E11 (o + 1) = .inl (G.2.1 0, 60, .inl (fun _ => 0)) := by rw [hE11]; exact ((ue_ne _ _ (show (o + 1) ≠ (o + 4) by omega)).trans q1)
  have q2 : E11 (o + 2) = .inl (G.2.1 0, 5, .inl (fun _ => 0)) := by rw [hE11]; exact ((ue_ne _ _ (show (o + 2) ≠ (o + 4) by omega)).trans q2)
  have q3 : E11 (o + 3) = .inl (G.2.1 0, 5, .inl (fun _ => 0)) := by rw [hE11]; exact ((ue_ne _ _ (show (o + 3) ≠ (o + 4) by omega)).trans q3)
  have q4 : E11 (o + 4) = .inl (G.2.1 0, 8, .inl (fun _ => 0)) := by rw [hE11]; exact ue_same _ _ _
  have hlow : ∀ (a : Nat) (ha : a < o), E11 (a) = E a := fun a ha => by rw [hE11]; exact ((ue_ne _ _ (show a ≠ (o + 4) by omega)).trans (hlow a ha))
  refine rc_putF (v := .ref (bb G + (o + 4))) hC hw hS inX4g tyX4_ok nmX4 rfl (by omega) q0 8 (by decide) (lg 67 (by decide +kernel) rfl) rfl hnm rfl rfl rfl (Nat.le_of_ble_eq_true rfl) dX4_init_53 (fun H locs hw hS => ?_)
  obtain ⟨E12, hE12⟩ : ∃ F : Nat → va_E, F = ue E11 o (.inr (4, [.ref (bb G + (o + 1)), .int 0, .int (4 : Int32), .int (50 : Int32), .int (50 : Int32), .int (1 : Int32), .ref (bb G + (o + 2)), .ref (bb G + (o + 3)), .ref (bb G + (o + 4)), .int 0, .int 0])) := ⟨_, rfl⟩
  have hw : Rw G (o + 5) E12 H := by rw [hE12]; exact hw
  have q1 : E12 (o + 1) = .inl (G.2.1 0, 60, .inl (fun _ => 0)) := by rw [hE12]; exact ((ue_ne _ _ (show (o + 1) ≠ o by omega)).trans q1)
  have q2 : E12 (o + 2) = .inl (G.2.1 0, 5, .inl (fun _ => 0)) := by rw [hE12]; exact ((ue_ne _ _ (show (o + 2) ≠ o by omega)).trans q2)
  have q3 : E12 (o + 3) = .inl (G.2.1 0, 5, .inl (fun _ => 0)) := by rw [hE12]; exact ((ue_ne _ _ (show (o + 3) ≠ o by omega)).trans q3)
  have q4 : E12 (o + 4) = .inl (G.2.1 0, 8, .inl (fun _ => 0)) := by rw [hE12]; exact ((ue_ne _ _ (show (o + 4) ≠ o by omega)).trans q4)
  have q0 : E12 o = .inr (4, [.ref (bb G + (o + 1)), .int 0, .int (4 : Int32), .int (50 : Int32), .int (50 : Int32), .int (1 : Int32), .ref (bb G + (o + 2)), .ref (bb G + (o + 3)), .ref (bb G + (o + 4)), .int 0, .int 0]) := by rw [hE12]; exact ue_same _ _ _
  have hlow : ∀ (a : Nat) (ha : a < o), E12 (a) = E a := fun a ha => by rw [hE12]; exact ((ue_ne _ _ (show a ≠ o by omega)).trans (hlow a ha))
  refine lv_aload_n hx hb dX4_init_56 rfl (lv_at hl 0 rfl) ?_
  refine rc_get (v := .ref (bb G + (o + 2))) hC hw inX4g rfl (by omega) q0 6 (by decide) (lg 63 (by decide +kernel) rfl) rfl dX4_init_57 ?_
  refine lv_iconst (v := 0) hx hb dX4_init_60 (by decide) ?_
  refine lv_bipush (v := 10) hx hb dX4_init_61 (by decide) ?_
  refine rc_iast hC hw hS (by omega) q2 (show vp_in (0 : Int32) 5 by unfold vp_in; decide) dX4_init_63 (fun H locs hw hS => ?_)
  obtain ⟨E13, hE13⟩ : ∃ F : Nat → va_E, F = ue E12 (o + 2) (.inl (G.2.1 0, 5, .inl (upd (fun _ => 0) (0 : Int32).toNatClampNeg (10 : Int32)))) := ⟨_, rfl⟩
  have hw : Rw G (o + 5) E13 H := by rw [hE13]; exact hw
  have q0 : E13 o = .inr (4, [.ref (bb G + (o + 1)), .int 0, .int (4 : Int32), .int (50 : Int32), .int (50 : Int32), .int (1 : Int32), .ref (bb G + (o + 2)), .ref (bb G + (o + 3)), .ref (bb G + (o + 4)), .int 0, .int 0]) := by rw [hE13]; exact ((ue_ne _ _ (show o ≠ (o + 2) by omega)).trans q0)
  have q1 : E13 (o + 1) = .inl (G.2.1 0, 60, .inl (fun _ => 0)) := by rw [hE13]; exact ((ue_ne _ _ (show (o + 1) ≠ (o + 2) by omega)).trans q1)
  have q3 : E13 (o + 3) = .inl (G.2.1 0, 5, .inl (fun _ => 0)) := by rw [hE13]; exact ((ue_ne _ _ (show (o + 3) ≠ (o + 2) by omega)).trans q3)
  have q4 : E13 (o + 4) = .inl (G.2.1 0, 8, .inl (fun _ => 0)) := by rw [hE13]; exact ((ue_ne _ _ (show (o + 4) ≠ (o + 2) by omega)).trans q4)
  have q2 : E13 (o + 2) = .inl (G.2.1 0, 5, .inl (upd (fun _ => 0) (0 : Int32).toNatClampNeg (10 : Int32))) := by rw [hE13]; exact ue_same _ _ _
  have hlow : ∀ (a : Nat) (ha : a < o), E13 (a) = E a := fun a ha => by rw [hE13]; exact ((ue_ne _ _ (show a ≠ (o + 2) by omega)).trans (hlow a ha))
  refine lv_aload_n hx hb dX4_init_64 rfl (lv_at hl 0 rfl) ?_
  refine rc_callV hC hI (c_X4_fillR l G o E13 q0 q4) wvX4_37 ⟨rfl, rfl, by decide, by decide⟩ hw hS (by omega) q0 rfl hl.1 (Nat.le_of_ble_eq_true rfl) dX4_init_65 ⟨by decide, by decide⟩ (fun H locs hw hS => ?_)
  obtain ⟨E14, hE14⟩ : ∃ F : Nat → va_E, F = ue E13 (o + 4) (.inl (G.2.1 0, 8, .inl (fun j => if j < 8 then 40 else 0))) := ⟨_, rfl⟩
  have hw : Rw G (o + 5) E14 H := by rw [hE14]; exact hw
  have q0 : E14 o = .inr (4, [.ref (bb G + (o + 1)), .int 0, .int (4 : Int32), .int (50 : Int32), .int (50 : Int32), .int (1 : Int32), .ref (bb G + (o + 2)), .ref (bb G + (o + 3)), .ref (bb G + (o + 4)), .int 0, .int 0]) := by rw [hE14]; exact ((ue_ne _ _ (show o ≠ (o + 4) by omega)).trans q0)
  have q1 : E14 (o + 1) = .inl (G.2.1 0, 60, .inl (fun _ => 0)) := by rw [hE14]; exact ((ue_ne _ _ (show (o + 1) ≠ (o + 4) by omega)).trans q1)
  have q2 : E14 (o + 2) = .inl (G.2.1 0, 5, .inl (upd (fun _ => 0) (0 : Int32).toNatClampNeg (10 : Int32))) := by rw [hE14]; exact ((ue_ne _ _ (show (o + 2) ≠ (o + 4) by omega)).trans q2)
  have q3 : E14 (o + 3) = .inl (G.2.1 0, 5, .inl (fun _ => 0)) := by rw [hE14]; exact ((ue_ne _ _ (show (o + 3) ≠ (o + 4) by omega)).trans q3)
  have q4 : E14 (o + 4) = .inl (G.2.1 0, 8, .inl (fun j => if j < 8 then 40 else 0)) := by rw [hE14]; exact ue_same _ _ _
  have hlow : ∀ (a : Nat) (ha : a < o), E14 (a) = E a := fun a ha => by rw [hE14]; exact ((ue_ne _ _ (show a ≠ (o + 4) by omega)).trans (hlow a ha))
  refine m_vretI hC hr hlk hw hS (fun a ha H h => ?_) dX4_init_68
  rcases (show a < o ∨ a = o ∨ a = o + 1 ∨ a = o + 2 ∨ a = o + 3 ∨ a = o + 4 by omega) with h1 | rfl | rfl | rfl | rfl | rfl
  · rw [lE_lt _ _ h1, ← hlow a h1]; exact h
  · rw [lE_0]; rw [q0] at h; exact h
  · rw [lE_1]; rw [q1] at h; exact h
  · rw [lE_2]; rw [q2] at h; exact at_i (fun j hj => by rcases (show j = 0 ∨ j = 1 ∨ j = 2 ∨ j = 3 ∨ j = 4 by omega) with rfl | rfl | rfl | rfl | rfl <;> rfl) h
  · rw [lE_3]; rw [q3] at h; exact h
  · rw [lE_4]; rw [q4] at h; exact h
set_option maxHeartbeats 4000000 in
set_option maxRecDepth 100000 in
theorem c_X2_init (l : Launch) (G : GG) (o : Nat) (E : Nat → va_E) (he : E o = .inr (2, [.null, .int 0, .int 0])) : CtI l yX2_init cX2_init 2 (rmX 3 57 183 1120) 183 1120 G (o + 1) E o (o + 184) (hE G E o) := by
  refine CtI.of (by decide) (Nat.le_of_ble_eq_true rfl) ?_
  intro p e s m below meth c ls hC hI hnm hr hlk hw hl
  have hx := hC.1
  have hb := hC.2.1
  have hS : LW G s s.heap [] := va_S.rf
  have q0 := he
  have hlow : ∀ (a : Nat) (ha : a < o), E a = E a := fun a _ => rfl
  refine lv_aload_n hx hb dX2_init_0 rfl (lv_at hl 0 rfl) ?_
  refine rc_obj hC oiX2 hl.1 dX2_init_1 (by decide) (by decide) ?_
  refine lv_aload_n hx hb dX2_init_4 rfl (lv_at hl 0 rfl) ?_
  refine lv_bipush (v := 14) hx hb dX2_init_5 (by decide) ?_
  refine rc_anew (t0 := 3) (N := 14) hC hw hS rfl hI.2.2 (lg 264 (by decide +kernel) rfl) (by decide) (by decide) (Nat.le_of_ble_eq_true rfl) (by decide) (by decide) dX2_init_7 (fun H hw hS => ?_)
  obtain ⟨E1, hE1⟩ : ∃ F : Nat → va_E, F = ue E (o + 1) (.inl (G.2.1 3, 14, .inr (.inr (.inr (.inr (fun _ => none)))))) := ⟨_, rfl⟩
  have hw : Rw G (o + 2) E1 H := by rw [hE1]; exact hw
  have q0 : E1 o = .inr (2, [.null, .int 0, .int 0]) := by rw [hE1]; exact ((ue_ne _ _ (show o ≠ (o + 1) by omega)).trans q0)
  have q1 : E1 (o + 1) = .inl (G.2.1 3, 14, .inr (.inr (.inr (.inr (fun _ => none))))) := by rw [hE1]; exact ue_same _ _ _
  have hlow : ∀ (a : Nat) (ha : a < o), E1 (a) = E a := fun a ha => by rw [hE1]; exact ((ue_ne _ _ (show a ≠ (o + 1) by omega)).trans (hlow a ha))
  refine rc_putF (v := .ref (bb G + (o + 1))) hC hw hS inX2g tyX2_ok nmX2 rfl (by omega) q0 0 (by decide) (lg 267 (by decide +kernel) rfl) rfl hnm rfl rfl rfl (Nat.le_of_ble_eq_true rfl) dX2_init_10 (fun H locs hw hS => ?_)
  obtain ⟨E2, hE2⟩ : ∃ F : Nat → va_E, F = ue E1 o (.inr (2, [.ref (bb G + (o + 1)), .int 0, .int 0])) := ⟨_, rfl⟩
  have hw : Rw G (o + 2) E2 H := by rw [hE2]; exact hw
  have q1 : E2 (o + 1) = .inl (G.2.1 3, 14, .inr (.inr (.inr (.inr (fun _ => none))))) := by rw [hE2]; exact ((ue_ne _ _ (show (o + 1) ≠ o by omega)).trans q1)
  have q0 : E2 o = .inr (2, [.ref (bb G + (o + 1)), .int 0, .int 0]) := by rw [hE2]; exact ue_same _ _ _
  have hlow : ∀ (a : Nat) (ha : a < o), E2 (a) = E a := fun a ha => by rw [hE2]; exact ((ue_ne _ _ (show a ≠ o by omega)).trans (hlow a ha))
  refine lv_iconst (v := 0) hx hb dX2_init_13 (by decide) ?_
  refine lv_istore_n (lv' := [(1, .int (0 : Int32)), (0, .ref (bb G + o))]) hx hb dX2_init_14 rfl hl (by decide) rfl (fun ls hl => ?_)
  refine lv_iload_n hx hb dX2_init_15 rfl (lv_at hl 0 rfl) ?_
  refine lv_aload_n hx hb dX2_init_16 rfl (lv_at hl 1 rfl) ?_
  refine rc_get (v := .ref (bb G + (o + 1))) hC hw inX2g rfl (by omega) q0 0 (by decide) (lg 267 (by decide +kernel) rfl) rfl dX2_init_17 ?_
  refine rc_alen (t0 := 3) (v := 14) hC hw (by omega) q1 rfl rfl dX2_init_20 ?_
  refine lv_icmp_ge (tgt := 43) hx hb dX2_init_21 (by decide) (fun hc => ?_) (fun hc => ?_)
  · exact absurd hc (by decide)
  refine lv_aload_n hx hb dX2_init_24 rfl (lv_at hl 1 rfl) ?_
  refine rc_get (v := .ref (bb G + (o + 1))) hC hw inX2g rfl (by omega) q0 0 (by decide) (lg 267 (by decide +kernel) rfl) rfl dX2_init_25 ?_
  refine lv_iload_n hx hb dX2_init_28 rfl (lv_at hl 0 rfl) ?_
  refine rc_new (ci := 5) (fs := [.null, .int 0, .null, .null, .null, .null, .null, .int 0, .int 0]) hC hw hS inX5g tyX5_ok rfl nwX2_9 (fun j hj => by rcases (show j = 0 ∨ j = 1 ∨ j = 2 ∨ j = 3 ∨ j = 4 ∨ j = 5 ∨ j = 6 ∨ j = 7 ∨ j = 8 by omega) with rfl | rfl | rfl | rfl | rfl | rfl | rfl | rfl | rfl <;> rfl) (by decide) (by decide) dX2_init_29 (fun H hw hS => ?_)
  obtain ⟨E3, hE3⟩ : ∃ F : Nat → va_E, F = ue E2 (o + 2) (.inr (5, [.null, .int 0, .null, .null, .null, .null, .null, .int 0, .int 0])) := ⟨_, rfl⟩
  have hw : Rw G (o + 3) E3 H := by rw [hE3]; exact hw
  have q0 : E3 o = .inr (2, [.ref (bb G + (o + 1)), .int 0, .int 0]) := by rw [hE3]; exact ((ue_ne _ _ (show o ≠ (o + 2) by omega)).trans q0)
  have q1 : E3 (o + 1) = .inl (G.2.1 3, 14, .inr (.inr (.inr (.inr (fun _ => none))))) := by rw [hE3]; exact ((ue_ne _ _ (show (o + 1) ≠ (o + 2) by omega)).trans q1)
  have q2 : E3 (o + 2) = .inr (5, [.null, .int 0, .null, .null, .null, .null, .null, .int 0, .int 0]) := by rw [hE3]; exact ue_same _ _ _
  have hlow : ∀ (a : Nat) (ha : a < o), E3 (a) = E a := fun a ha => by rw [hE3]; exact ((ue_ne _ _ (show a ≠ (o + 2) by omega)).trans (hlow a ha))
  refine lv_dup hx hb dX2_init_32 rfl ?_
  refine rc_init hC hI (c_X5_init l G (o + 2) E3 q2) wiX2_17 ⟨rfl, rfl, by decide, by decide⟩ hw hS hl.1 (Nat.le_of_ble_eq_true rfl) dX2_init_33 ⟨by decide, by decide⟩ (fun H locs hw hS => ?_)
  obtain ⟨E4, hE4⟩ : ∃ F : Nat → va_E, F = pE G E3 (o + 2) := ⟨_, rfl⟩
  have hw : Rw G (o + 15) E4 H := by rw [hE4]; exact hw
  have q0 : E4 o = .inr (2, [.ref (bb G + (o + 1)), .int 0, .int 0]) := by rw [hE4]; exact ((pE_lt _ _ (show o < (o + 2) by omega)).trans q0)
  have q1 : E4 (o + 1) = .inl (G.2.1 3, 14, .inr (.inr (.inr (.inr (fun _ => none))))) := by rw [hE4]; exact ((pE_lt _ _ (show (o + 1) < (o + 2) by omega)).trans q1)
  have q2 : E4 (o + 2) = .inr (5, [.ref (bb G + ((o + 2) + 1)), .int (z0 65), .ref (bb G + ((o + 2) + 2)), .ref (bb G + ((o + 2) + 3)), .ref (bb G + ((o + 2) + 4)), .ref (bb G + ((o + 2) + 5)), .ref (bb G + ((o + 2) + 7)), .int (z0 6), .int (z0 7)]) := by rw [hE4]; exact pE_at G E3 (o + 2) 0
  have hlow : ∀ (a : Nat) (ha : a < o), E4 (a) = E a := fun a ha => by rw [hE4]; exact ((pE_lt _ _ (show a < (o + 2) by omega)).trans (hlow a ha))
  have hp2 : ∀ (j : Nat) (hj : j < 13), E4 ((o + 2) + j) = plantC G (o + 2) z0 j := fun j hj => by rw [hE4]; exact pE_at G E3 (o + 2) j
  refine rc_aast (t0 := 3) (r := vwCl[5]) hC hw hS (by omega) q1 rfl (by omega) q2 rfl (show vp_in (0 : Int32) 14 by unfold vp_in; decide) dX2_init_36 (fun H locs hw hS => ?_)
  obtain ⟨E5, hE5⟩ : ∃ F : Nat → va_E, F = ue E4 (o + 1) (.inl (G.2.1 3, 14, .inr (.inr (.inr (.inr (va_up (fun _ => none) (0 : Int32).toNatClampNeg (some (bb G + (o + 2))))))))) := ⟨_, rfl⟩
  have hw : Rw G (o + 15) E5 H := by rw [hE5]; exact hw
  have q0 : E5 o = .inr (2, [.ref (bb G + (o + 1)), .int 0, .int 0]) := by rw [hE5]; exact ((ue_ne _ _ (show o ≠ (o + 1) by omega)).trans q0)
  have q1 : E5 (o + 1) = .inl (G.2.1 3, 14, .inr (.inr (.inr (.inr (va_up (fun _ => none) (0 : Int32).toNatClampNeg (some (bb G + (o + 2)))))))) := by rw [hE5]; exact ue_same _ _ _
  have hlow : ∀ (a : Nat) (ha : a < o), E5 (a) = E a := fun a ha => by rw [hE5]; exact ((ue_ne _ _ (show a ≠ (o + 1) by omega)).trans (hlow a ha))
  have hp2 : ∀ (j : Nat) (hj : j < 13), E5 ((o + 2) + j) = plantC G (o + 2) z0 j := fun j hj => by rw [hE5]; exact ((ue_ne _ _ (show (o + 2) + j ≠ (o + 1) by omega)).trans (hp2 j hj))
  refine lv_iinc (v := 1) (lv' := [(1, .int (1 : Int32)), (0, .ref (bb G + o))]) hx hb dX2_init_37 hl (k := 0) rfl (by decide) (by decide) rfl (fun ls hl => ?_)
  refine lv_goto (tgt := 15) hx hb dX2_init_40 (by decide) ?_
  refine lv_iload_n hx hb dX2_init_15 rfl (lv_at hl 0 rfl) ?_
  refine lv_aload_n hx hb dX2_init_16 rfl (lv_at hl 1 rfl) ?_
  refine rc_get (v := .ref (bb G + (o + 1))) hC hw inX2g rfl (by omega) q0 0 (by decide) (lg 267 (by decide +kernel) rfl) rfl dX2_init_17 ?_
  refine rc_alen (t0 := 3) (v := 14) hC hw (by omega) q1 rfl rfl dX2_init_20 ?_
  refine lv_icmp_ge (tgt := 43) hx hb dX2_init_21 (by decide) (fun hc => ?_) (fun hc => ?_)
  · exact absurd hc (by decide)
  refine lv_aload_n hx hb dX2_init_24 rfl (lv_at hl 1 rfl) ?_
  refine rc_get (v := .ref (bb G + (o + 1))) hC hw inX2g rfl (by omega) q0 0 (by decide) (lg 267 (by decide +kernel) rfl) rfl dX2_init_25 ?_
  refine lv_iload_n hx hb dX2_init_28 rfl (lv_at hl 0 rfl) ?_
  refine rc_new (ci := 5) (fs := [.null, .int 0, .null, .null, .null, .null, .null, .int 0, .int 0]) hC hw hS inX5g tyX5_ok rfl nwX2_9 (fun j hj => by rcases (show j = 0 ∨ j = 1 ∨ j = 2 ∨ j = 3 ∨ j = 4 ∨ j = 5 ∨ j = 6 ∨ j = 7 ∨ j = 8 by omega) with rfl | rfl | rfl | rfl | rfl | rfl | rfl | rfl | rfl <;> rfl) (by decide) (by decide) dX2_init_29 (fun H hw hS => ?_)
  obtain ⟨E6, hE6⟩ : ∃ F : Nat → va_E, F = ue E5 (o + 15) (.inr (5, [.null, .int 0, .null, .null, .null, .null, .null, .int 0, .int 0])) := ⟨_, rfl⟩
  have hw : Rw G (o + 16) E6 H := by rw [hE6]; exact hw
  have q0 : E6 o = .inr (2, [.ref (bb G + (o + 1)), .int 0, .int 0]) := by rw [hE6]; exact ((ue_ne _ _ (show o ≠ (o + 15) by omega)).trans q0)
  have q1 : E6 (o + 1) = .inl (G.2.1 3, 14, .inr (.inr (.inr (.inr (va_up (fun _ => none) (0 : Int32).toNatClampNeg (some (bb G + (o + 2)))))))) := by rw [hE6]; exact ((ue_ne _ _ (show (o + 1) ≠ (o + 15) by omega)).trans q1)
  have q15 : E6 (o + 15) = .inr (5, [.null, .int 0, .null, .null, .null, .null, .null, .int 0, .int 0]) := by rw [hE6]; exact ue_same _ _ _
  have hlow : ∀ (a : Nat) (ha : a < o), E6 (a) = E a := fun a ha => by rw [hE6]; exact ((ue_ne _ _ (show a ≠ (o + 15) by omega)).trans (hlow a ha))
  have hp2 : ∀ (j : Nat) (hj : j < 13), E6 ((o + 2) + j) = plantC G (o + 2) z0 j := fun j hj => by rw [hE6]; exact ((ue_ne _ _ (show (o + 2) + j ≠ (o + 15) by omega)).trans (hp2 j hj))
  refine lv_dup hx hb dX2_init_32 rfl ?_
  refine rc_init hC hI (c_X5_init l G (o + 15) E6 q15) wiX2_17 ⟨rfl, rfl, by decide, by decide⟩ hw hS hl.1 (Nat.le_of_ble_eq_true rfl) dX2_init_33 ⟨by decide, by decide⟩ (fun H locs hw hS => ?_)
  obtain ⟨E7, hE7⟩ : ∃ F : Nat → va_E, F = pE G E6 (o + 15) := ⟨_, rfl⟩
  have hw : Rw G (o + 28) E7 H := by rw [hE7]; exact hw
  have q0 : E7 o = .inr (2, [.ref (bb G + (o + 1)), .int 0, .int 0]) := by rw [hE7]; exact ((pE_lt _ _ (show o < (o + 15) by omega)).trans q0)
  have q1 : E7 (o + 1) = .inl (G.2.1 3, 14, .inr (.inr (.inr (.inr (va_up (fun _ => none) (0 : Int32).toNatClampNeg (some (bb G + (o + 2)))))))) := by rw [hE7]; exact ((pE_lt _ _ (show (o + 1) < (o + 15) by omega)).trans q1)
  have q15 : E7 (o + 15) = .inr (5, [.ref (bb G + ((o + 15) + 1)), .int (z0 65), .ref (bb G + ((o + 15) + 2)), .ref (bb G + ((o + 15) + 3)), .ref (bb G + ((o + 15) + 4)), .ref (bb G + ((o + 15) + 5)), .ref (bb G + ((o + 15) + 7)), .int (z0 6), .int (z0 7)]) := by rw [hE7]; exact pE_at G E6 (o + 15) 0
  have hlow : ∀ (a : Nat) (ha : a < o), E7 (a) = E a := fun a ha => by rw [hE7]; exact ((pE_lt _ _ (show a < (o + 15) by omega)).trans (hlow a ha))
  have hp2 : ∀ (j : Nat) (hj : j < 13), E7 ((o + 2) + j) = plantC G (o + 2) z0 j := fun j hj => by rw [hE7]; exact ((pE_lt _ _ (show (o + 2) + j < (o + 15) by omega)).trans (hp2 j hj))
  have hp15 : ∀ (j : Nat) (hj : j < 13), E7 ((o + 15) + j) = plantC G (o + 15) z0 j := fun j hj => by rw [hE7]; exact pE_at G E6 (o + 15) j
  refine rc_aast (t0 := 3) (r := vwCl[5]) hC hw hS (by omega) q1 rfl (by omega) q15 rfl (show vp_in (1 : Int32) 14 by unfold vp_in; decide) dX2_init_36 (fun H locs hw hS => ?_)
  obtain ⟨E8, hE8⟩ : ∃ F : Nat → va_E, F = ue E7 (o + 1) (.inl (G.2.1 3, 14, .inr (.inr (.inr (.inr (va_up (va_up (fun _ => none) (0 : Int32).toNatClampNeg (some (bb G + (o + 2)))) (1 : Int32).toNatClampNeg (some (bb G + (o + 15))))))))) := ⟨_, rfl⟩
  have hw : Rw G (o + 28) E8 H := by rw [hE8]; exact hw
  have q0 : E8 o = .inr (2, [.ref (bb G + (o + 1)), .int 0, .int 0]) := by rw [hE8]; exact ((ue_ne _ _ (show o ≠ (o + 1) by omega)).trans q0)
  have q1 : E8 (o + 1) = .inl (G.2.1 3, 14, .inr (.inr (.inr (.inr (va_up (va_up (fun _ => none) (0 : Int32).toNatClampNeg (some (bb G + (o + 2)))) (1 : Int32).toNatClampNeg (some (bb G + (o + 15)))))))) := by rw [hE8]; exact ue_same _ _ _
  have hlow : ∀ (a : Nat) (ha : a < o), E8 (a) = E a := fun a ha => by rw [hE8]; exact ((ue_ne _ _ (show a ≠ (o + 1) by omega)).trans (hlow a ha))
  have hp2 : ∀ (j : Nat) (hj : j < 13), E8 ((o + 2) + j) = plantC G (o + 2) z0 j := fun j hj => by rw [hE8]; exact ((ue_ne _ _ (show (o + 2) + j ≠ (o + 1) by omega)).trans (hp2 j hj))
  have hp15 : ∀ (j : Nat) (hj : j < 13), E8 ((o + 15) + j) = plantC G (o + 15) z0 j := fun j hj => by rw [hE8]; exact ((ue_ne _ _ (show (o + 15) + j ≠ (o + 1) by omega)).trans (hp15 j hj))
  refine lv_iinc (v := 2) (lv' := [(1, .int (2 : Int32)), (0, .ref (bb G + o))]) hx hb dX2_init_37 hl (k := 0) rfl (by decide) (by decide) rfl (fun ls hl => ?_)
  refine lv_goto (tgt := 15) hx hb dX2_init_40 (by decide) ?_
  refine lv_iload_n hx hb dX2_init_15 rfl (lv_at hl 0 rfl) ?_
  refine lv_aload_n hx hb dX2_init_16 rfl (lv_at hl 1 rfl) ?_
  refine rc_get (v := .ref (bb G + (o + 1))) hC hw inX2g rfl (by omega) q0 0 (by decide) (lg 267 (by decide +kernel) rfl) rfl dX2_init_17 ?_
  refine rc_alen (t0 := 3) (v := 14) hC hw (by omega) q1 rfl rfl dX2_init_20 ?_
  refine lv_icmp_ge (tgt := 43) hx hb dX2_init_21 (by decide) (fun hc => ?_) (fun hc => ?_)
  · exact absurd hc (by decide)
  refine lv_aload_n hx hb dX2_init_24 rfl (lv_at hl 1 rfl) ?_
  refine rc_get (v := .ref (bb G + (o + 1))) hC hw inX2g rfl (by omega) q0 0 (by decide) (lg 267 (by decide +kernel) rfl) rfl dX2_init_25 ?_
  refine lv_iload_n hx hb dX2_init_28 rfl (lv_at hl 0 rfl) ?_
  refine rc_new (ci := 5) (fs := [.null, .int 0, .null, .null, .null, .null, .null, .int 0, .int 0]) hC hw hS inX5g tyX5_ok rfl nwX2_9 (fun j hj => by rcases (show j = 0 ∨ j = 1 ∨ j = 2 ∨ j = 3 ∨ j = 4 ∨ j = 5 ∨ j = 6 ∨ j = 7 ∨ j = 8 by omega) with rfl | rfl | rfl | rfl | rfl | rfl | rfl | rfl | rfl <;> rfl) (by decide) (by decide) dX2_init_29 (fun H hw hS => ?_)
  obtain ⟨E9, hE9⟩ : ∃ F : Nat → va_E, F = ue E8 (o + 28) (.inr (5, [.null, .int 0, .null, .null, .null, .null, .null, .int 0, .int 0])) := ⟨_, rfl⟩
  have hw : Rw G (o + 29) E9 H := by rw [hE9]; exact hw
  have q0 : E9 o = .inr (2, [.ref (bb G + (o + 1)), .int 0, .int 0]) := by rw [hE9]; exact ((ue_ne _ _ (show o ≠ (o + 28) by omega)).trans q0)
  have q1 : E9 (o + 1) = .inl (G.2.1 3, 14, .inr (.inr (.inr (.inr (va_up (va_up (fun _ => none) (0 : Int32).toNatClampNeg (some (bb G + (o + 2)))) (1 : Int32).toNatClampNeg (some (bb G + (o + 15)))))))) := by rw [hE9]; exact ((ue_ne _ _ (show (o + 1) ≠ (o + 28) by omega)).trans q1)
  have q28 : E9 (o + 28) = .inr (5, [.null, .int 0, .null, .null, .null, .null, .null, .int 0, .int 0]) := by rw [hE9]; exact ue_same _ _ _
  have hlow : ∀ (a : Nat) (ha : a < o), E9 (a) = E a := fun a ha => by rw [hE9]; exact ((ue_ne _ _ (show a ≠ (o + 28) by omega)).trans (hlow a ha))
  have hp2 : ∀ (j : Nat) (hj : j < 13), E9 ((o + 2) + j) = plantC G (o + 2) z0 j := fun j hj => by rw [hE9]; exact ((ue_ne _ _ (show (o + 2) + j ≠ (o + 28) by omega)).trans (hp2 j hj))
  have hp15 : ∀ (j : Nat) (hj : j < 13), E9 ((o + 15) + j) = plantC G (o + 15) z0 j := fun j hj => by rw [hE9]; exact ((ue_ne _ _ (show (o + 15) + j ≠ (o + 28) by omega)).trans (hp15 j hj))
  refine lv_dup hx hb dX2_init_32 rfl ?_
  refine rc_init hC hI (c_X5_init l G (o + 28) E9 q28) wiX2_17 ⟨rfl, rfl, by decide, by decide⟩ hw hS hl.1 (Nat.le_of_ble_eq_true rfl) dX2_init_33 ⟨by decide, by decide⟩ (fun H locs hw hS => ?_)
  obtain ⟨E10, hE10⟩ : ∃ F : Nat → va_E, F = pE G E9 (o + 28) := ⟨_, rfl⟩
  have hw : Rw G (o + 41) E10 H := by rw [hE10]; exact hw
  have q0 : E10 o = .inr (2, [.ref (bb G + (o + 1)), .int 0, .int 0]) := by rw [hE10]; exact ((pE_lt _ _ (show o < (o + 28) by omega)).trans q0)
  have q1 : E10 (o + 1) = .inl (G.2.1 3, 14, .inr (.inr (.inr (.inr (va_up (va_up (fun _ => none) (0 : Int32).toNatClampNeg (some (bb G + (o + 2)))) (1 : Int32).toNatClampNeg (some (bb G + (o + 15)))))))) := by rw [hE10]; exact ((pE_lt _ _ (show (o + 1) < (o + 28) by omega)).trans q1)
  have q28 : E10 (o + 28) = .inr (5, [.ref (bb G + ((o + 28) + 1)), .int (z0 65), .ref (bb G + ((o + 28) + 2)), .ref (bb G + ((o + 28) + 3)), .ref (bb G + ((o + 28) + 4)), .ref (bb G + ((o + 28) + 5)), .ref (bb G + ((o + 28) + 7)), .int (z0 6), .int (z0 7)]) := by rw [hE10]; exact pE_at G E9 (o + 28) 0
  have hlow : ∀ (a : Nat) (ha : a < o), E10 (a) = E a := fun a ha => by rw [hE10]; exact ((pE_lt _ _ (show a < (o + 28) by omega)).trans (hlow a ha))
  have hp2 : ∀ (j : Nat) (hj : j < 13), E10 ((o + 2) + j) = plantC G (o + 2) z0 j := fun j hj => by rw [hE10]; exact ((pE_lt _ _ (show (o + 2) + j < (o + 28) by omega)).trans (hp2 j hj))
  have hp15 : ∀ (j : Nat) (hj : j < 13), E10 ((o + 15) + j) = plantC G (o + 15) z0 j := fun j hj => by rw [hE10]; exact ((pE_lt _ _ (show (o + 15) + j < (o + 28) by omega)).trans (hp15 j hj))
  have hp28 : ∀ (j : Nat) (hj : j < 13), E10 ((o + 28) + j) = plantC G (o + 28) z0 j := fun j hj => by rw [hE10]; exact pE_at G E9 (o + 28) j
  refine rc_aast (t0 := 3) (r := vwCl[5]) hC hw hS (by omega) q1 rfl (by omega) q28 rfl (show vp_in (2 : Int32) 14 by unfold vp_in; decide) dX2_init_36 (fun H locs hw hS => ?_)
  obtain ⟨E11, hE11⟩ : ∃ F : Nat → va_E, F = ue E10 (o + 1) (.inl (G.2.1 3, 14, .inr (.inr (.inr (.inr (va_up (va_up (va_up (fun _ => none) (0 : Int32).toNatClampNeg (some (bb G + (o + 2)))) (1 : Int32).toNatClampNeg (some (bb G + (o + 15)))) (2 : Int32).toNatClampNeg (some (bb G + (o + 28))))))))) := ⟨_, rfl⟩
  have hw : Rw G (o + 41) E11 H := by rw [hE11]; exact hw
  have q0 : E11 o = .inr (2, [.ref (bb G + (o + 1)), .int 0, .int 0]) := by rw [hE11]; exact ((ue_ne _ _ (show o ≠ (o + 1) by omega)).trans q0)
  have q1 : E11 (o + 1) = .inl (G.2.1 3, 14, .inr (.inr (.inr (.inr (va_up (va_up (va_up (fun _ => none) (0 : Int32).toNatClampNeg (some (bb G + (o + 2)))) (1 : Int32).toNatClampNeg (some (bb G + (o + 15)))) (2 : Int32).toNatClampNeg (some (bb G + (o + 28)))))))) := by rw [hE11]; exact ue_same _ _ _
  have hlow : ∀ (a : Nat) (ha : a < o), E11 (a) = E a := fun a ha => by rw [hE11]; exact ((ue_ne _ _ (show a ≠ (o + 1) by omega)).trans (hlow a ha))
  have hp2 : ∀ (j : Nat) (hj : j < 13), E11 ((o + 2) + j) = plantC G (o + 2) z0 j := fun j hj => by rw [hE11]; exact ((ue_ne _ _ (show (o + 2) + j ≠ (o + 1) by omega)).trans (hp2 j hj))
  have hp15 : ∀ (j : Nat) (hj : j < 13), E11 ((o + 15) + j) = plantC G (o + 15) z0 j := fun j hj => by rw [hE11]; exact ((ue_ne _ _ (show (o + 15) + j ≠ (o + 1) by omega)).trans (hp15 j hj))
  have hp28 : ∀ (j : Nat) (hj : j < 13), E11 ((o + 28) + j) = plantC G (o + 28) z0 j := fun j hj => by rw [hE11]; exact ((ue_ne _ _ (show (o + 28) + j ≠ (o + 1) by omega)).trans (hp28 j hj))
  refine lv_iinc (v := 3) (lv' := [(1, .int (3 : Int32)), (0, .ref (bb G + o))]) hx hb dX2_init_37 hl (k := 0) rfl (by decide) (by decide) rfl (fun ls hl => ?_)
  refine lv_goto (tgt := 15) hx hb dX2_init_40 (by decide) ?_
  refine lv_iload_n hx hb dX2_init_15 rfl (lv_at hl 0 rfl) ?_
  refine lv_aload_n hx hb dX2_init_16 rfl (lv_at hl 1 rfl) ?_
  refine rc_get (v := .ref (bb G + (o + 1))) hC hw inX2g rfl (by omega) q0 0 (by decide) (lg 267 (by decide +kernel) rfl) rfl dX2_init_17 ?_
  refine rc_alen (t0 := 3) (v := 14) hC hw (by omega) q1 rfl rfl dX2_init_20 ?_
  refine lv_icmp_ge (tgt := 43) hx hb dX2_init_21 (by decide) (fun hc => ?_) (fun hc => ?_)
  · exact absurd hc (by decide)
  refine lv_aload_n hx hb dX2_init_24 rfl (lv_at hl 1 rfl) ?_
  refine rc_get (v := .ref (bb G + (o + 1))) hC hw inX2g rfl (by omega) q0 0 (by decide) (lg 267 (by decide +kernel) rfl) rfl dX2_init_25 ?_
  refine lv_iload_n hx hb dX2_init_28 rfl (lv_at hl 0 rfl) ?_
  refine rc_new (ci := 5) (fs := [.null, .int 0, .null, .null, .null, .null, .null, .int 0, .int 0]) hC hw hS inX5g tyX5_ok rfl nwX2_9 (fun j hj => by rcases (show j = 0 ∨ j = 1 ∨ j = 2 ∨ j = 3 ∨ j = 4 ∨ j = 5 ∨ j = 6 ∨ j = 7 ∨ j = 8 by omega) with rfl | rfl | rfl | rfl | rfl | rfl | rfl | rfl | rfl <;> rfl) (by decide) (by decide) dX2_init_29 (fun H hw hS => ?_)
  obtain ⟨E12, hE12⟩ : ∃ F : Nat → va_E, F = ue E11 (o + 41) (.inr (5, [.null, .int 0, .null, .null, .null, .null, .null, .int 0, .int 0])) := ⟨_, rfl⟩
  have hw : Rw G (o + 42) E12 H := by rw [hE12]; exact hw
  have q0 : E12 o = .inr (2, [.ref (bb G + (o + 1)), .int 0, .int 0]) := by rw [hE12]; exact ((ue_ne _ _ (show o ≠ (o + 41) by omega)).trans q0)
  have q1 : E12 (o + 1) = .inl (G.2.1 3, 14, .inr (.inr (.inr (.inr (va_up (va_up (va_up (fun _ => none) (0 : Int32).toNatClampNeg (some (bb G + (o + 2)))) (1 : Int32).toNatClampNeg (some (bb G + (o + 15)))) (2 : Int32).toNatClampNeg (some (bb G + (o + 28)))))))) := by rw [hE12]; exact ((ue_ne _ _ (show (o + 1) ≠ (o + 41) by omega)).trans q1)
  have q41 : E12 (o + 41) = .inr (5, [.null, .int 0, .null, .null, .null, .null, .null, .int 0, .int 0]) := by rw [hE12]; exact ue_same _ _ _
  have hlow : ∀ (a : Nat) (ha : a < o), E12 (a) = E a := fun a ha => by rw [hE12]; exact ((ue_ne _ _ (show a ≠ (o + 41) by omega)).trans (hlow a ha))
  have hp2 : ∀ (j : Nat) (hj : j < 13), E12 ((o + 2) + j) = plantC G (o + 2) z0 j := fun j hj => by rw [hE12]; exact ((ue_ne _ _ (show (o + 2) + j ≠ (o + 41) by omega)).trans (hp2 j hj))
  have hp15 : ∀ (j : Nat) (hj : j < 13), E12 ((o + 15) + j) = plantC G (o + 15) z0 j := fun j hj => by rw [hE12]; exact ((ue_ne _ _ (show (o + 15) + j ≠ (o + 41) by omega)).trans (hp15 j hj))
  have hp28 : ∀ (j : Nat) (hj : j < 13), E12 ((o + 28) + j) = plantC G (o + 28) z0 j := fun j hj => by rw [hE12]; exact ((ue_ne _ _ (show (o + 28) + j ≠ (o + 41) by omega)).trans (hp28 j hj))
  refine lv_dup hx hb dX2_init_32 rfl ?_
  refine rc_init hC hI (c_X5_init l G (o + 41) E12 q41) wiX2_17 ⟨rfl, rfl, by decide, by decide⟩ hw hS hl.1 (Nat.le_of_ble_eq_true rfl) dX2_init_33 ⟨by decide, by decide⟩ (fun H locs hw hS => ?_)
  obtain ⟨E13, hE13⟩ : ∃ F : Nat → va_E, F = pE G E12 (o + 41) := ⟨_, rfl⟩
  have hw : Rw G (o + 54) E13 H := by rw [hE13]; exact hw
  have q0 : E13 o = .inr (2, [.ref (bb G + (o + 1)), .int 0, .int 0]) := by rw [hE13]; exact ((pE_lt _ _ (show o < (o + 41) by omega)).trans q0)
  have q1 : E13 (o + 1) = .inl (G.2.1 3, 14, .inr (.inr (.inr (.inr (va_up (va_up (va_up (fun _ => none) (0 : Int32).toNatClampNeg (some (bb G + (o + 2)))) (1 : Int32).toNatClampNeg (some (bb G + (o + 15)))) (2 : Int32).toNatClampNeg (some (bb G + (o + 28)))))))) := by rw [hE13]; exact ((pE_lt _ _ (show (o + 1) < (o + 41) by omega)).trans q1)
  have q41 : E13 (o + 41) = .inr (5, [.ref (bb G + ((o + 41) + 1)), .int (z0 65), .ref (bb G + ((o + 41) + 2)), .ref (bb G + ((o + 41) + 3)), .ref (bb G + ((o + 41) + 4)), .ref (bb G + ((o + 41) + 5)), .ref (bb G + ((o + 41) + 7)), .int (z0 6), .int (z0 7)]) := by rw [hE13]; exact pE_at G E12 (o + 41) 0
  have hlow : ∀ (a : Nat) (ha : a < o), E13 (a) = E a := fun a ha => by rw [hE13]; exact ((pE_lt _ _ (show a < (o + 41) by omega)).trans (hlow a ha))
  have hp2 : ∀ (j : Nat) (hj : j < 13), E13 ((o + 2) + j) = plantC G (o + 2) z0 j := fun j hj => by rw [hE13]; exact ((pE_lt _ _ (show (o + 2) + j < (o + 41) by omega)).trans (hp2 j hj))
  have hp15 : ∀ (j : Nat) (hj : j < 13), E13 ((o + 15) + j) = plantC G (o + 15) z0 j := fun j hj => by rw [hE13]; exact ((pE_lt _ _ (show (o + 15) + j < (o + 41) by omega)).trans (hp15 j hj))
  have hp28 : ∀ (j : Nat) (hj : j < 13), E13 ((o + 28) + j) = plantC G (o + 28) z0 j := fun j hj => by rw [hE13]; exact ((pE_lt _ _ (show (o + 28) + j < (o + 41) by omega)).trans (hp28 j hj))
  have hp41 : ∀ (j : Nat) (hj : j < 13), E13 ((o + 41) + j) = plantC G (o + 41) z0 j := fun j hj => by rw [hE13]; exact pE_at G E12 (o + 41) j
  refine rc_aast (t0 := 3) (r := vwCl[5]) hC hw hS (by omega) q1 rfl (by omega) q41 rfl (show vp_in (3 : Int32) 14 by unfold vp_in; decide) dX2_init_36 (fun H locs hw hS => ?_)
  obtain ⟨E14, hE14⟩ : ∃ F : Nat → va_E, F = ue E13 (o + 1) (.inl (G.2.1 3, 14, .inr (.inr (.inr (.inr (va_up (va_up (va_up (va_up (fun _ => none) (0 : Int32).toNatClampNeg (some (bb G + (o + 2)))) (1 : Int32).toNatClampNeg (some (bb G + (o + 15)))) (2 : Int32).toNatClampNeg (some (bb G + (o + 28)))) (3 : Int32).toNatClampNeg (some (bb G + (o + 41))))))))) := ⟨_, rfl⟩
  have hw : Rw G (o + 54) E14 H := by rw [hE14]; exact hw
  have q0 : E14 o = .inr (2, [.ref (bb G + (o + 1)), .int 0, .int 0]) := by rw [hE14]; exact ((ue_ne _ _ (show o ≠ (o + 1) by omega)).trans q0)
  have q1 : E14 (o + 1) = .inl (G.2.1 3, 14, .inr (.inr (.inr (.inr (va_up (va_up (va_up (va_up (fun _ => none) (0 : Int32).toNatClampNeg (some (bb G + (o + 2)))) (1 : Int32).toNatClampNeg (some (bb G + (o + 15)))) (2 : Int32).toNatClampNeg (some (bb G + (o + 28)))) (3 : Int32).toNatClampNeg (some (bb G + (o + 41)))))))) := by rw [hE14]; exact ue_same _ _ _
  have hlow : ∀ (a : Nat) (ha : a < o), E14 (a) = E a := fun a ha => by rw [hE14]; exact ((ue_ne _ _ (show a ≠ (o + 1) by omega)).trans (hlow a ha))
  have hp2 : ∀ (j : Nat) (hj : j < 13), E14 ((o + 2) + j) = plantC G (o + 2) z0 j := fun j hj => by rw [hE14]; exact ((ue_ne _ _ (show (o + 2) + j ≠ (o + 1) by omega)).trans (hp2 j hj))
  have hp15 : ∀ (j : Nat) (hj : j < 13), E14 ((o + 15) + j) = plantC G (o + 15) z0 j := fun j hj => by rw [hE14]; exact ((ue_ne _ _ (show (o + 15) + j ≠ (o + 1) by omega)).trans (hp15 j hj))
  have hp28 : ∀ (j : Nat) (hj : j < 13), E14 ((o + 28) + j) = plantC G (o + 28) z0 j := fun j hj => by rw [hE14]; exact ((ue_ne _ _ (show (o + 28) + j ≠ (o + 1) by omega)).trans (hp28 j hj))
  have hp41 : ∀ (j : Nat) (hj : j < 13), E14 ((o + 41) + j) = plantC G (o + 41) z0 j := fun j hj => by rw [hE14]; exact ((ue_ne _ _ (show (o + 41) + j ≠ (o + 1) by omega)).trans (hp41 j hj))
  refine lv_iinc (v := 4) (lv' := [(1, .int (4 : Int32)), (0, .ref (bb G + o))]) hx hb dX2_init_37 hl (k := 0) rfl (by decide) (by decide) rfl (fun ls hl => ?_)
  refine lv_goto (tgt := 15) hx hb dX2_init_40 (by decide) ?_
  refine lv_iload_n hx hb dX2_init_15 rfl (lv_at hl 0 rfl) ?_
  refine lv_aload_n hx hb dX2_init_16 rfl (lv_at hl 1 rfl) ?_
  refine rc_get (v := .ref (bb G + (o + 1))) hC hw inX2g rfl (by omega) q0 0 (by decide) (lg 267 (by decide +kernel) rfl) rfl dX2_init_17 ?_
  refine rc_alen (t0 := 3) (v := 14) hC hw (by omega) q1 rfl rfl dX2_init_20 ?_
  refine lv_icmp_ge (tgt := 43) hx hb dX2_init_21 (by decide) (fun hc => ?_) (fun hc => ?_)
  · exact absurd hc (by decide)
  refine lv_aload_n hx hb dX2_init_24 rfl (lv_at hl 1 rfl) ?_
  refine rc_get (v := .ref (bb G + (o + 1))) hC hw inX2g rfl (by omega) q0 0 (by decide) (lg 267 (by decide +kernel) rfl) rfl dX2_init_25 ?_
  refine lv_iload_n hx hb dX2_init_28 rfl (lv_at hl 0 rfl) ?_
  refine rc_new (ci := 5) (fs := [.null, .int 0, .null, .null, .null, .null, .null, .int 0, .int 0]) hC hw hS inX5g tyX5_ok rfl nwX2_9 (fun j hj => by rcases (show j = 0 ∨ j = 1 ∨ j = 2 ∨ j = 3 ∨ j = 4 ∨ j = 5 ∨ j = 6 ∨ j = 7 ∨ j = 8 by omega) with rfl | rfl | rfl | rfl | rfl | rfl | rfl | rfl | rfl <;> rfl) (by decide) (by decide) dX2_init_29 (fun H hw hS => ?_)
  obtain ⟨E15, hE15⟩ : ∃ F : Nat → va_E, F = ue E14 (o + 54) (.inr (5, [.null, .int 0, .null, .null, .null, .null, .null, .int 0, .int 0])) := ⟨_, rfl⟩
  have hw : Rw G (o + 55) E15 H := by rw [hE15]; exact hw
  have q0 : E15 o = .inr (2, [.ref (bb G + (o + 1)), .int 0, .int 0]) := by rw [hE15]; exact ((ue_ne _ _ (show o ≠ (o + 54) by omega)).trans q0)
  have q1 : E15 (o + 1) = .inl (G.2.1 3, 14, .inr (.inr (.inr (.inr (va_up (va_up (va_up (va_up (fun _ => none) (0 : Int32).toNatClampNeg (some (bb G + (o + 2)))) (1 : Int32).toNatClampNeg (some (bb G + (o + 15)))) (2 : Int32).toNatClampNeg (some (bb G + (o + 28)))) (3 : Int32).toNatClampNeg (some (bb G + (o + 41)))))))) := by rw [hE15]; exact ((ue_ne _ _ (show (o + 1) ≠ (o + 54) by omega)).trans q1)
  have q54 : E15 (o + 54) = .inr (5, [.null, .int 0, .null, .null, .null, .null, .null, .int 0, .int 0]) := by rw [hE15]; exact ue_same _ _ _
  have hlow : ∀ (a : Nat) (ha : a < o), E15 (a) = E a := fun a ha => by rw [hE15]; exact ((ue_ne _ _ (show a ≠ (o + 54) by omega)).trans (hlow a ha))
  have hp2 : ∀ (j : Nat) (hj : j < 13), E15 ((o + 2) + j) = plantC G (o + 2) z0 j := fun j hj => by rw [hE15]; exact ((ue_ne _ _ (show (o + 2) + j ≠ (o + 54) by omega)).trans (hp2 j hj))
  have hp15 : ∀ (j : Nat) (hj : j < 13), E15 ((o + 15) + j) = plantC G (o + 15) z0 j := fun j hj => by rw [hE15]; exact ((ue_ne _ _ (show (o + 15) + j ≠ (o + 54) by omega)).trans (hp15 j hj))
  have hp28 : ∀ (j : Nat) (hj : j < 13), E15 ((o + 28) + j) = plantC G (o + 28) z0 j := fun j hj => by rw [hE15]; exact ((ue_ne _ _ (show (o + 28) + j ≠ (o + 54) by omega)).trans (hp28 j hj))
  have hp41 : ∀ (j : Nat) (hj : j < 13), E15 ((o + 41) + j) = plantC G (o + 41) z0 j := fun j hj => by rw [hE15]; exact ((ue_ne _ _ (show (o + 41) + j ≠ (o + 54) by omega)).trans (hp41 j hj))
  refine lv_dup hx hb dX2_init_32 rfl ?_
  refine rc_init hC hI (c_X5_init l G (o + 54) E15 q54) wiX2_17 ⟨rfl, rfl, by decide, by decide⟩ hw hS hl.1 (Nat.le_of_ble_eq_true rfl) dX2_init_33 ⟨by decide, by decide⟩ (fun H locs hw hS => ?_)
  obtain ⟨E16, hE16⟩ : ∃ F : Nat → va_E, F = pE G E15 (o + 54) := ⟨_, rfl⟩
  have hw : Rw G (o + 67) E16 H := by rw [hE16]; exact hw
  have q0 : E16 o = .inr (2, [.ref (bb G + (o + 1)), .int 0, .int 0]) := by rw [hE16]; exact ((pE_lt _ _ (show o < (o + 54) by omega)).trans q0)
  have q1 : E16 (o + 1) = .inl (G.2.1 3, 14, .inr (.inr (.inr (.inr (va_up (va_up (va_up (va_up (fun _ => none) (0 : Int32).toNatClampNeg (some (bb G + (o + 2)))) (1 : Int32).toNatClampNeg (some (bb G + (o + 15)))) (2 : Int32).toNatClampNeg (some (bb G + (o + 28)))) (3 : Int32).toNatClampNeg (some (bb G + (o + 41)))))))) := by rw [hE16]; exact ((pE_lt _ _ (show (o + 1) < (o + 54) by omega)).trans q1)
  have q54 : E16 (o + 54) = .inr (5, [.ref (bb G + ((o + 54) + 1)), .int (z0 65), .ref (bb G + ((o + 54) + 2)), .ref (bb G + ((o + 54) + 3)), .ref (bb G + ((o + 54) + 4)), .ref (bb G + ((o + 54) + 5)), .ref (bb G + ((o + 54) + 7)), .int (z0 6), .int (z0 7)]) := by rw [hE16]; exact pE_at G E15 (o + 54) 0
  have hlow : ∀ (a : Nat) (ha : a < o), E16 (a) = E a := fun a ha => by rw [hE16]; exact ((pE_lt _ _ (show a < (o + 54) by omega)).trans (hlow a ha))
  have hp2 : ∀ (j : Nat) (hj : j < 13), E16 ((o + 2) + j) = plantC G (o + 2) z0 j := fun j hj => by rw [hE16]; exact ((pE_lt _ _ (show (o + 2) + j < (o + 54) by omega)).trans (hp2 j hj))
  have hp15 : ∀ (j : Nat) (hj : j < 13), E16 ((o + 15) + j) = plantC G (o + 15) z0 j := fun j hj => by rw [hE16]; exact ((pE_lt _ _ (show (o + 15) + j < (o + 54) by omega)).trans (hp15 j hj))
  have hp28 : ∀ (j : Nat) (hj : j < 13), E16 ((o + 28) + j) = plantC G (o + 28) z0 j := fun j hj => by rw [hE16]; exact ((pE_lt _ _ (show (o + 28) + j < (o + 54) by omega)).trans (hp28 j hj))
  have hp41 : ∀ (j : Nat) (hj : j < 13), E16 ((o + 41) + j) = plantC G (o + 41) z0 j := fun j hj => by rw [hE16]; exact ((pE_lt _ _ (show (o + 41) + j < (o + 54) by omega)).trans (hp41 j hj))
  have hp54 : ∀ (j : Nat) (hj : j < 13), E16 ((o + 54) + j) = plantC G (o + 54) z0 j := fun j hj => by rw [hE16]; exact pE_at G E15 (o + 54) j
  refine rc_aast (t0 := 3) (r := vwCl[5]) hC hw hS (by omega) q1 rfl (by omega) q54 rfl (show vp_in (4 : Int32) 14 by unfold vp_in; decide) dX2_init_36 (fun H locs hw hS => ?_)
  obtain ⟨E17, hE17⟩ : ∃ F : Nat → va_E, F = ue E16 (o + 1) (.inl (G.2.1 3, 14, .inr (.inr (.inr (.inr (va_up (va_up (va_up (va_up (va_up (fun _ => none) (0 : Int32).toNatClampNeg (some (bb G + (o + 2)))) (1 : Int32).toNatClampNeg (some (bb G + (o + 15)))) (2 : Int32).toNatClampNeg (some (bb G + (o + 28)))) (3 : Int32).toNatClampNeg (some (bb G + (o + 41)))) (4 : Int32).toNatClampNeg (some (bb G + (o + 54))))))))) := ⟨_, rfl⟩
  have hw : Rw G (o + 67) E17 H := by rw [hE17]; exact hw
  have q0 : E17 o = .inr (2, [.ref (bb G + (o + 1)), .int 0, .int 0]) := by rw [hE17]; exact ((ue_ne _ _ (show o ≠ (o + 1) by omega)).trans q0)
  have q1 : E17 (o + 1) = .inl (G.2.1 3, 14, .inr (.inr (.inr (.inr (va_up (va_up (va_up (va_up (va_up (fun _ => none) (0 : Int32).toNatClampNeg (some (bb G + (o + 2)))) (1 : Int32).toNatClampNeg (some (bb G + (o + 15)))) (2 : Int32).toNatClampNeg (some (bb G + (o + 28)))) (3 : Int32).toNatClampNeg (some (bb G + (o + 41)))) (4 : Int32).toNatClampNeg (some (bb G + (o + 54)))))))) := by rw [hE17]; exact ue_same _ _ _
  have hlow : ∀ (a : Nat) (ha : a < o), E17 (a) = E a := fun a ha => by rw [hE17]; exact ((ue_ne _ _ (show a ≠ (o + 1) by omega)).trans (hlow a ha))
  have hp2 : ∀ (j : Nat) (hj : j < 13), E17 ((o + 2) + j) = plantC G (o + 2) z0 j := fun j hj => by rw [hE17]; exact ((ue_ne _ _ (show (o + 2) + j ≠ (o + 1) by omega)).trans (hp2 j hj))
  have hp15 : ∀ (j : Nat) (hj : j < 13), E17 ((o + 15) + j) = plantC G (o + 15) z0 j := fun j hj => by rw [hE17]; exact ((ue_ne _ _ (show (o + 15) + j ≠ (o + 1) by omega)).trans (hp15 j hj))
  have hp28 : ∀ (j : Nat) (hj : j < 13), E17 ((o + 28) + j) = plantC G (o + 28) z0 j := fun j hj => by rw [hE17]; exact ((ue_ne _ _ (show (o + 28) + j ≠ (o + 1) by omega)).trans (hp28 j hj))
  have hp41 : ∀ (j : Nat) (hj : j < 13), E17 ((o + 41) + j) = plantC G (o + 41) z0 j := fun j hj => by rw [hE17]; exact ((ue_ne _ _ (show (o + 41) + j ≠ (o + 1) by omega)).trans (hp41 j hj))
  have hp54 : ∀ (j : Nat) (hj : j < 13), E17 ((o + 54) + j) = plantC G (o + 54) z0 j := fun j hj => by rw [hE17]; exact ((ue_ne _ _ (show (o + 54) + j ≠ (o + 1) by omega)).trans (hp54 j hj))
  refine lv_iinc (v := 5) (lv' := [(1, .int (5 : Int32)), (0, .ref (bb G + o))]) hx hb dX2_init_37 hl (k := 0) rfl (by decide) (by decide) rfl (fun ls hl => ?_)
  refine lv_goto (tgt := 15) hx hb dX2_init_40 (by decide) ?_
  refine lv_iload_n hx hb dX2_init_15 rfl (lv_at hl 0 rfl) ?_
  refine lv_aload_n hx hb dX2_init_16 rfl (lv_at hl 1 rfl) ?_
  refine rc_get (v := .ref (bb G + (o + 1))) hC hw inX2g rfl (by omega) q0 0 (by decide) (lg 267 (by decide +kernel) rfl) rfl dX2_init_17 ?_
  refine rc_alen (t0 := 3) (v := 14) hC hw (by omega) q1 rfl rfl dX2_init_20 ?_
  refine lv_icmp_ge (tgt := 43) hx hb dX2_init_21 (by decide) (fun hc => ?_) (fun hc => ?_)
  · exact absurd hc (by decide)
  refine lv_aload_n hx hb dX2_init_24 rfl (lv_at hl 1 rfl) ?_
  refine rc_get (v := .ref (bb G + (o + 1))) hC hw inX2g rfl (by omega) q0 0 (by decide) (lg 267 (by decide +kernel) rfl) rfl dX2_init_25 ?_
  refine lv_iload_n hx hb dX2_init_28 rfl (lv_at hl 0 rfl) ?_
  refine rc_new (ci := 5) (fs := [.null, .int 0, .null, .null, .null, .null, .null, .int 0, .int 0]) hC hw hS inX5g tyX5_ok rfl nwX2_9 (fun j hj => by rcases (show j = 0 ∨ j = 1 ∨ j = 2 ∨ j = 3 ∨ j = 4 ∨ j = 5 ∨ j = 6 ∨ j = 7 ∨ j = 8 by omega) with rfl | rfl | rfl | rfl | rfl | rfl | rfl | rfl | rfl <;> rfl) (by decide) (by decide) dX2_init_29 (fun H hw hS => ?_)
  obtain ⟨E18, hE18⟩ : ∃ F : Nat → va_E, F = ue E17 (o + 67) (.inr (5, [.null, .int 0, .null, .null, .null, .null, .null, .int 0, .int 0])) := ⟨_, rfl⟩
  have hw : Rw G (o + 68) E18 H := by rw [hE18]; exact hw
  have q0 : E18 o = .inr (2, [.ref (bb G + (o + 1)), .int 0, .int 0]) := by rw [hE18]; exact ((ue_ne _ _ (show o ≠ (o + 67) by omega)).trans q0)
  have q1 : E18 (o + 1) = .inl (G.2.1 3, 14, .inr (.inr (.inr (.inr (va_up (va_up (va_up (va_up (va_up (fun _ => none) (0 : Int32).toNatClampNeg (some (bb G + (o + 2)))) (1 : Int32).toNatClampNeg (some (bb G + (o + 15)))) (2 : Int32).toNatClampNeg (some (bb G + (o + 28)))) (3 : Int32).toNatClampNeg (some (bb G + (o + 41)))) (4 : Int32).toNatClampNeg (some (bb G + (o + 54)))))))) := by rw [hE18]; exact ((ue_ne _ _ (show (o + 1) ≠ (o + 67) by omega)).trans q1)
  have q67 : E18 (o + 67) = .inr (5, [.null, .int 0, .null, .null, .null, .null, .null, .int 0, .int 0]) := by rw [hE18]; exact ue_same _ _ _
  have hlow : ∀ (a : Nat) (ha : a < o), E18 (a) = E a := fun a ha => by rw [hE18]; exact ((ue_ne _ _ (show a ≠ (o + 67) by omega)).trans (hlow a ha))
  have hp2 : ∀ (j : Nat) (hj : j < 13), E18 ((o + 2) + j) = plantC G (o + 2) z0 j := fun j hj => by rw [hE18]; exact ((ue_ne _ _ (show (o + 2) + j ≠ (o + 67) by omega)).trans (hp2 j hj))
  have hp15 : ∀ (j : Nat) (hj : j < 13), E18 ((o + 15) + j) = plantC G (o + 15) z0 j := fun j hj => by rw [hE18]; exact ((ue_ne _ _ (show (o + 15) + j ≠ (o + 67) by omega)).trans (hp15 j hj))
  have hp28 : ∀ (j : Nat) (hj : j < 13), E18 ((o + 28) + j) = plantC G (o + 28) z0 j := fun j hj => by rw [hE18]; exact ((ue_ne _ _ (show (o + 28) + j ≠ (o + 67) by omega)).trans (hp28 j hj))
  have hp41 : ∀ (j : Nat) (hj : j < 13), E18 ((o + 41) + j) = plantC G (o + 41) z0 j := fun j hj => by rw [hE18]; exact ((ue_ne _ _ (show (o + 41) + j ≠ (o + 67) by omega)).trans (hp41 j hj))
  have hp54 : ∀ (j : Nat) (hj : j < 13), E18 ((o + 54) + j) = plantC G (o + 54) z0 j := fun j hj => by rw [hE18]; exact ((ue_ne _ _ (show (o + 54) + j ≠ (o + 67) by omega)).trans (hp54 j hj))
  refine lv_dup hx hb dX2_init_32 rfl ?_
  refine rc_init hC hI (c_X5_init l G (o + 67) E18 q67) wiX2_17 ⟨rfl, rfl, by decide, by decide⟩ hw hS hl.1 (Nat.le_of_ble_eq_true rfl) dX2_init_33 ⟨by decide, by decide⟩ (fun H locs hw hS => ?_)
  obtain ⟨E19, hE19⟩ : ∃ F : Nat → va_E, F = pE G E18 (o + 67) := ⟨_, rfl⟩
  have hw : Rw G (o + 80) E19 H := by rw [hE19]; exact hw
  have q0 : E19 o = .inr (2, [.ref (bb G + (o + 1)), .int 0, .int 0]) := by rw [hE19]; exact ((pE_lt _ _ (show o < (o + 67) by omega)).trans q0)
  have q1 : E19 (o + 1) = .inl (G.2.1 3, 14, .inr (.inr (.inr (.inr (va_up (va_up (va_up (va_up (va_up (fun _ => none) (0 : Int32).toNatClampNeg (some (bb G + (o + 2)))) (1 : Int32).toNatClampNeg (some (bb G + (o + 15)))) (2 : Int32).toNatClampNeg (some (bb G + (o + 28)))) (3 : Int32).toNatClampNeg (some (bb G + (o + 41)))) (4 : Int32).toNatClampNeg (some (bb G + (o + 54)))))))) := by rw [hE19]; exact ((pE_lt _ _ (show (o + 1) < (o + 67) by omega)).trans q1)
  have q67 : E19 (o + 67) = .inr (5, [.ref (bb G + ((o + 67) + 1)), .int (z0 65), .ref (bb G + ((o + 67) + 2)), .ref (bb G + ((o + 67) + 3)), .ref (bb G + ((o + 67) + 4)), .ref (bb G + ((o + 67) + 5)), .ref (bb G + ((o + 67) + 7)), .int (z0 6), .int (z0 7)]) := by rw [hE19]; exact pE_at G E18 (o + 67) 0
  have hlow : ∀ (a : Nat) (ha : a < o), E19 (a) = E a := fun a ha => by rw [hE19]; exact ((pE_lt _ _ (show a < (o + 67) by omega)).trans (hlow a ha))
  have hp2 : ∀ (j : Nat) (hj : j < 13), E19 ((o + 2) + j) = plantC G (o + 2) z0 j := fun j hj => by rw [hE19]; exact ((pE_lt _ _ (show (o + 2) + j < (o + 67) by omega)).trans (hp2 j hj))
  have hp15 : ∀ (j : Nat) (hj : j < 13), E19 ((o + 15) + j) = plantC G (o + 15) z0 j := fun j hj => by rw [hE19]; exact ((pE_lt _ _ (show (o + 15) + j < (o + 67) by omega)).trans (hp15 j hj))
  have hp28 : ∀ (j : Nat) (hj : j < 13), E19 ((o + 28) + j) = plantC G (o + 28) z0 j := fun j hj => by rw [hE19]; exact ((pE_lt _ _ (show (o + 28) + j < (o + 67) by omega)).trans (hp28 j hj))
  have hp41 : ∀ (j : Nat) (hj : j < 13), E19 ((o + 41) + j) = plantC G (o + 41) z0 j := fun j hj => by rw [hE19]; exact ((pE_lt _ _ (show (o + 41) + j < (o + 67) by omega)).trans (hp41 j hj))
  have hp54 : ∀ (j : Nat) (hj : j < 13), E19 ((o + 54) + j) = plantC G (o + 54) z0 j := fun j hj => by rw [hE19]; exact ((pE_lt _ _ (show (o + 54) + j < (o + 67) by omega)).trans (hp54 j hj))
  have hp67 : ∀ (j : Nat) (hj : j < 13), E19 ((o + 67) + j) = plantC G (o + 67) z0 j := fun j hj => by rw [hE19]; exact pE_at G E18 (o + 67) j
  refine rc_aast (t0 := 3) (r := vwCl[5]) hC hw hS (by omega) q1 rfl (by omega) q67 rfl (show vp_in (5 : Int32) 14 by unfold vp_in; decide) dX2_init_36 (fun H locs hw hS => ?_)
  obtain ⟨E20, hE20⟩ : ∃ F : Nat → va_E, F = ue E19 (o + 1) (.inl (G.2.1 3, 14, .inr (.inr (.inr (.inr (va_up (va_up (va_up (va_up (va_up (va_up (fun _ => none) (0 : Int32).toNatClampNeg (some (bb G + (o + 2)))) (1 : Int32).toNatClampNeg (some (bb G + (o + 15)))) (2 : Int32).toNatClampNeg (some (bb G + (o + 28)))) (3 : Int32).toNatClampNeg (some (bb G + (o + 41)))) (4 : Int32).toNatClampNeg (some (bb G + (o + 54)))) (5 : Int32).toNatClampNeg (some (bb G + (o + 67))))))))) := ⟨_, rfl⟩
  have hw : Rw G (o + 80) E20 H := by rw [hE20]; exact hw
  have q0 : E20 o = .inr (2, [.ref (bb G + (o + 1)), .int 0, .int 0]) := by rw [hE20]; exact ((ue_ne _ _ (show o ≠ (o + 1) by omega)).trans q0)
  have q1 : E20 (o + 1) = .inl (G.2.1 3, 14, .inr (.inr (.inr (.inr (va_up (va_up (va_up (va_up (va_up (va_up (fun _ => none) (0 : Int32).toNatClampNeg (some (bb G + (o + 2)))) (1 : Int32).toNatClampNeg (some (bb G + (o + 15)))) (2 : Int32).toNatClampNeg (some (bb G + (o + 28)))) (3 : Int32).toNatClampNeg (some (bb G + (o + 41)))) (4 : Int32).toNatClampNeg (some (bb G + (o + 54)))) (5 : Int32).toNatClampNeg (some (bb G + (o + 67)))))))) := by rw [hE20]; exact ue_same _ _ _
  have hlow : ∀ (a : Nat) (ha : a < o), E20 (a) = E a := fun a ha => by rw [hE20]; exact ((ue_ne _ _ (show a ≠ (o + 1) by omega)).trans (hlow a ha))
  have hp2 : ∀ (j : Nat) (hj : j < 13), E20 ((o + 2) + j) = plantC G (o + 2) z0 j := fun j hj => by rw [hE20]; exact ((ue_ne _ _ (show (o + 2) + j ≠ (o + 1) by omega)).trans (hp2 j hj))
  have hp15 : ∀ (j : Nat) (hj : j < 13), E20 ((o + 15) + j) = plantC G (o + 15) z0 j := fun j hj => by rw [hE20]; exact ((ue_ne _ _ (show (o + 15) + j ≠ (o + 1) by omega)).trans (hp15 j hj))
  have hp28 : ∀ (j : Nat) (hj : j < 13), E20 ((o + 28) + j) = plantC G (o + 28) z0 j := fun j hj => by rw [hE20]; exact ((ue_ne _ _ (show (o + 28) + j ≠ (o + 1) by omega)).trans (hp28 j hj))
  have hp41 : ∀ (j : Nat) (hj : j < 13), E20 ((o + 41) + j) = plantC G (o + 41) z0 j := fun j hj => by rw [hE20]; exact ((ue_ne _ _ (show (o + 41) + j ≠ (o + 1) by omega)).trans (hp41 j hj))
  have hp54 : ∀ (j : Nat) (hj : j < 13), E20 ((o + 54) + j) = plantC G (o + 54) z0 j := fun j hj => by rw [hE20]; exact ((ue_ne _ _ (show (o + 54) + j ≠ (o + 1) by omega)).trans (hp54 j hj))
  have hp67 : ∀ (j : Nat) (hj : j < 13), E20 ((o + 67) + j) = plantC G (o + 67) z0 j := fun j hj => by rw [hE20]; exact ((ue_ne _ _ (show (o + 67) + j ≠ (o + 1) by omega)).trans (hp67 j hj))
  refine lv_iinc (v := 6) (lv' := [(1, .int (6 : Int32)), (0, .ref (bb G + o))]) hx hb dX2_init_37 hl (k := 0) rfl (by decide) (by decide) rfl (fun ls hl => ?_)
  refine lv_goto (tgt := 15) hx hb dX2_init_40 (by decide) ?_
  refine lv_iload_n hx hb dX2_init_15 rfl (lv_at hl 0 rfl) ?_
  refine lv_aload_n hx hb dX2_init_16 rfl (lv_at hl 1 rfl) ?_
  refine rc_get (v := .ref (bb G + (o + 1))) hC hw inX2g rfl (by omega) q0 0 (by decide) (lg 267 (by decide +kernel) rfl) rfl dX2_init_17 ?_
  refine rc_alen (t0 := 3) (v := 14) hC hw (by omega) q1 rfl rfl dX2_init_20 ?_
  refine lv_icmp_ge (tgt := 43) hx hb dX2_init_21 (by decide) (fun hc => ?_) (fun hc => ?_)
  · exact absurd hc (by decide)
  refine lv_aload_n hx hb dX2_init_24 rfl (lv_at hl 1 rfl) ?_
  refine rc_get (v := .ref (bb G + (o + 1))) hC hw inX2g rfl (by omega) q0 0 (by decide) (lg 267 (by decide +kernel) rfl) rfl dX2_init_25 ?_
  refine lv_iload_n hx hb dX2_init_28 rfl (lv_at hl 0 rfl) ?_
  refine rc_new (ci := 5) (fs := [.null, .int 0, .null, .null, .null, .null, .null, .int 0, .int 0]) hC hw hS inX5g tyX5_ok rfl nwX2_9 (fun j hj => by rcases (show j = 0 ∨ j = 1 ∨ j = 2 ∨ j = 3 ∨ j = 4 ∨ j = 5 ∨ j = 6 ∨ j = 7 ∨ j = 8 by omega) with rfl | rfl | rfl | rfl | rfl | rfl | rfl | rfl | rfl <;> rfl) (by decide) (by decide) dX2_init_29 (fun H hw hS => ?_)
  obtain ⟨E21, hE21⟩ : ∃ F : Nat → va_E, F = ue E20 (o + 80) (.inr (5, [.null, .int 0, .null, .null, .null, .null, .null, .int 0, .int 0])) := ⟨_, rfl⟩
  have hw : Rw G (o + 81) E21 H := by rw [hE21]; exact hw
  have q0 : E21 o = .inr (2, [.ref (bb G + (o + 1)), .int 0, .int 0]) := by rw [hE21]; exact ((ue_ne _ _ (show o ≠ (o + 80) by omega)).trans q0)
  have q1 : E21 (o + 1) = .inl (G.2.1 3, 14, .inr (.inr (.inr (.inr (va_up (va_up (va_up (va_up (va_up (va_up (fun _ => none) (0 : Int32).toNatClampNeg (some (bb G + (o + 2)))) (1 : Int32).toNatClampNeg (some (bb G + (o + 15)))) (2 : Int32).toNatClampNeg (some (bb G + (o + 28)))) (3 : Int32).toNatClampNeg (some (bb G + (o + 41)))) (4 : Int32).toNatClampNeg (some (bb G + (o + 54)))) (5 : Int32).toNatClampNeg (some (bb G + (o + 67)))))))) := by rw [hE21]; exact ((ue_ne _ _ (show (o + 1) ≠ (o + 80) by omega)).trans q1)
  have q80 : E21 (o + 80) = .inr (5, [.null, .int 0, .null, .null, .null, .null, .null, .int 0, .int 0]) := by rw [hE21]; exact ue_same _ _ _
  have hlow : ∀ (a : Nat) (ha : a < o), E21 (a) = E a := fun a ha => by rw [hE21]; exact ((ue_ne _ _ (show a ≠ (o + 80) by omega)).trans (hlow a ha))
  have hp2 : ∀ (j : Nat) (hj : j < 13), E21 ((o + 2) + j) = plantC G (o + 2) z0 j := fun j hj => by rw [hE21]; exact ((ue_ne _ _ (show (o + 2) + j ≠ (o + 80) by omega)).trans (hp2 j hj))
  have hp15 : ∀ (j : Nat) (hj : j < 13), E21 ((o + 15) + j) = plantC G (o + 15) z0 j := fun j hj => by rw [hE21]; exact ((ue_ne _ _ (show (o + 15) + j ≠ (o + 80) by omega)).trans (hp15 j hj))
  have hp28 : ∀ (j : Nat) (hj : j < 13), E21 ((o + 28) + j) = plantC G (o + 28) z0 j := fun j hj => by rw [hE21]; exact ((ue_ne _ _ (show (o + 28) + j ≠ (o + 80) by omega)).trans (hp28 j hj))
  have hp41 : ∀ (j : Nat) (hj : j < 13), E21 ((o + 41) + j) = plantC G (o + 41) z0 j := fun j hj => by rw [hE21]; exact ((ue_ne _ _ (show (o + 41) + j ≠ (o + 80) by omega)).trans (hp41 j hj))
  have hp54 : ∀ (j : Nat) (hj : j < 13), E21 ((o + 54) + j) = plantC G (o + 54) z0 j := fun j hj => by rw [hE21]; exact ((ue_ne _ _ (show (o + 54) + j ≠ (o + 80) by omega)).trans (hp54 j hj))
  have hp67 : ∀ (j : Nat) (hj : j < 13), E21 ((o + 67) + j) = plantC G (o + 67) z0 j := fun j hj => by rw [hE21]; exact ((ue_ne _ _ (show (o + 67) + j ≠ (o + 80) by omega)).trans (hp67 j hj))
  refine lv_dup hx hb dX2_init_32 rfl ?_
  refine rc_init hC hI (c_X5_init l G (o + 80) E21 q80) wiX2_17 ⟨rfl, rfl, by decide, by decide⟩ hw hS hl.1 (Nat.le_of_ble_eq_true rfl) dX2_init_33 ⟨by decide, by decide⟩ (fun H locs hw hS => ?_)
  obtain ⟨E22, hE22⟩ : ∃ F : Nat → va_E, F = pE G E21 (o + 80) := ⟨_, rfl⟩
  have hw : Rw G (o + 93) E22 H := by rw [hE22]; exact hw
  have q0 : E22 o = .inr (2, [.ref (bb G + (o + 1)), .int 0, .int 0]) := by rw [hE22]; exact ((pE_lt _ _ (show o < (o + 80) by omega)).trans q0)
  have q1 : E22 (o + 1) = .inl (G.2.1 3, 14, .inr (.inr (.inr (.inr (va_up (va_up (va_up (va_up (va_up (va_up (fun _ => none) (0 : Int32).toNatClampNeg (some (bb G + (o + 2)))) (1 : Int32).toNatClampNeg (some (bb G + (o + 15)))) (2 : Int32).toNatClampNeg (some (bb G + (o + 28)))) (3 : Int32).toNatClampNeg (some (bb G + (o + 41)))) (4 : Int32).toNatClampNeg (some (bb G + (o + 54)))) (5 : Int32).toNatClampNeg (some (bb G + (o + 67)))))))) := by rw [hE22]; exact ((pE_lt _ _ (show (o + 1) < (o + 80) by omega)).trans q1)
  have q80 : E22 (o + 80) = .inr (5, [.ref (bb G + ((o + 80) + 1)), .int (z0 65), .ref (bb G + ((o + 80) + 2)), .ref (bb G + ((o + 80) + 3)), .ref (bb G + ((o + 80) + 4)), .ref (bb G + ((o + 80) + 5)), .ref (bb G + ((o + 80) + 7)), .int (z0 6), .int (z0 7)]) := by rw [hE22]; exact pE_at G E21 (o + 80) 0
  have hlow : ∀ (a : Nat) (ha : a < o), E22 (a) = E a := fun a ha => by rw [hE22]; exact ((pE_lt _ _ (show a < (o + 80) by omega)).trans (hlow a ha))
  have hp2 : ∀ (j : Nat) (hj : j < 13), E22 ((o + 2) + j) = plantC G (o + 2) z0 j := fun j hj => by rw [hE22]; exact ((pE_lt _ _ (show (o + 2) + j < (o + 80) by omega)).trans (hp2 j hj))
  have hp15 : ∀ (j : Nat) (hj : j < 13), E22 ((o + 15) + j) = plantC G (o + 15) z0 j := fun j hj => by rw [hE22]; exact ((pE_lt _ _ (show (o + 15) + j < (o + 80) by omega)).trans (hp15 j hj))
  have hp28 : ∀ (j : Nat) (hj : j < 13), E22 ((o + 28) + j) = plantC G (o + 28) z0 j := fun j hj => by rw [hE22]; exact ((pE_lt _ _ (show (o + 28) + j < (o + 80) by omega)).trans (hp28 j hj))
  have hp41 : ∀ (j : Nat) (hj : j < 13), E22 ((o + 41) + j) = plantC G (o + 41) z0 j := fun j hj => by rw [hE22]; exact ((pE_lt _ _ (show (o + 41) + j < (o + 80) by omega)).trans (hp41 j hj))
  have hp54 : ∀ (j : Nat) (hj : j < 13), E22 ((o + 54) + j) = plantC G (o + 54) z0 j := fun j hj => by rw [hE22]; exact ((pE_lt _ _ (show (o + 54) + j < (o + 80) by omega)).trans (hp54 j hj))
  have hp67 : ∀ (j : Nat) (hj : j < 13), E22 ((o + 67) + j) = plantC G (o + 67) z0 j := fun j hj => by rw [hE22]; exact ((pE_lt _ _ (show (o + 67) + j < (o + 80) by omega)).trans (hp67 j hj))
  have hp80 : ∀ (j : Nat) (hj : j < 13), E22 ((o + 80) + j) = plantC G (o + 80) z0 j := fun j hj => by rw [hE22]; exact pE_at G E21 (o + 80) j
  refine rc_aast (t0 := 3) (r := vwCl[5]) hC hw hS (by omega) q1 rfl (by omega) q80 rfl (show vp_in (6 : Int32) 14 by unfold vp_in; decide) dX2_init_36 (fun H locs hw hS => ?_)
  obtain ⟨E23, hE23⟩ : ∃ F : Nat → va_E, F = ue E22 (o + 1) (.inl (G.2.1 3, 14, .inr (.inr (.inr (.inr (va_up (va_up (va_up (va_up (va_up (va_up (va_up (fun _ => none) (0 : Int32).toNatClampNeg (some (bb G + (o + 2)))) (1 : Int32).toNatClampNeg (some (bb G + (o + 15)))) (2 : Int32).toNatClampNeg (some (bb G + (o + 28)))) (3 : Int32).toNatClampNeg (some (bb G + (o + 41)))) (4 : Int32).toNatClampNeg (some (bb G + (o + 54)))) (5 : Int32).toNatClampNeg (some (bb G + (o + 67)))) (6 : Int32).toNatClampNeg (some (bb G + (o + 80))))))))) := ⟨_, rfl⟩
  have hw : Rw G (o + 93) E23 H := by rw [hE23]; exact hw
  have q0 : E23 o = .inr (2, [.ref (bb G + (o + 1)), .int 0, .int 0]) := by rw [hE23]; exact ((ue_ne _ _ (show o ≠ (o + 1) by omega)).trans q0)
  have q1 : E23 (o + 1) = .inl (G.2.1 3, 14, .inr (.inr (.inr (.inr (va_up (va_up (va_up (va_up (va_up (va_up (va_up (fun _ => none) (0 : Int32).toNatClampNeg (some (bb G + (o + 2)))) (1 : Int32).toNatClampNeg (some (bb G + (o + 15)))) (2 : Int32).toNatClampNeg (some (bb G + (o + 28)))) (3 : Int32).toNatClampNeg (some (bb G + (o + 41)))) (4 : Int32).toNatClampNeg (some (bb G + (o + 54)))) (5 : Int32).toNatClampNeg (some (bb G + (o + 67)))) (6 : Int32).toNatClampNeg (some (bb G + (o + 80)))))))) := by rw [hE23]; exact ue_same _ _ _
  have hlow : ∀ (a : Nat) (ha : a < o), E23 (a) = E a := fun a ha => by rw [hE23]; exact ((ue_ne _ _ (show a ≠ (o + 1) by omega)).trans (hlow a ha))
  have hp2 : ∀ (j : Nat) (hj : j < 13), E23 ((o + 2) + j) = plantC G (o + 2) z0 j := fun j hj => by rw [hE23]; exact ((ue_ne _ _ (show (o + 2) + j ≠ (o + 1) by omega)).trans (hp2 j hj))
  have hp15 : ∀ (j : Nat) (hj : j < 13), E23 ((o + 15) + j) = plantC G (o + 15) z0 j := fun j hj => by rw [hE23]; exact ((ue_ne _ _ (show (o + 15) + j ≠ (o + 1) by omega)).trans (hp15 j hj))
  have hp28 : ∀ (j : Nat) (hj : j < 13), E23 ((o + 28) + j) = plantC G (o + 28) z0 j := fun j hj => by rw [hE23]; exact ((ue_ne _ _ (show (o + 28) + j ≠ (o + 1) by omega)).trans (hp28 j hj))
  have hp41 : ∀ (j : Nat) (hj : j < 13), E23 ((o + 41) + j) = plantC G (o + 41) z0 j := fun j hj => by rw [hE23]; exact ((ue_ne _ _ (show (o + 41) + j ≠ (o + 1) by omega)).trans (hp41 j hj))
  have hp54 : ∀ (j : Nat) (hj : j < 13), E23 ((o + 54) + j) = plantC G (o + 54) z0 j := fun j hj => by rw [hE23]; exact ((ue_ne _ _ (show (o + 54) + j ≠ (o + 1) by omega)).trans (hp54 j hj))
  have hp67 : ∀ (j : Nat) (hj : j < 13), E23 ((o + 67) + j) = plantC G (o + 67) z0 j := fun j hj => by rw [hE23]; exact ((ue_ne _ _ (show (o + 67) + j ≠ (o + 1) by omega)).trans (hp67 j hj))
  have hp80 : ∀ (j : Nat) (hj : j < 13), E23 ((o + 80) + j) = plantC G (o + 80) z0 j := fun j hj => by rw [hE23]; exact ((ue_ne _ _ (show (o + 80) + j ≠ (o + 1) by omega)).trans (hp80 j hj))
  refine lv_iinc (v := 7) (lv' := [(1, .int (7 : Int32)), (0, .ref (bb G + o))]) hx hb dX2_init_37 hl (k := 0) rfl (by decide) (by decide) rfl (fun ls hl => ?_)
  refine lv_goto (tgt := 15) hx hb dX2_init_40 (by decide) ?_
  refine lv_iload_n hx hb dX2_init_15 rfl (lv_at hl 0 rfl) ?_
  refine lv_aload_n hx hb dX2_init_16 rfl (lv_at hl 1 rfl) ?_
  refine rc_get (v := .ref (bb G + (o + 1))) hC hw inX2g rfl (by omega) q0 0 (by decide) (lg 267 (by decide +kernel) rfl) rfl dX2_init_17 ?_
  refine rc_alen (t0 := 3) (v := 14) hC hw (by omega) q1 rfl rfl dX2_init_20 ?_
  refine lv_icmp_ge (tgt := 43) hx hb dX2_init_21 (by decide) (fun hc => ?_) (fun hc => ?_)
  · exact absurd hc (by decide)
  refine lv_aload_n hx hb dX2_init_24 rfl (lv_at hl 1 rfl) ?_
  refine rc_get (v := .ref (bb G + (o + 1))) hC hw inX2g rfl (by omega) q0 0 (by decide) (lg 267 (by decide +kernel) rfl) rfl dX2_init_25 ?_
  refine lv_iload_n hx hb dX2_init_28 rfl (lv_at hl 0 rfl) ?_
  refine rc_new (ci := 5) (fs := [.null, .int 0, .null, .null, .null, .null, .null, .int 0, .int 0]) hC hw hS inX5g tyX5_ok rfl nwX2_9 (fun j hj => by rcases (show j = 0 ∨ j = 1 ∨ j = 2 ∨ j = 3 ∨ j = 4 ∨ j = 5 ∨ j = 6 ∨ j = 7 ∨ j = 8 by omega) with rfl | rfl | rfl | rfl | rfl | rfl | rfl | rfl | rfl <;> rfl) (by decide) (by decide) dX2_init_29 (fun H hw hS => ?_)
  obtain ⟨E24, hE24⟩ : ∃ F : Nat → va_E, F = ue E23 (o + 93) (.inr (5, [.null, .int 0, .null, .null, .null, .null, .null, .int 0, .int 0])) := ⟨_, rfl⟩
  have hw : Rw G (o + 94) E24 H := by rw [hE24]; exact hw
  have q0 : E24 o = .inr (2, [.ref (bb G + (o + 1)), .int 0, .int 0]) := by rw [hE24]; exact ((ue_ne _ _ (show o ≠ (o + 93) by omega)).trans q0)
  have q1 : E24 (o + 1) = .inl (G.2.1 3, 14, .inr (.inr (.inr (.inr (va_up (va_up (va_up (va_up (va_up (va_up (va_up (fun _ => none) (0 : Int32).toNatClampNeg (some (bb G + (o + 2)))) (1 : Int32).toNatClampNeg (some (bb G + (o + 15)))) (2 : Int32).toNatClampNeg (some (bb G + (o + 28)))) (3 : Int32).toNatClampNeg (some (bb G + (o + 41)))) (4 : Int32).toNatClampNeg (some (bb G + (o + 54)))) (5 : Int32).toNatClampNeg (some (bb G + (o + 67)))) (6 : Int32).toNatClampNeg (some (bb G + (o + 80)))))))) := by rw [hE24]; exact ((ue_ne _ _ (show (o + 1) ≠ (o + 93) by omega)).trans q1)
  have q93 : E24 (o + 93) = .inr (5, [.null, .int 0, .null, .null, .null, .null, .null, .int 0, .int 0]) := by rw [hE24]; exact ue_same _ _ _
  have hlow : ∀ (a : Nat) (ha : a < o), E24 (a) = E a := fun a ha => by rw [hE24]; exact ((ue_ne _ _ (show a ≠ (o + 93) by omega)).trans (hlow a ha))
  have hp2 : ∀ (j : Nat) (hj : j < 13), E24 ((o + 2) + j) = plantC G (o + 2) z0 j := fun j hj => by rw [hE24]; exact ((ue_ne _ _ (show (o + 2) + j ≠ (o + 93) by omega)).trans (hp2 j hj))
  have hp15 : ∀ (j : Nat) (hj : j < 13), E24 ((o + 15) + j) = plantC G (o + 15) z0 j := fun j hj => by rw [hE24]; exact ((ue_ne _ _ (show (o + 15) + j ≠ (o + 93) by omega)).trans (hp15 j hj))
  have hp28 : ∀ (j : Nat) (hj : j < 13), E24 ((o + 28) + j) = plantC G (o + 28) z0 j := fun j hj => by rw [hE24]; exact ((ue_ne _ _ (show (o + 28) + j ≠ (o + 93) by omega)).trans (hp28 j hj))
  have hp41 : ∀ (j : Nat) (hj : j < 13), E24 ((o + 41) + j) = plantC G (o + 41) z0 j := fun j hj => by rw [hE24]; exact ((ue_ne _ _ (show (o + 41) + j ≠ (o + 93) by omega)).trans (hp41 j hj))
  have hp54 : ∀ (j : Nat) (hj : j < 13), E24 ((o + 54) + j) = plantC G (o + 54) z0 j := fun j hj => by rw [hE24]; exact ((ue_ne _ _ (show (o + 54) + j ≠ (o + 93) by omega)).trans (hp54 j hj))
  have hp67 : ∀ (j : Nat) (hj : j < 13), E24 ((o + 67) + j) = plantC G (o + 67) z0 j := fun j hj => by rw [hE24]; exact ((ue_ne _ _ (show (o + 67) + j ≠ (o + 93) by omega)).trans (hp67 j hj))
  have hp80 : ∀ (j : Nat) (hj : j < 13), E24 ((o + 80) + j) = plantC G (o + 80) z0 j := fun j hj => by rw [hE24]; exact ((ue_ne _ _ (show (o + 80) + j ≠ (o + 93) by omega)).trans (hp80 j hj))
  refine lv_dup hx hb dX2_init_32 rfl ?_
  refine rc_init hC hI (c_X5_init l G (o + 93) E24 q93) wiX2_17 ⟨rfl, rfl, by decide, by decide⟩ hw hS hl.1 (Nat.le_of_ble_eq_true rfl) dX2_init_33 ⟨by decide, by decide⟩ (fun H locs hw hS => ?_)
  obtain ⟨E25, hE25⟩ : ∃ F : Nat → va_E, F = pE G E24 (o + 93) := ⟨_, rfl⟩
  have hw : Rw G (o + 106) E25 H := by rw [hE25]; exact hw
  have q0 : E25 o = .inr (2, [.ref (bb G + (o + 1)), .int 0, .int 0]) := by rw [hE25]; exact ((pE_lt _ _ (show o < (o + 93) by omega)).trans q0)
  have q1 : E25 (o + 1) = .inl (G.2.1 3, 14, .inr (.inr (.inr (.inr (va_up (va_up (va_up (va_up (va_up (va_up (va_up (fun _ => none) (0 : Int32).toNatClampNeg (some (bb G + (o + 2)))) (1 : Int32).toNatClampNeg (some (bb G + (o + 15)))) (2 : Int32).toNatClampNeg (some (bb G + (o + 28)))) (3 : Int32).toNatClampNeg (some (bb G + (o + 41)))) (4 : Int32).toNatClampNeg (some (bb G + (o + 54)))) (5 : Int32).toNatClampNeg (some (bb G + (o + 67)))) (6 : Int32).toNatClampNeg (some (bb G + (o + 80)))))))) := by rw [hE25]; exact ((pE_lt _ _ (show (o + 1) < (o + 93) by omega)).trans q1)
  have q93 : E25 (o + 93) = .inr (5, [.ref (bb G + ((o + 93) + 1)), .int (z0 65), .ref (bb G + ((o + 93) + 2)), .ref (bb G + ((o + 93) + 3)), .ref (bb G + ((o + 93) + 4)), .ref (bb G + ((o + 93) + 5)), .ref (bb G + ((o + 93) + 7)), .int (z0 6), .int (z0 7)]) := by rw [hE25]; exact pE_at G E24 (o + 93) 0
  have hlow : ∀ (a : Nat) (ha : a < o), E25 (a) = E a := fun a ha => by rw [hE25]; exact ((pE_lt _ _ (show a < (o + 93) by omega)).trans (hlow a ha))
  have hp2 : ∀ (j : Nat) (hj : j < 13), E25 ((o + 2) + j) = plantC G (o + 2) z0 j := fun j hj => by rw [hE25]; exact ((pE_lt _ _ (show (o + 2) + j < (o + 93) by omega)).trans (hp2 j hj))
  have hp15 : ∀ (j : Nat) (hj : j < 13), E25 ((o + 15) + j) = plantC G (o + 15) z0 j := fun j hj => by rw [hE25]; exact ((pE_lt _ _ (show (o + 15) + j < (o + 93) by omega)).trans (hp15 j hj))
  have hp28 : ∀ (j : Nat) (hj : j < 13), E25 ((o + 28) + j) = plantC G (o + 28) z0 j := fun j hj => by rw [hE25]; exact ((pE_lt _ _ (show (o + 28) + j < (o + 93) by omega)).trans (hp28 j hj))
  have hp41 : ∀ (j : Nat) (hj : j < 13), E25 ((o + 41) + j) = plantC G (o + 41) z0 j := fun j hj => by rw [hE25]; exact ((pE_lt _ _ (show (o + 41) + j < (o + 93) by omega)).trans (hp41 j hj))
  have hp54 : ∀ (j : Nat) (hj : j < 13), E25 ((o + 54) + j) = plantC G (o + 54) z0 j := fun j hj => by rw [hE25]; exact ((pE_lt _ _ (show (o + 54) + j < (o + 93) by omega)).trans (hp54 j hj))
  have hp67 : ∀ (j : Nat) (hj : j < 13), E25 ((o + 67) + j) = plantC G (o + 67) z0 j := fun j hj => by rw [hE25]; exact ((pE_lt _ _ (show (o + 67) + j < (o + 93) by omega)).trans (hp67 j hj))
  have hp80 : ∀ (j : Nat) (hj : j < 13), E25 ((o + 80) + j) = plantC G (o + 80) z0 j := fun j hj => by rw [hE25]; exact ((pE_lt _ _ (show (o + 80) + j < (o + 93) by omega)).trans (hp80 j hj))
  have hp93 : ∀ (j : Nat) (hj : j < 13), E25 ((o + 93) + j) = plantC G (o + 93) z0 j := fun j hj => by rw [hE25]; exact pE_at G E24 (o + 93) j
  refine rc_aast (t0 := 3) (r := vwCl[5]) hC hw hS (by omega) q1 rfl (by omega) q93 rfl (show vp_in (7 : Int32) 14 by unfold vp_in; decide) dX2_init_36 (fun H locs hw hS => ?_)
  obtain ⟨E26, hE26⟩ : ∃ F : Nat → va_E, F = ue E25 (o + 1) (.inl (G.2.1 3, 14, .inr (.inr (.inr (.inr (va_up (va_up (va_up (va_up (va_up (va_up (va_up (va_up (fun _ => none) (0 : Int32).toNatClampNeg (some (bb G + (o + 2)))) (1 : Int32).toNatClampNeg (some (bb G + (o + 15)))) (2 : Int32).toNatClampNeg (some (bb G + (o + 28)))) (3 : Int32).toNatClampNeg (some (bb G + (o + 41)))) (4 : Int32).toNatClampNeg (some (bb G + (o + 54)))) (5 : Int32).toNatClampNeg (some (bb G + (o + 67)))) (6 : Int32).toNatClampNeg (some (bb G + (o + 80)))) (7 : Int32).toNatClampNeg (some (bb G + (o + 93))))))))) := ⟨_, rfl⟩
  have hw : Rw G (o + 106) E26 H := by rw [hE26]; exact hw
  have q0 : E26 o = .inr (2, [.ref (bb G + (o + 1)), .int 0, .int 0]) := by rw [hE26]; exact ((ue_ne _ _ (show o ≠ (o + 1) by omega)).trans q0)
  have q1 : E26 (o + 1) = .inl (G.2.1 3, 14, .inr (.inr (.inr (.inr (va_up (va_up (va_up (va_up (va_up (va_up (va_up (va_up (fun _ => none) (0 : Int32).toNatClampNeg (some (bb G + (o + 2)))) (1 : Int32).toNatClampNeg (some (bb G + (o + 15)))) (2 : Int32).toNatClampNeg (some (bb G + (o + 28)))) (3 : Int32).toNatClampNeg (some (bb G + (o + 41)))) (4 : Int32).toNatClampNeg (some (bb G + (o + 54)))) (5 : Int32).toNatClampNeg (some (bb G + (o + 67)))) (6 : Int32).toNatClampNeg (some (bb G + (o + 80)))) (7 : Int32).toNatClampNeg (some (bb G + (o + 93)))))))) := by rw [hE26]; exact ue_same _ _ _
  have hlow : ∀ (a : Nat) (ha : a < o), E26 (a) = E a := fun a ha => by rw [hE26]; exact ((ue_ne _ _ (show a ≠ (o + 1) by omega)).trans (hlow a ha))
  have hp2 : ∀ (j : Nat) (hj : j < 13), E26 ((o + 2) + j) = plantC G (o + 2) z0 j := fun j hj => by rw [hE26]; exact ((ue_ne _ _ (show (o + 2) + j ≠ (o + 1) by omega)).trans (hp2 j hj))
  have hp15 : ∀ (j : Nat) (hj : j < 13), E26 ((o + 15) + j) = plantC G (o + 15) z0 j := fun j hj => by rw [hE26]; exact ((ue_ne _ _ (show (o + 15) + j ≠ (o + 1) by omega)).trans (hp15 j hj))
  have hp28 : ∀ (j : Nat) (hj : j < 13), E26 ((o + 28) + j) = plantC G (o + 28) z0 j := fun j hj => by rw [hE26]; exact ((ue_ne _ _ (show (o + 28) + j ≠ (o + 1) by omega)).trans (hp28 j hj))
  have hp41 : ∀ (j : Nat) (hj : j < 13), E26 ((o + 41) + j) = plantC G (o + 41) z0 j := fun j hj => by rw [hE26]; exact ((ue_ne _ _ (show (o + 41) + j ≠ (o + 1) by omega)).trans (hp41 j hj))
  have hp54 : ∀ (j : Nat) (hj : j < 13), E26 ((o + 54) + j) = plantC G (o + 54) z0 j := fun j hj => by rw [hE26]; exact ((ue_ne _ _ (show (o + 54) + j ≠ (o + 1) by omega)).trans (hp54 j hj))
  have hp67 : ∀ (j : Nat) (hj : j < 13), E26 ((o + 67) + j) = plantC G (o + 67) z0 j := fun j hj => by rw [hE26]; exact ((ue_ne _ _ (show (o + 67) + j ≠ (o + 1) by omega)).trans (hp67 j hj))
  have hp80 : ∀ (j : Nat) (hj : j < 13), E26 ((o + 80) + j) = plantC G (o + 80) z0 j := fun j hj => by rw [hE26]; exact ((ue_ne _ _ (show (o + 80) + j ≠ (o + 1) by omega)).trans (hp80 j hj))
  have hp93 : ∀ (j : Nat) (hj : j < 13), E26 ((o + 93) + j) = plantC G (o + 93) z0 j := fun j hj => by rw [hE26]; exact ((ue_ne _ _ (show (o + 93) + j ≠ (o + 1) by omega)).trans (hp93 j hj))
  refine lv_iinc (v := 8) (lv' := [(1, .int (8 : Int32)), (0, .ref (bb G + o))]) hx hb dX2_init_37 hl (k := 0) rfl (by decide) (by decide) rfl (fun ls hl => ?_)
  refine lv_goto (tgt := 15) hx hb dX2_init_40 (by decide) ?_
  refine lv_iload_n hx hb dX2_init_15 rfl (lv_at hl 0 rfl) ?_
  refine lv_aload_n hx hb dX2_init_16 rfl (lv_at hl 1 rfl) ?_
  refine rc_get (v := .ref (bb G + (o + 1))) hC hw inX2g rfl (by omega) q0 0 (by decide) (lg 267 (by decide +kernel) rfl) rfl dX2_init_17 ?_
  refine rc_alen (t0 := 3) (v := 14) hC hw (by omega) q1 rfl rfl dX2_init_20 ?_
  refine lv_icmp_ge (tgt := 43) hx hb dX2_init_21 (by decide) (fun hc => ?_) (fun hc => ?_)
  · exact absurd hc (by decide)
  refine lv_aload_n hx hb dX2_init_24 rfl (lv_at hl 1 rfl) ?_
  refine rc_get (v := .ref (bb G + (o + 1))) hC hw inX2g rfl (by omega) q0 0 (by decide) (lg 267 (by decide +kernel) rfl) rfl dX2_init_25 ?_
  refine lv_iload_n hx hb dX2_init_28 rfl (lv_at hl 0 rfl) ?_
  refine rc_new (ci := 5) (fs := [.null, .int 0, .null, .null, .null, .null, .null, .int 0, .int 0]) hC hw hS inX5g tyX5_ok rfl nwX2_9 (fun j hj => by rcases (show j = 0 ∨ j = 1 ∨ j = 2 ∨ j = 3 ∨ j = 4 ∨ j = 5 ∨ j = 6 ∨ j = 7 ∨ j = 8 by omega) with rfl | rfl | rfl | rfl | rfl | rfl | rfl | rfl | rfl <;> rfl) (by decide) (by decide) dX2_init_29 (fun H hw hS => ?_)
  obtain ⟨E27, hE27⟩ : ∃ F : Nat → va_E, F = ue E26 (o + 106) (.inr (5, [.null, .int 0, .null, .null, .null, .null, .null, .int 0, .int 0])) := ⟨_, rfl⟩
  have hw : Rw G (o + 107) E27 H := by rw [hE27]; exact hw
  have q0 : E27 o = .inr (2, [.ref (bb G + (o + 1)), .int 0, .int 0]) := by rw [hE27]; exact ((ue_ne _ _ (show o ≠ (o + 106) by omega)).trans q0)
  have q1 : E27 (o + 1) = .inl (G.2.1 3, 14, .inr (.inr (.inr (.inr (va_up (va_up (va_up (va_up (va_up (va_up (va_up (va_up (fun _ => none) (0 : Int32).toNatClampNeg (some (bb G + (o + 2)))) (1 : Int32).toNatClampNeg (some (bb G + (o + 15)))) (2 : Int32).toNatClampNeg (some (bb G + (o + 28)))) (3 : Int32).toNatClampNeg (some (bb G + (o + 41)))) (4 : Int32).toNatClampNeg (some (bb G + (o + 54)))) (5 : Int32).toNatClampNeg (some (bb G + (o + 67)))) (6 : Int32).toNatClampNeg (some (bb G + (o + 80)))) (7 : Int32).toNatClampNeg (some (bb G + (o + 93)))))))) := by rw [hE27]; exact ((ue_ne _ _ (show (o + 1) ≠ (o + 106) by omega)).trans q1)
  have q106 : E27 (o + 106) = .inr (5, [.null, .int 0, .null, .null, .null, .null, .null, .int 0, .int 0]) := by rw [hE27]; exact ue_same _ _ _
  have hlow : ∀ (a : Nat) (ha : a < o), E27 (a) = E a := fun a ha => by rw [hE27]; exact ((ue_ne _ _ (show a ≠ (o + 106) by omega)).trans (hlow a ha))
  have hp2 : ∀ (j : Nat) (hj : j < 13), E27 ((o + 2) + j) = plantC G (o + 2) z0 j := fun j hj => by rw [hE27]; exact ((ue_ne _ _ (show (o + 2) + j ≠ (o + 106) by omega)).trans (hp2 j hj))
  have hp15 : ∀ (j : Nat) (hj : j < 13), E27 ((o + 15) + j) = plantC G (o + 15) z0 j := fun j hj => by rw [hE27]; exact ((ue_ne _ _ (show (o + 15) + j ≠ (o + 106) by omega)).trans (hp15 j hj))
  have hp28 : ∀ (j : Nat) (hj : j < 13), E27 ((o + 28) + j) = plantC G (o + 28) z0 j := fun j hj => by rw [hE27]; exact ((ue_ne _ _ (show (o + 28) + j ≠ (o + 106) by omega)).trans (hp28 j hj))
  have hp41 : ∀ (j : Nat) (hj : j < 13), E27 ((o + 41) + j) = plantC G (o + 41) z0 j := fun j hj => by rw [hE27]; exact ((ue_ne _ _ (show (o + 41) + j ≠ (o + 106) by omega)).trans (hp41 j hj))
  have hp54 : ∀ (j : Nat) (hj : j < 13), E27 ((o + 54) + j) = plantC G (o + 54) z0 j := fun j hj => by rw [hE27]; exact ((ue_ne _ _ (show (o + 54) + j ≠ (o + 106) by omega)).trans (hp54 j hj))
  have hp67 : ∀ (j : Nat) (hj : j < 13), E27 ((o + 67) + j) = plantC G (o + 67) z0 j := fun j hj => by rw [hE27]; exact ((ue_ne _ _ (show (o + 67) + j ≠ (o + 106) by omega)).trans (hp67 j hj))
  have hp80 : ∀ (j : Nat) (hj : j < 13), E27 ((o + 80) + j) = plantC G (o + 80) z0 j := fun j hj => by rw [hE27]; exact ((ue_ne _ _ (show (o + 80) + j ≠ (o + 106) by omega)).trans (hp80 j hj))
  have hp93 : ∀ (j : Nat) (hj : j < 13), E27 ((o + 93) + j) = plantC G (o + 93) z0 j := fun j hj => by rw [hE27]; exact ((ue_ne _ _ (show (o + 93) + j ≠ (o + 106) by omega)).trans (hp93 j hj))
  refine lv_dup hx hb dX2_init_32 rfl ?_
  refine rc_init hC hI (c_X5_init l G (o + 106) E27 q106) wiX2_17 ⟨rfl, rfl, by decide, by decide⟩ hw hS hl.1 (Nat.le_of_ble_eq_true rfl) dX2_init_33 ⟨by decide, by decide⟩ (fun H locs hw hS => ?_)
  obtain ⟨E28, hE28⟩ : ∃ F : Nat → va_E, F = pE G E27 (o + 106) := ⟨_, rfl⟩
  have hw : Rw G (o + 119) E28 H := by rw [hE28]; exact hw
  have q0 : E28 o = .inr (2, [.ref (bb G + (o + 1)), .int 0, .int 0]) := by rw [hE28]; exact ((pE_lt _ _ (show o < (o + 106) by omega)).trans q0)
  have q1 : E28 (o + 1) = .inl (G.2.1 3, 14, .inr (.inr (.inr (.inr (va_up (va_up (va_up (va_up (va_up (va_up (va_up (va_up (fun _ => none) (0 : Int32).toNatClampNeg (some (bb G + (o + 2)))) (1 : Int32).toNatClampNeg (some (bb G + (o + 15)))) (2 : Int32).toNatClampNeg (some (bb G + (o + 28)))) (3 : Int32).toNatClampNeg (some (bb G + (o + 41)))) (4 : Int32).toNatClampNeg (some (bb G + (o + 54)))) (5 : Int32).toNatClampNeg (some (bb G + (o + 67)))) (6 : Int32).toNatClampNeg (some (bb G + (o + 80)))) (7 : Int32).toNatClampNeg (some (bb G + (o + 93)))))))) := by rw [hE28]; exact ((pE_lt _ _ (show (o + 1) < (o + 106) by omega)).trans q1)
  have q106 : E28 (o + 106) = .inr (5, [.ref (bb G + ((o + 106) + 1)), .int (z0 65), .ref (bb G + ((o + 106) + 2)), .ref (bb G + ((o + 106) + 3)), .ref (bb G + ((o + 106) + 4)), .ref (bb G + ((o + 106) + 5)), .ref (bb G + ((o + 106) + 7)), .int (z0 6), .int (z0 7)]) := by rw [hE28]; exact pE_at G E27 (o + 106) 0
  have hlow : ∀ (a : Nat) (ha : a < o), E28 (a) = E a := fun a ha => by rw [hE28]; exact ((pE_lt _ _ (show a < (o + 106) by omega)).trans (hlow a ha))
  have hp2 : ∀ (j : Nat) (hj : j < 13), E28 ((o + 2) + j) = plantC G (o + 2) z0 j := fun j hj => by rw [hE28]; exact ((pE_lt _ _ (show (o + 2) + j < (o + 106) by omega)).trans (hp2 j hj))
  have hp15 : ∀ (j : Nat) (hj : j < 13), E28 ((o + 15) + j) = plantC G (o + 15) z0 j := fun j hj => by rw [hE28]; exact ((pE_lt _ _ (show (o + 15) + j < (o + 106) by omega)).trans (hp15 j hj))
  have hp28 : ∀ (j : Nat) (hj : j < 13), E28 ((o + 28) + j) = plantC G (o + 28) z0 j := fun j hj => by rw [hE28]; exact ((pE_lt _ _ (show (o + 28) + j < (o + 106) by omega)).trans (hp28 j hj))
  have hp41 : ∀ (j : Nat) (hj : j < 13), E28 ((o + 41) + j) = plantC G (o + 41) z0 j := fun j hj => by rw [hE28]; exact ((pE_lt _ _ (show (o + 41) + j < (o + 106) by omega)).trans (hp41 j hj))
  have hp54 : ∀ (j : Nat) (hj : j < 13), E28 ((o + 54) + j) = plantC G (o + 54) z0 j := fun j hj => by rw [hE28]; exact ((pE_lt _ _ (show (o + 54) + j < (o + 106) by omega)).trans (hp54 j hj))
  have hp67 : ∀ (j : Nat) (hj : j < 13), E28 ((o + 67) + j) = plantC G (o + 67) z0 j := fun j hj => by rw [hE28]; exact ((pE_lt _ _ (show (o + 67) + j < (o + 106) by omega)).trans (hp67 j hj))
  have hp80 : ∀ (j : Nat) (hj : j < 13), E28 ((o + 80) + j) = plantC G (o + 80) z0 j := fun j hj => by rw [hE28]; exact ((pE_lt _ _ (show (o + 80) + j < (o + 106) by omega)).trans (hp80 j hj))
  have hp93 : ∀ (j : Nat) (hj : j < 13), E28 ((o + 93) + j) = plantC G (o + 93) z0 j := fun j hj => by rw [hE28]; exact ((pE_lt _ _ (show (o + 93) + j < (o + 106) by omega)).trans (hp93 j hj))
  have hp106 : ∀ (j : Nat) (hj : j < 13), E28 ((o + 106) + j) = plantC G (o + 106) z0 j := fun j hj => by rw [hE28]; exact pE_at G E27 (o + 106) j
  refine rc_aast (t0 := 3) (r := vwCl[5]) hC hw hS (by omega) q1 rfl (by omega) q106 rfl (show vp_in (8 : Int32) 14 by unfold vp_in; decide) dX2_init_36 (fun H locs hw hS => ?_)
  obtain ⟨E29, hE29⟩ : ∃ F : Nat → va_E, F = ue E28 (o + 1) (.inl (G.2.1 3, 14, .inr (.inr (.inr (.inr (va_up (va_up (va_up (va_up (va_up (va_up (va_up (va_up (va_up (fun _ => none) (0 : Int32).toNatClampNeg (some (bb G + (o + 2)))) (1 : Int32).toNatClampNeg (some (bb G + (o + 15)))) (2 : Int32).toNatClampNeg (some (bb G + (o + 28)))) (3 : Int32).toNatClampNeg (some (bb G + (o + 41)))) (4 : Int32).toNatClampNeg (some (bb G + (o + 54)))) (5 : Int32).toNatClampNeg (some (bb G + (o + 67)))) (6 : Int32).toNatClampNeg (some (bb G + (o + 80)))) (7 : Int32).toNatClampNeg (some (bb G + (o + 93)))) (8 : Int32).toNatClampNeg (some (bb G + (o + 106))))))))) := ⟨_, rfl⟩
  have hw : Rw G (o + 119) E29 H := by rw [hE29]; exact hw
  have q0 : E29 o = .inr (2, [.ref (bb G + (o + 1)), .int 0, .int 0]) := by rw [hE29]; exact ((ue_ne _ _ (show o ≠ (o + 1) by omega)).trans q0)
  have q1 : E29 (o + 1) = .inl (G.2.1 3, 14, .inr (.inr (.inr (.inr (va_up (va_up (va_up (va_up (va_up (va_up (va_up (va_up (va_up (fun _ => none) (0 : Int32).toNatClampNeg (some (bb G + (o + 2)))) (1 : Int32).toNatClampNeg (some (bb G + (o + 15)))) (2 : Int32).toNatClampNeg (some (bb G + (o + 28)))) (3 : Int32).toNatClampNeg (some (bb G + (o + 41)))) (4 : Int32).toNatClampNeg (some (bb G + (o + 54)))) (5 : Int32).toNatClampNeg (some (bb G + (o + 67)))) (6 : Int32).toNatClampNeg (some (bb G + (o + 80)))) (7 : Int32).toNatClampNeg (some (bb G + (o + 93)))) (8 : Int32).toNatClampNeg (some (bb G + (o + 106)))))))) := by rw [hE29]; exact ue_same _ _ _
  have hlow : ∀ (a : Nat) (ha : a < o), E29 (a) = E a := fun a ha => by rw [hE29]; exact ((ue_ne _ _ (show a ≠ (o + 1) by omega)).trans (hlow a ha))
  have hp2 : ∀ (j : Nat) (hj : j < 13), E29 ((o + 2) + j) = plantC G (o + 2) z0 j := fun j hj => by rw [hE29]; exact ((ue_ne _ _ (show (o + 2) + j ≠ (o + 1) by omega)).trans (hp2 j hj))
  have hp15 : ∀ (j : Nat) (hj : j < 13), E29 ((o + 15) + j) = plantC G (o + 15) z0 j := fun j hj => by rw [hE29]; exact ((ue_ne _ _ (show (o + 15) + j ≠ (o + 1) by omega)).trans (hp15 j hj))
  have hp28 : ∀ (j : Nat) (hj : j < 13), E29 ((o + 28) + j) = plantC G (o + 28) z0 j := fun j hj => by rw [hE29]; exact ((ue_ne _ _ (show (o + 28) + j ≠ (o + 1) by omega)).trans (hp28 j hj))
  have hp41 : ∀ (j : Nat) (hj : j < 13), E29 ((o + 41) + j) = plantC G (o + 41) z0 j := fun j hj => by rw [hE29]; exact ((ue_ne _ _ (show (o + 41) + j ≠ (o + 1) by omega)).trans (hp41 j hj))
  have hp54 : ∀ (j : Nat) (hj : j < 13), E29 ((o + 54) + j) = plantC G (o + 54) z0 j := fun j hj => by rw [hE29]; exact ((ue_ne _ _ (show (o + 54) + j ≠ (o + 1) by omega)).trans (hp54 j hj))
  have hp67 : ∀ (j : Nat) (hj : j < 13), E29 ((o + 67) + j) = plantC G (o + 67) z0 j := fun j hj => by rw [hE29]; exact ((ue_ne _ _ (show (o + 67) + j ≠ (o + 1) by omega)).trans (hp67 j hj))
  have hp80 : ∀ (j : Nat) (hj : j < 13), E29 ((o + 80) + j) = plantC G (o + 80) z0 j := fun j hj => by rw [hE29]; exact ((ue_ne _ _ (show (o + 80) + j ≠ (o + 1) by omega)).trans (hp80 j hj))
  have hp93 : ∀ (j : Nat) (hj : j < 13), E29 ((o + 93) + j) = plantC G (o + 93) z0 j := fun j hj => by rw [hE29]; exact ((ue_ne _ _ (show (o + 93) + j ≠ (o + 1) by omega)).trans (hp93 j hj))
  have hp106 : ∀ (j : Nat) (hj : j < 13), E29 ((o + 106) + j) = plantC G (o + 106) z0 j := fun j hj => by rw [hE29]; exact ((ue_ne _ _ (show (o + 106) + j ≠ (o + 1) by omega)).trans (hp106 j hj))
  refine lv_iinc (v := 9) (lv' := [(1, .int (9 : Int32)), (0, .ref (bb G + o))]) hx hb dX2_init_37 hl (k := 0) rfl (by decide) (by decide) rfl (fun ls hl => ?_)
  refine lv_goto (tgt := 15) hx hb dX2_init_40 (by decide) ?_
  refine lv_iload_n hx hb dX2_init_15 rfl (lv_at hl 0 rfl) ?_
  refine lv_aload_n hx hb dX2_init_16 rfl (lv_at hl 1 rfl) ?_
  refine rc_get (v := .ref (bb G + (o + 1))) hC hw inX2g rfl (by omega) q0 0 (by decide) (lg 267 (by decide +kernel) rfl) rfl dX2_init_17 ?_
  refine rc_alen (t0 := 3) (v := 14) hC hw (by omega) q1 rfl rfl dX2_init_20 ?_
  refine lv_icmp_ge (tgt := 43) hx hb dX2_init_21 (by decide) (fun hc => ?_) (fun hc => ?_)
  · exact absurd hc (by decide)
  refine lv_aload_n hx hb dX2_init_24 rfl (lv_at hl 1 rfl) ?_
  refine rc_get (v := .ref (bb G + (o + 1))) hC hw inX2g rfl (by omega) q0 0 (by decide) (lg 267 (by decide +kernel) rfl) rfl dX2_init_25 ?_
  refine lv_iload_n hx hb dX2_init_28 rfl (lv_at hl 0 rfl) ?_
  refine rc_new (ci := 5) (fs := [.null, .int 0, .null, .null, .null, .null, .null, .int 0, .int 0]) hC hw hS inX5g tyX5_ok rfl nwX2_9 (fun j hj => by rcases (show j = 0 ∨ j = 1 ∨ j = 2 ∨ j = 3 ∨ j = 4 ∨ j = 5 ∨ j = 6 ∨ j = 7 ∨ j = 8 by omega) with rfl | rfl | rfl | rfl | rfl | rfl | rfl | rfl | rfl <;> rfl) (by decide) (by decide) dX2_init_29 (fun H hw hS => ?_)
  obtain ⟨E30, hE30⟩ : ∃ F : Nat → va_E, F = ue E29 (o + 119) (.inr (5, [.null, .int 0, .null, .null, .null, .null, .null, .int 0, .int 0])) := ⟨_, rfl⟩
  have hw : Rw G (o + 120) E30 H := by rw [hE30]; exact hw
  have q0 : E30 o = .inr (2, [.ref (bb G + (o + 1)), .int 0, .int 0]) := by rw [hE30]; exact ((ue_ne _ _ (show o ≠ (o + 119) by omega)).trans q0)
  have q1 : E30 (o + 1) = .inl (G.2.1 3, 14, .inr (.inr (.inr (.inr (va_up (va_up (va_up (va_up (va_up (va_up (va_up (va_up (va_up (fun _ => none) (0 : Int32).toNatClampNeg (some (bb G + (o + 2)))) (1 : Int32).toNatClampNeg (some (bb G + (o + 15)))) (2 : Int32).toNatClampNeg (some (bb G + (o + 28)))) (3 : Int32).toNatClampNeg (some (bb G + (o + 41)))) (4 : Int32).toNatClampNeg (some (bb G + (o + 54)))) (5 : Int32).toNatClampNeg (some (bb G + (o + 67)))) (6 : Int32).toNatClampNeg (some (bb G + (o + 80)))) (7 : Int32).toNatClampNeg (some (bb G + (o + 93)))) (8 : Int32).toNatClampNeg (some (bb G + (o + 106)))))))) := by rw [hE30]; exact ((ue_ne _ _ (show (o + 1) ≠ (o + 119) by omega)).trans q1)
  have q119 : E30 (o + 119) = .inr (5, [.null, .int 0, .null, .null, .null, .null, .null, .int 0, .int 0]) := by rw [hE30]; exact ue_same _ _ _
  have hlow : ∀ (a : Nat) (ha : a < o), E30 (a) = E a := fun a ha => by rw [hE30]; exact ((ue_ne _ _ (show a ≠ (o + 119) by omega)).trans (hlow a ha))
  have hp2 : ∀ (j : Nat) (hj : j < 13), E30 ((o + 2) + j) = plantC G (o + 2) z0 j := fun j hj => by rw [hE30]; exact ((ue_ne _ _ (show (o + 2) + j ≠ (o + 119) by omega)).trans (hp2 j hj))
  have hp15 : ∀ (j : Nat) (hj : j < 13), E30 ((o + 15) + j) = plantC G (o + 15) z0 j := fun j hj => by rw [hE30]; exact ((ue_ne _ _ (show (o + 15) + j ≠ (o + 119) by omega)).trans (hp15 j hj))
  have hp28 : ∀ (j : Nat) (hj : j < 13), E30 ((o + 28) + j) = plantC G (o + 28) z0 j := fun j hj => by rw [hE30]; exact ((ue_ne _ _ (show (o + 28) + j ≠ (o + 119) by omega)).trans (hp28 j hj))
  have hp41 : ∀ (j : Nat) (hj : j < 13), E30 ((o + 41) + j) = plantC G (o + 41) z0 j := fun j hj => by rw [hE30]; exact ((ue_ne _ _ (show (o + 41) + j ≠ (o + 119) by omega)).trans (hp41 j hj))
  have hp54 : ∀ (j : Nat) (hj : j < 13), E30 ((o + 54) + j) = plantC G (o + 54) z0 j := fun j hj => by rw [hE30]; exact ((ue_ne _ _ (show (o + 54) + j ≠ (o + 119) by omega)).trans (hp54 j hj))
  have hp67 : ∀ (j : Nat) (hj : j < 13), E30 ((o + 67) + j) = plantC G (o + 67) z0 j := fun j hj => by rw [hE30]; exact ((ue_ne _ _ (show (o + 67) + j ≠ (o + 119) by omega)).trans (hp67 j hj))
  have hp80 : ∀ (j : Nat) (hj : j < 13), E30 ((o + 80) + j) = plantC G (o + 80) z0 j := fun j hj => by rw [hE30]; exact ((ue_ne _ _ (show (o + 80) + j ≠ (o + 119) by omega)).trans (hp80 j hj))
  have hp93 : ∀ (j : Nat) (hj : j < 13), E30 ((o + 93) + j) = plantC G (o + 93) z0 j := fun j hj => by rw [hE30]; exact ((ue_ne _ _ (show (o + 93) + j ≠ (o + 119) by omega)).trans (hp93 j hj))
  have hp106 : ∀ (j : Nat) (hj : j < 13), E30 ((o + 106) + j) = plantC G (o + 106) z0 j := fun j hj => by rw [hE30]; exact ((ue_ne _ _ (show (o + 106) + j ≠ (o + 119) by omega)).trans (hp106 j hj))
  refine lv_dup hx hb dX2_init_32 rfl ?_
  refine rc_init hC hI (c_X5_init l G (o + 119) E30 q119) wiX2_17 ⟨rfl, rfl, by decide, by decide⟩ hw hS hl.1 (Nat.le_of_ble_eq_true rfl) dX2_init_33 ⟨by decide, by decide⟩ (fun H locs hw hS => ?_)
  obtain ⟨E31, hE31⟩ : ∃ F : Nat → va_E, F = pE G E30 (o + 119) := ⟨_, rfl⟩
  have hw : Rw G (o + 132) E31 H := by rw [hE31]; exact hw
  have q0 : E31 o = .inr (2, [.ref (bb G + (o + 1)), .int 0, .int 0]) := by rw [hE31]; exact ((pE_lt _ _ (show o < (o + 119) by omega)).trans q0)
  have q1 : E31 (o + 1) = .inl (G.2.1 3, 14, .inr (.inr (.inr (.inr (va_up (va_up (va_up (va_up (va_up (va_up (va_up (va_up (va_up (fun _ => none) (0 : Int32).toNatClampNeg (some (bb G + (o + 2)))) (1 : Int32).toNatClampNeg (some (bb G + (o + 15)))) (2 : Int32).toNatClampNeg (some (bb G + (o + 28)))) (3 : Int32).toNatClampNeg (some (bb G + (o + 41)))) (4 : Int32).toNatClampNeg (some (bb G + (o + 54)))) (5 : Int32).toNatClampNeg (some (bb G + (o + 67)))) (6 : Int32).toNatClampNeg (some (bb G + (o + 80)))) (7 : Int32).toNatClampNeg (some (bb G + (o + 93)))) (8 : Int32).toNatClampNeg (some (bb G + (o + 106)))))))) := by rw [hE31]; exact ((pE_lt _ _ (show (o + 1) < (o + 119) by omega)).trans q1)
  have q119 : E31 (o + 119) = .inr (5, [.ref (bb G + ((o + 119) + 1)), .int (z0 65), .ref (bb G + ((o + 119) + 2)), .ref (bb G + ((o + 119) + 3)), .ref (bb G + ((o + 119) + 4)), .ref (bb G + ((o + 119) + 5)), .ref (bb G + ((o + 119) + 7)), .int (z0 6), .int (z0 7)]) := by rw [hE31]; exact pE_at G E30 (o + 119) 0
  have hlow : ∀ (a : Nat) (ha : a < o), E31 (a) = E a := fun a ha => by rw [hE31]; exact ((pE_lt _ _ (show a < (o + 119) by omega)).trans (hlow a ha))
  have hp2 : ∀ (j : Nat) (hj : j < 13), E31 ((o + 2) + j) = plantC G (o + 2) z0 j := fun j hj => by rw [hE31]; exact ((pE_lt _ _ (show (o + 2) + j < (o + 119) by omega)).trans (hp2 j hj))
  have hp15 : ∀ (j : Nat) (hj : j < 13), E31 ((o + 15) + j) = plantC G (o + 15) z0 j := fun j hj => by rw [hE31]; exact ((pE_lt _ _ (show (o + 15) + j < (o + 119) by omega)).trans (hp15 j hj))
  have hp28 : ∀ (j : Nat) (hj : j < 13), E31 ((o + 28) + j) = plantC G (o + 28) z0 j := fun j hj => by rw [hE31]; exact ((pE_lt _ _ (show (o + 28) + j < (o + 119) by omega)).trans (hp28 j hj))
  have hp41 : ∀ (j : Nat) (hj : j < 13), E31 ((o + 41) + j) = plantC G (o + 41) z0 j := fun j hj => by rw [hE31]; exact ((pE_lt _ _ (show (o + 41) + j < (o + 119) by omega)).trans (hp41 j hj))
  have hp54 : ∀ (j : Nat) (hj : j < 13), E31 ((o + 54) + j) = plantC G (o + 54) z0 j := fun j hj => by rw [hE31]; exact ((pE_lt _ _ (show (o + 54) + j < (o + 119) by omega)).trans (hp54 j hj))
  have hp67 : ∀ (j : Nat) (hj : j < 13), E31 ((o + 67) + j) = plantC G (o + 67) z0 j := fun j hj => by rw [hE31]; exact ((pE_lt _ _ (show (o + 67) + j < (o + 119) by omega)).trans (hp67 j hj))
  have hp80 : ∀ (j : Nat) (hj : j < 13), E31 ((o + 80) + j) = plantC G (o + 80) z0 j := fun j hj => by rw [hE31]; exact ((pE_lt _ _ (show (o + 80) + j < (o + 119) by omega)).trans (hp80 j hj))
  have hp93 : ∀ (j : Nat) (hj : j < 13), E31 ((o + 93) + j) = plantC G (o + 93) z0 j := fun j hj => by rw [hE31]; exact ((pE_lt _ _ (show (o + 93) + j < (o + 119) by omega)).trans (hp93 j hj))
  have hp106 : ∀ (j : Nat) (hj : j < 13), E31 ((o + 106) + j) = plantC G (o + 106) z0 j := fun j hj => by rw [hE31]; exact ((pE_lt _ _ (show (o + 106) + j < (o + 119) by omega)).trans (hp106 j hj))
  have hp119 : ∀ (j : Nat) (hj : j < 13), E31 ((o + 119) + j) = plantC G (o + 119) z0 j := fun j hj => by rw [hE31]; exact pE_at G E30 (o + 119) j
  refine rc_aast (t0 := 3) (r := vwCl[5]) hC hw hS (by omega) q1 rfl (by omega) q119 rfl (show vp_in (9 : Int32) 14 by unfold vp_in; decide) dX2_init_36 (fun H locs hw hS => ?_)
  obtain ⟨E32, hE32⟩ : ∃ F : Nat → va_E, F = ue E31 (o + 1) (.inl (G.2.1 3, 14, .inr (.inr (.inr (.inr (va_up (va_up (va_up (va_up (va_up (va_up (va_up (va_up (va_up (va_up (fun _ => none) (0 : Int32).toNatClampNeg (some (bb G + (o + 2)))) (1 : Int32).toNatClampNeg (some (bb G + (o + 15)))) (2 : Int32).toNatClampNeg (some (bb G + (o + 28)))) (3 : Int32).toNatClampNeg (some (bb G + (o + 41)))) (4 : Int32).toNatClampNeg (some (bb G + (o + 54)))) (5 : Int32).toNatClampNeg (some (bb G + (o + 67)))) (6 : Int32).toNatClampNeg (some (bb G + (o + 80)))) (7 : Int32).toNatClampNeg (some (bb G + (o + 93)))) (8 : Int32).toNatClampNeg (some (bb G + (o + 106)))) (9 : Int32).toNatClampNeg (some (bb G + (o + 119))))))))) := ⟨_, rfl⟩
  have hw : Rw G (o + 132) E32 H := by rw [hE32]; exact hw
  have q0 : E32 o = .inr (2, [.ref (bb G + (o + 1)), .int 0, .int 0]) := by rw [hE32]; exact ((ue_ne _ _ (show o ≠ (o + 1) by omega)).trans q0)
  have q1 : E32 (o + 1) = .inl (G.2.1 3, 14, .inr (.inr (.inr (.inr (va_up (va_up (va_up (va_up (va_up (va_up (va_up (va_up (va_up (va_up (fun _ => none) (0 : Int32).toNatClampNeg (some (bb G + (o + 2)))) (1 : Int32).toNatClampNeg (some (bb G + (o + 15)))) (2 : Int32).toNatClampNeg (some (bb G + (o + 28)))) (3 : Int32).toNatClampNeg (some (bb G + (o + 41)))) (4 : Int32).toNatClampNeg (some (bb G + (o + 54)))) (5 : Int32).toNatClampNeg (some (bb G + (o + 67)))) (6 : Int32).toNatClampNeg (some (bb G + (o + 80)))) (7 : Int32).toNatClampNeg (some (bb G + (o + 93)))) (8 : Int32).toNatClampNeg (some (bb G + (o + 106)))) (9 : Int32).toNatClampNeg (some (bb G + (o + 119)))))))) := by rw [hE32]; exact ue_same _ _ _
  have hlow : ∀ (a : Nat) (ha : a < o), E32 (a) = E a := fun a ha => by rw [hE32]; exact ((ue_ne _ _ (show a ≠ (o + 1) by omega)).trans (hlow a ha))
  have hp2 : ∀ (j : Nat) (hj : j < 13), E32 ((o + 2) + j) = plantC G (o + 2) z0 j := fun j hj => by rw [hE32]; exact ((ue_ne _ _ (show (o + 2) + j ≠ (o + 1) by omega)).trans (hp2 j hj))
  have hp15 : ∀ (j : Nat) (hj : j < 13), E32 ((o + 15) + j) = plantC G (o + 15) z0 j := fun j hj => by rw [hE32]; exact ((ue_ne _ _ (show (o + 15) + j ≠ (o + 1) by omega)).trans (hp15 j hj))
  have hp28 : ∀ (j : Nat) (hj : j < 13), E32 ((o + 28) + j) = plantC G (o + 28) z0 j := fun j hj => by rw [hE32]; exact ((ue_ne _ _ (show (o + 28) + j ≠ (o + 1) by omega)).trans (hp28 j hj))
  have hp41 : ∀ (j : Nat) (hj : j < 13), E32 ((o + 41) + j) = plantC G (o + 41) z0 j := fun j hj => by rw [hE32]; exact ((ue_ne _ _ (show (o + 41) + j ≠ (o + 1) by omega)).trans (hp41 j hj))
  have hp54 : ∀ (j : Nat) (hj : j < 13), E32 ((o + 54) + j) = plantC G (o + 54) z0 j := fun j hj => by rw [hE32]; exact ((ue_ne _ _ (show (o + 54) + j ≠ (o + 1) by omega)).trans (hp54 j hj))
  have hp67 : ∀ (j : Nat) (hj : j < 13), E32 ((o + 67) + j) = plantC G (o + 67) z0 j := fun j hj => by rw [hE32]; exact ((ue_ne _ _ (show (o + 67) + j ≠ (o + 1) by omega)).trans (hp67 j hj))
  have hp80 : ∀ (j : Nat) (hj : j < 13), E32 ((o + 80) + j) = plantC G (o + 80) z0 j := fun j hj => by rw [hE32]; exact ((ue_ne _ _ (show (o + 80) + j ≠ (o + 1) by omega)).trans (hp80 j hj))
  have hp93 : ∀ (j : Nat) (hj : j < 13), E32 ((o + 93) + j) = plantC G (o + 93) z0 j := fun j hj => by rw [hE32]; exact ((ue_ne _ _ (show (o + 93) + j ≠ (o + 1) by omega)).trans (hp93 j hj))
  have hp106 : ∀ (j : Nat) (hj : j < 13), E32 ((o + 106) + j) = plantC G (o + 106) z0 j := fun j hj => by rw [hE32]; exact ((ue_ne _ _ (show (o + 106) + j ≠ (o + 1) by omega)).trans (hp106 j hj))
  have hp119 : ∀ (j : Nat) (hj : j < 13), E32 ((o + 119) + j) = plantC G (o + 119) z0 j := fun j hj => by rw [hE32]; exact ((ue_ne _ _ (show (o + 119) + j ≠ (o + 1) by omega)).trans (hp119 j hj))
  refine lv_iinc (v := 10) (lv' := [(1, .int (10 : Int32)), (0, .ref (bb G + o))]) hx hb dX2_init_37 hl (k := 0) rfl (by decide) (by decide) rfl (fun ls hl => ?_)
  refine lv_goto (tgt := 15) hx hb dX2_init_40 (by decide) ?_
  refine lv_iload_n hx hb dX2_init_15 rfl (lv_at hl 0 rfl) ?_
  refine lv_aload_n hx hb dX2_init_16 rfl (lv_at hl 1 rfl) ?_
  refine rc_get (v := .ref (bb G + (o + 1))) hC hw inX2g rfl (by omega) q0 0 (by decide) (lg 267 (by decide +kernel) rfl) rfl dX2_init_17 ?_
  refine rc_alen (t0 := 3) (v := 14) hC hw (by omega) q1 rfl rfl dX2_init_20 ?_
  refine lv_icmp_ge (tgt := 43) hx hb dX2_init_21 (by decide) (fun hc => ?_) (fun hc => ?_)
  · exact absurd hc (by decide)
  refine lv_aload_n hx hb dX2_init_24 rfl (lv_at hl 1 rfl) ?_
  refine rc_get (v := .ref (bb G + (o + 1))) hC hw inX2g rfl (by omega) q0 0 (by decide) (lg 267 (by decide +kernel) rfl) rfl dX2_init_25 ?_
  refine lv_iload_n hx hb dX2_init_28 rfl (lv_at hl 0 rfl) ?_
  refine rc_new (ci := 5) (fs := [.null, .int 0, .null, .null, .null, .null, .null, .int 0, .int 0]) hC hw hS inX5g tyX5_ok rfl nwX2_9 (fun j hj => by rcases (show j = 0 ∨ j = 1 ∨ j = 2 ∨ j = 3 ∨ j = 4 ∨ j = 5 ∨ j = 6 ∨ j = 7 ∨ j = 8 by omega) with rfl | rfl | rfl | rfl | rfl | rfl | rfl | rfl | rfl <;> rfl) (by decide) (by decide) dX2_init_29 (fun H hw hS => ?_)
  obtain ⟨E33, hE33⟩ : ∃ F : Nat → va_E, F = ue E32 (o + 132) (.inr (5, [.null, .int 0, .null, .null, .null, .null, .null, .int 0, .int 0])) := ⟨_, rfl⟩
  have hw : Rw G (o + 133) E33 H := by rw [hE33]; exact hw
  have q0 : E33 o = .inr (2, [.ref (bb G + (o + 1)), .int 0, .int 0]) := by rw [hE33]; exact ((ue_ne _ _ (show o ≠ (o + 132) by omega)).trans q0)
  have q1 : E33 (o + 1) = .inl (G.2.1 3, 14, .inr (.inr (.inr (.inr (va_up (va_up (va_up (va_up (va_up (va_up (va_up (va_up (va_up (va_up (fun _ => none) (0 : Int32).toNatClampNeg (some (bb G + (o + 2)))) (1 : Int32).toNatClampNeg (some (bb G + (o + 15)))) (2 : Int32).toNatClampNeg (some (bb G + (o + 28)))) (3 : Int32).toNatClampNeg (some (bb G + (o + 41)))) (4 : Int32).toNatClampNeg (some (bb G + (o + 54)))) (5 : Int32).toNatClampNeg (some (bb G + (o + 67)))) (6 : Int32).toNatClampNeg (some (bb G + (o + 80)))) (7 : Int32).toNatClampNeg (some (bb G + (o + 93)))) (8 : Int32).toNatClampNeg (some (bb G + (o + 106)))) (9 : Int32).toNatClampNeg (some (bb G + (o + 119)))))))) := by rw [hE33]; exact ((ue_ne _ _ (show (o + 1) ≠ (o + 132) by omega)).trans q1)
  have q132 : E33 (o + 132) = .inr (5, [.null, .int 0, .null, .null, .null, .null, .null, .int 0, .int 0]) := by rw [hE33]; exact ue_same _ _ _
  have hlow : ∀ (a : Nat) (ha : a < o), E33 (a) = E a := fun a ha => by rw [hE33]; exact ((ue_ne _ _ (show a ≠ (o + 132) by omega)).trans (hlow a ha))
  have hp2 : ∀ (j : Nat) (hj : j < 13), E33 ((o + 2) + j) = plantC G (o + 2) z0 j := fun j hj => by rw [hE33]; exact ((ue_ne _ _ (show (o + 2) + j ≠ (o + 132) by omega)).trans (hp2 j hj))
  have hp15 : ∀ (j : Nat) (hj : j < 13), E33 ((o + 15) + j) = plantC G (o + 15) z0 j := fun j hj => by rw [hE33]; exact ((ue_ne _ _ (show (o + 15) + j ≠ (o + 132) by omega)).trans (hp15 j hj))
  have hp28 : ∀ (j : Nat) (hj : j < 13), E33 ((o + 28) + j) = plantC G (o + 28) z0 j := fun j hj => by rw [hE33]; exact ((ue_ne _ _ (show (o + 28) + j ≠ (o + 132) by omega)).trans (hp28 j hj))
  have hp41 : ∀ (j : Nat) (hj : j < 13), E33 ((o + 41) + j) = plantC G (o + 41) z0 j := fun j hj => by rw [hE33]; exact ((ue_ne _ _ (show (o + 41) + j ≠ (o + 132) by omega)).trans (hp41 j hj))
  have hp54 : ∀ (j : Nat) (hj : j < 13), E33 ((o + 54) + j) = plantC G (o + 54) z0 j := fun j hj => by rw [hE33]; exact ((ue_ne _ _ (show (o + 54) + j ≠ (o + 132) by omega)).trans (hp54 j hj))
  have hp67 : ∀ (j : Nat) (hj : j < 13), E33 ((o + 67) + j) = plantC G (o + 67) z0 j := fun j hj => by rw [hE33]; exact ((ue_ne _ _ (show (o + 67) + j ≠ (o + 132) by omega)).trans (hp67 j hj))
  have hp80 : ∀ (j : Nat) (hj : j < 13), E33 ((o + 80) + j) = plantC G (o + 80) z0 j := fun j hj => by rw [hE33]; exact ((ue_ne _ _ (show (o + 80) + j ≠ (o + 132) by omega)).trans (hp80 j hj))
  have hp93 : ∀ (j : Nat) (hj : j < 13), E33 ((o + 93) + j) = plantC G (o + 93) z0 j := fun j hj => by rw [hE33]; exact ((ue_ne _ _ (show (o + 93) + j ≠ (o + 132) by omega)).trans (hp93 j hj))
  have hp106 : ∀ (j : Nat) (hj : j < 13), E33 ((o + 106) + j) = plantC G (o + 106) z0 j := fun j hj => by rw [hE33]; exact ((ue_ne _ _ (show (o + 106) + j ≠ (o + 132) by omega)).trans (hp106 j hj))
  have hp119 : ∀ (j : Nat) (hj : j < 13), E33 ((o + 119) + j) = plantC G (o + 119) z0 j := fun j hj => by rw [hE33]; exact ((ue_ne _ _ (show (o + 119) + j ≠ (o + 132) by omega)).trans (hp119 j hj))
  refine lv_dup hx hb dX2_init_32 rfl ?_
  refine rc_init hC hI (c_X5_init l G (o + 132) E33 q132) wiX2_17 ⟨rfl, rfl, by decide, by decide⟩ hw hS hl.1 (Nat.le_of_ble_eq_true rfl) dX2_init_33 ⟨by decide, by decide⟩ (fun H locs hw hS => ?_)
  obtain ⟨E34, hE34⟩ : ∃ F : Nat → va_E, F = pE G E33 (o + 132) := ⟨_, rfl⟩
  have hw : Rw G (o + 145) E34 H := by rw [hE34]; exact hw
  have q0 : E34 o = .inr (2, [.ref (bb G + (o + 1)), .int 0, .int 0]) := by rw [hE34]; exact ((pE_lt _ _ (show o < (o + 132) by omega)).trans q0)
  have q1 : E34 (o + 1) = .inl (G.2.1 3, 14, .inr (.inr (.inr (.inr (va_up (va_up (va_up (va_up (va_up (va_up (va_up (va_up (va_up (va_up (fun _ => none) (0 : Int32).toNatClampNeg (some (bb G + (o + 2)))) (1 : Int32).toNatClampNeg (some (bb G + (o + 15)))) (2 : Int32).toNatClampNeg (some (bb G + (o + 28)))) (3 : Int32).toNatClampNeg (some (bb G + (o + 41)))) (4 : Int32).toNatClampNeg (some (bb G + (o + 54)))) (5 : Int32).toNatClampNeg (some (bb G + (o + 67)))) (6 : Int32).toNatClampNeg (some (bb G + (o + 80)))) (7 : Int32).toNatClampNeg (some (bb G + (o + 93)))) (8 : Int32).toNatClampNeg (some (bb G + (o + 106)))) (9 : Int32).toNatClampNeg (some (bb G + (o + 119)))))))) := by rw [hE34]; exact ((pE_lt _ _ (show (o + 1) < (o + 132) by omega)).trans q1)
  have q132 : E34 (o + 132) = .inr (5, [.ref (bb G + ((o + 132) + 1)), .int (z0 65), .ref (bb G + ((o + 132) + 2)), .ref (bb G + ((o + 132) + 3)), .ref (bb G + ((o + 132) + 4)), .ref (bb G + ((o + 132) + 5)), .ref (bb G + ((o + 132) + 7)), .int (z0 6), .int (z0 7)]) := by rw [hE34]; exact pE_at G E33 (o + 132) 0
  have hlow : ∀ (a : Nat) (ha : a < o), E34 (a) = E a := fun a ha => by rw [hE34]; exact ((pE_lt _ _ (show a < (o + 132) by omega)).trans (hlow a ha))
  have hp2 : ∀ (j : Nat) (hj : j < 13), E34 ((o + 2) + j) = plantC G (o + 2) z0 j := fun j hj => by rw [hE34]; exact ((pE_lt _ _ (show (o + 2) + j < (o + 132) by omega)).trans (hp2 j hj))
  have hp15 : ∀ (j : Nat) (hj : j < 13), E34 ((o + 15) + j) = plantC G (o + 15) z0 j := fun j hj => by rw [hE34]; exact ((pE_lt _ _ (show (o + 15) + j < (o + 132) by omega)).trans (hp15 j hj))
  have hp28 : ∀ (j : Nat) (hj : j < 13), E34 ((o + 28) + j) = plantC G (o + 28) z0 j := fun j hj => by rw [hE34]; exact ((pE_lt _ _ (show (o + 28) + j < (o + 132) by omega)).trans (hp28 j hj))
  have hp41 : ∀ (j : Nat) (hj : j < 13), E34 ((o + 41) + j) = plantC G (o + 41) z0 j := fun j hj => by rw [hE34]; exact ((pE_lt _ _ (show (o + 41) + j < (o + 132) by omega)).trans (hp41 j hj))
  have hp54 : ∀ (j : Nat) (hj : j < 13), E34 ((o + 54) + j) = plantC G (o + 54) z0 j := fun j hj => by rw [hE34]; exact ((pE_lt _ _ (show (o + 54) + j < (o + 132) by omega)).trans (hp54 j hj))
  have hp67 : ∀ (j : Nat) (hj : j < 13), E34 ((o + 67) + j) = plantC G (o + 67) z0 j := fun j hj => by rw [hE34]; exact ((pE_lt _ _ (show (o + 67) + j < (o + 132) by omega)).trans (hp67 j hj))
  have hp80 : ∀ (j : Nat) (hj : j < 13), E34 ((o + 80) + j) = plantC G (o + 80) z0 j := fun j hj => by rw [hE34]; exact ((pE_lt _ _ (show (o + 80) + j < (o + 132) by omega)).trans (hp80 j hj))
  have hp93 : ∀ (j : Nat) (hj : j < 13), E34 ((o + 93) + j) = plantC G (o + 93) z0 j := fun j hj => by rw [hE34]; exact ((pE_lt _ _ (show (o + 93) + j < (o + 132) by omega)).trans (hp93 j hj))
  have hp106 : ∀ (j : Nat) (hj : j < 13), E34 ((o + 106) + j) = plantC G (o + 106) z0 j := fun j hj => by rw [hE34]; exact ((pE_lt _ _ (show (o + 106) + j < (o + 132) by omega)).trans (hp106 j hj))
  have hp119 : ∀ (j : Nat) (hj : j < 13), E34 ((o + 119) + j) = plantC G (o + 119) z0 j := fun j hj => by rw [hE34]; exact ((pE_lt _ _ (show (o + 119) + j < (o + 132) by omega)).trans (hp119 j hj))
  have hp132 : ∀ (j : Nat) (hj : j < 13), E34 ((o + 132) + j) = plantC G (o + 132) z0 j := fun j hj => by rw [hE34]; exact pE_at G E33 (o + 132) j
  refine rc_aast (t0 := 3) (r := vwCl[5]) hC hw hS (by omega) q1 rfl (by omega) q132 rfl (show vp_in (10 : Int32) 14 by unfold vp_in; decide) dX2_init_36 (fun H locs hw hS => ?_)
  obtain ⟨E35, hE35⟩ : ∃ F : Nat → va_E, F = ue E34 (o + 1) (.inl (G.2.1 3, 14, .inr (.inr (.inr (.inr (va_up (va_up (va_up (va_up (va_up (va_up (va_up (va_up (va_up (va_up (va_up (fun _ => none) (0 : Int32).toNatClampNeg (some (bb G + (o + 2)))) (1 : Int32).toNatClampNeg (some (bb G + (o + 15)))) (2 : Int32).toNatClampNeg (some (bb G + (o + 28)))) (3 : Int32).toNatClampNeg (some (bb G + (o + 41)))) (4 : Int32).toNatClampNeg (some (bb G + (o + 54)))) (5 : Int32).toNatClampNeg (some (bb G + (o + 67)))) (6 : Int32).toNatClampNeg (some (bb G + (o + 80)))) (7 : Int32).toNatClampNeg (some (bb G + (o + 93)))) (8 : Int32).toNatClampNeg (some (bb G + (o + 106)))) (9 : Int32).toNatClampNeg (some (bb G + (o + 119)))) (10 : Int32).toNatClampNeg (some (bb G + (o + 132))))))))) := ⟨_, rfl⟩
  have hw : Rw G (o + 145) E35 H := by rw [hE35]; exact hw
  have q0 : E35 o = .inr (2, [.ref (bb G + (o + 1)), .int 0, .int 0]) := by rw [hE35]; exact ((ue_ne _ _ (show o ≠ (o + 1) by omega)).trans q0)
  have q1 : E35 (o + 1) = .inl (G.2.1 3, 14, .inr (.inr (.inr (.inr (va_up (va_up (va_up (va_up (va_up (va_up (va_up (va_up (va_up (va_up (va_up (fun _ => none) (0 : Int32).toNatClampNeg (some (bb G + (o + 2)))) (1 : Int32).toNatClampNeg (some (bb G + (o + 15)))) (2 : Int32).toNatClampNeg (some (bb G + (o + 28)))) (3 : Int32).toNatClampNeg (some (bb G + (o + 41)))) (4 : Int32).toNatClampNeg (some (bb G + (o + 54)))) (5 : Int32).toNatClampNeg (some (bb G + (o + 67)))) (6 : Int32).toNatClampNeg (some (bb G + (o + 80)))) (7 : Int32).toNatClampNeg (some (bb G + (o + 93)))) (8 : Int32).toNatClampNeg (some (bb G + (o + 106)))) (9 : Int32).toNatClampNeg (some (bb G + (o + 119)))) (10 : Int32).toNatClampNeg (some (bb G + (o + 132)))))))) := by rw [hE35]; exact ue_same _ _ _
  have hlow : ∀ (a : Nat) (ha : a < o), E35 (a) = E a := fun a ha => by rw [hE35]; exact ((ue_ne _ _ (show a ≠ (o + 1) by omega)).trans (hlow a ha))
  have hp2 : ∀ (j : Nat) (hj : j < 13), E35 ((o + 2) + j) = plantC G (o + 2) z0 j := fun j hj => by rw [hE35]; exact ((ue_ne _ _ (show (o + 2) + j ≠ (o + 1) by omega)).trans (hp2 j hj))
  have hp15 : ∀ (j : Nat) (hj : j < 13), E35 ((o + 15) + j) = plantC G (o + 15) z0 j := fun j hj => by rw [hE35]; exact ((ue_ne _ _ (show (o + 15) + j ≠ (o + 1) by omega)).trans (hp15 j hj))
  have hp28 : ∀ (j : Nat) (hj : j < 13), E35 ((o + 28) + j) = plantC G (o + 28) z0 j := fun j hj => by rw [hE35]; exact ((ue_ne _ _ (show (o + 28) + j ≠ (o + 1) by omega)).trans (hp28 j hj))
  have hp41 : ∀ (j : Nat) (hj : j < 13), E35 ((o + 41) + j) = plantC G (o + 41) z0 j := fun j hj => by rw [hE35]; exact ((ue_ne _ _ (show (o + 41) + j ≠ (o + 1) by omega)).trans (hp41 j hj))
  have hp54 : ∀ (j : Nat) (hj : j < 13), E35 ((o + 54) + j) = plantC G (o + 54) z0 j := fun j hj => by rw [hE35]; exact ((ue_ne _ _ (show (o + 54) + j ≠ (o + 1) by omega)).trans (hp54 j hj))
  have hp67 : ∀ (j : Nat) (hj : j < 13), E35 ((o + 67) + j) = plantC G (o + 67) z0 j := fun j hj => by rw [hE35]; exact ((ue_ne _ _ (show (o + 67) + j ≠ (o + 1) by omega)).trans (hp67 j hj))
  have hp80 : ∀ (j : Nat) (hj : j < 13), E35 ((o + 80) + j) = plantC G (o + 80) z0 j := fun j hj => by rw [hE35]; exact ((ue_ne _ _ (show (o + 80) + j ≠ (o + 1) by omega)).trans (hp80 j hj))
  have hp93 : ∀ (j : Nat) (hj : j < 13), E35 ((o + 93) + j) = plantC G (o + 93) z0 j := fun j hj => by rw [hE35]; exact ((ue_ne _ _ (show (o + 93) + j ≠ (o + 1) by omega)).trans (hp93 j hj))
  have hp106 : ∀ (j : Nat) (hj : j < 13), E35 ((o + 106) + j) = plantC G (o + 106) z0 j := fun j hj => by rw [hE35]; exact ((ue_ne _ _ (show (o + 106) + j ≠ (o + 1) by omega)).trans (hp106 j hj))
  have hp119 : ∀ (j : Nat) (hj : j < 13), E35 ((o + 119) + j) = plantC G (o + 119) z0 j := fun j hj => by rw [hE35]; exact ((ue_ne _ _ (show (o + 119) + j ≠ (o + 1) by omega)).trans (hp119 j hj))
  have hp132 : ∀ (j : Nat) (hj : j < 13), E35 ((o + 132) + j) = plantC G (o + 132) z0 j := fun j hj => by rw [hE35]; exact ((ue_ne _ _ (show (o + 132) + j ≠ (o + 1) by omega)).trans (hp132 j hj))
  refine lv_iinc (v := 11) (lv' := [(1, .int (11 : Int32)), (0, .ref (bb G + o))]) hx hb dX2_init_37 hl (k := 0) rfl (by decide) (by decide) rfl (fun ls hl => ?_)
  refine lv_goto (tgt := 15) hx hb dX2_init_40 (by decide) ?_
  refine lv_iload_n hx hb dX2_init_15 rfl (lv_at hl 0 rfl) ?_
  refine lv_aload_n hx hb dX2_init_16 rfl (lv_at hl 1 rfl) ?_
  refine rc_get (v := .ref (bb G + (o + 1))) hC hw inX2g rfl (by omega) q0 0 (by decide) (lg 267 (by decide +kernel) rfl) rfl dX2_init_17 ?_
  refine rc_alen (t0 := 3) (v := 14) hC hw (by omega) q1 rfl rfl dX2_init_20 ?_
  refine lv_icmp_ge (tgt := 43) hx hb dX2_init_21 (by decide) (fun hc => ?_) (fun hc => ?_)
  · exact absurd hc (by decide)
  refine lv_aload_n hx hb dX2_init_24 rfl (lv_at hl 1 rfl) ?_
  refine rc_get (v := .ref (bb G + (o + 1))) hC hw inX2g rfl (by omega) q0 0 (by decide) (lg 267 (by decide +kernel) rfl) rfl dX2_init_25 ?_
  refine lv_iload_n hx hb dX2_init_28 rfl (lv_at hl 0 rfl) ?_
  refine rc_new (ci := 5) (fs := [.null, .int 0, .null, .null, .null, .null, .null, .int 0, .int 0]) hC hw hS inX5g tyX5_ok rfl nwX2_9 (fun j hj => by rcases (show j = 0 ∨ j = 1 ∨ j = 2 ∨ j = 3 ∨ j = 4 ∨ j = 5 ∨ j = 6 ∨ j = 7 ∨ j = 8 by omega) with rfl | rfl | rfl | rfl | rfl | rfl | rfl | rfl | rfl <;> rfl) (by decide) (by decide) dX2_init_29 (fun H hw hS => ?_)
  obtain ⟨E36, hE36⟩ : ∃ F : Nat → va_E, F = ue E35 (o + 145) (.inr (5, [.null, .int 0, .null, .null, .null, .null, .null, .int 0, .int 0])) := ⟨_, rfl⟩
  have hw : Rw G (o + 146) E36 H := by rw [hE36]; exact hw
  have q0 : E36 o = .inr (2, [.ref (bb G + (o + 1)), .int 0, .int 0]) := by rw [hE36]; exact ((ue_ne _ _ (show o ≠ (o + 145) by omega)).trans q0)
  have q1 : E36 (o + 1) = .inl (G.2.1 3, 14, .inr (.inr (.inr (.inr (va_up (va_up (va_up (va_up (va_up (va_up (va_up (va_up (va_up (va_up (va_up (fun _ => none) (0 : Int32).toNatClampNeg (some (bb G + (o + 2)))) (1 : Int32).toNatClampNeg (some (bb G + (o + 15)))) (2 : Int32).toNatClampNeg (some (bb G + (o + 28)))) (3 : Int32).toNatClampNeg (some (bb G + (o + 41)))) (4 : Int32).toNatClampNeg (some (bb G + (o + 54)))) (5 : Int32).toNatClampNeg (some (bb G + (o + 67)))) (6 : Int32).toNatClampNeg (some (bb G + (o + 80)))) (7 : Int32).toNatClampNeg (some (bb G + (o + 93)))) (8 : Int32).toNatClampNeg (some (bb G + (o + 106)))) (9 : Int32).toNatClampNeg (some (bb G + (o + 119)))) (10 : Int32).toNatClampNeg (some (bb G + (o + 132)))))))) := by rw [hE36]; exact ((ue_ne _ _ (show (o + 1) ≠ (o + 145) by omega)).trans q1)
  have q145 : E36 (o + 145) = .inr (5, [.null, .int 0, .null, .null, .null, .null, .null, .int 0, .int 0]) := by rw [hE36]; exact ue_same _ _ _
  have hlow : ∀ (a : Nat) (ha : a < o), E36 (a) = E a := fun a ha => by rw [hE36]; exact ((ue_ne _ _ (show a ≠ (o + 145) by omega)).trans (hlow a ha))
  have hp2 : ∀ (j : Nat) (hj : j < 13), E36 ((o + 2) + j) = plantC G (o + 2) z0 j := fun j hj => by rw [hE36]; exact ((ue_ne _ _ (show (o + 2) + j ≠ (o + 145) by omega)).trans (hp2 j hj))
  have hp15 : ∀ (j : Nat) (hj : j < 13), E36 ((o + 15) + j) = plantC G (o + 15) z0 j := fun j hj => by rw [hE36]; exact ((ue_ne _ _ (show (o + 15) + j ≠ (o + 145) by omega)).trans (hp15 j hj))
  have hp28 : ∀ (j : Nat) (hj : j < 13), E36 ((o + 28) + j) = plantC G (o + 28) z0 j := fun j hj => by rw [hE36]; exact ((ue_ne _ _ (show (o + 28) + j ≠ (o + 145) by omega)).trans (hp28 j hj))
  have hp41 : ∀ (j : Nat) (hj : j < 13), E36 ((o + 41) + j) = plantC G (o + 41) z0 j := fun j hj => by rw [hE36]; exact ((ue_ne _ _ (show (o + 41) + j ≠ (o + 145) by omega)).trans (hp41 j hj))
  have hp54 : ∀ (j : Nat) (hj : j < 13), E36 ((o + 54) + j) = plantC G (o + 54) z0 j := fun j hj => by rw [hE36]; exact ((ue_ne _ _ (show (o + 54) + j ≠ (o + 145) by omega)).trans (hp54 j hj))
  have hp67 : ∀ (j : Nat) (hj : j < 13), E36 ((o + 67) + j) = plantC G (o + 67) z0 j := fun j hj => by rw [hE36]; exact ((ue_ne _ _ (show (o + 67) + j ≠ (o + 145) by omega)).trans (hp67 j hj))
  have hp80 : ∀ (j : Nat) (hj : j < 13), E36 ((o + 80) + j) = plantC G (o + 80) z0 j := fun j hj => by rw [hE36]; exact ((ue_ne _ _ (show (o + 80) + j ≠ (o + 145) by omega)).trans (hp80 j hj))
  have hp93 : ∀ (j : Nat) (hj : j < 13), E36 ((o + 93) + j) = plantC G (o + 93) z0 j := fun j hj => by rw [hE36]; exact ((ue_ne _ _ (show (o + 93) + j ≠ (o + 145) by omega)).trans (hp93 j hj))
  have hp106 : ∀ (j : Nat) (hj : j < 13), E36 ((o + 106) + j) = plantC G (o + 106) z0 j := fun j hj => by rw [hE36]; exact ((ue_ne _ _ (show (o + 106) + j ≠ (o + 145) by omega)).trans (hp106 j hj))
  have hp119 : ∀ (j : Nat) (hj : j < 13), E36 ((o + 119) + j) = plantC G (o + 119) z0 j := fun j hj => by rw [hE36]; exact ((ue_ne _ _ (show (o + 119) + j ≠ (o + 145) by omega)).trans (hp119 j hj))
  have hp132 : ∀ (j : Nat) (hj : j < 13), E36 ((o + 132) + j) = plantC G (o + 132) z0 j := fun j hj => by rw [hE36]; exact ((ue_ne _ _ (show (o + 132) + j ≠ (o + 145) by omega)).trans (hp132 j hj))
  refine lv_dup hx hb dX2_init_32 rfl ?_
  refine rc_init hC hI (c_X5_init l G (o + 145) E36 q145) wiX2_17 ⟨rfl, rfl, by decide, by decide⟩ hw hS hl.1 (Nat.le_of_ble_eq_true rfl) dX2_init_33 ⟨by decide, by decide⟩ (fun H locs hw hS => ?_)
  obtain ⟨E37, hE37⟩ : ∃ F : Nat → va_E, F = pE G E36 (o + 145) := ⟨_, rfl⟩
  have hw : Rw G (o + 158) E37 H := by rw [hE37]; exact hw
  have q0 : E37 o = .inr (2, [.ref (bb G + (o + 1)), .int 0, .int 0]) := by rw [hE37]; exact ((pE_lt _ _ (show o < (o + 145) by omega)).trans q0)
  have q1 : E37 (o + 1) = .inl (G.2.1 3, 14, .inr (.inr (.inr (.inr (va_up (va_up (va_up (va_up (va_up (va_up (va_up (va_up (va_up (va_up (va_up (fun _ => none) (0 : Int32).toNatClampNeg (some (bb G + (o + 2)))) (1 : Int32).toNatClampNeg (some (bb G + (o + 15)))) (2 : Int32).toNatClampNeg (some (bb G + (o + 28)))) (3 : Int32).toNatClampNeg (some (bb G + (o + 41)))) (4 : Int32).toNatClampNeg (some (bb G + (o + 54)))) (5 : Int32).toNatClampNeg (some (bb G + (o + 67)))) (6 : Int32).toNatClampNeg (some (bb G + (o + 80)))) (7 : Int32).toNatClampNeg (some (bb G + (o + 93)))) (8 : Int32).toNatClampNeg (some (bb G + (o + 106)))) (9 : Int32).toNatClampNeg (some (bb G + (o + 119)))) (10 : Int32).toNatClampNeg (some (bb G + (o + 132)))))))) := by rw [hE37]; exact ((pE_lt _ _ (show (o + 1) < (o + 145) by omega)).trans q1)
  have q145 : E37 (o + 145) = .inr (5, [.ref (bb G + ((o + 145) + 1)), .int (z0 65), .ref (bb G + ((o + 145) + 2)), .ref (bb G + ((o + 145) + 3)), .ref (bb G + ((o + 145) + 4)), .ref (bb G + ((o + 145) + 5)), .ref (bb G + ((o + 145) + 7)), .int (z0 6), .int (z0 7)]) := by rw [hE37]; exact pE_at G E36 (o + 145) 0
  have hlow : ∀ (a : Nat) (ha : a < o), E37 (a) = E a := fun a ha => by rw [hE37]; exact ((pE_lt _ _ (show a < (o + 145) by omega)).trans (hlow a ha))
  have hp2 : ∀ (j : Nat) (hj : j < 13), E37 ((o + 2) + j) = plantC G (o + 2) z0 j := fun j hj => by rw [hE37]; exact ((pE_lt _ _ (show (o + 2) + j < (o + 145) by omega)).trans (hp2 j hj))
  have hp15 : ∀ (j : Nat) (hj : j < 13), E37 ((o + 15) + j) = plantC G (o + 15) z0 j := fun j hj => by rw [hE37]; exact ((pE_lt _ _ (show (o + 15) + j < (o + 145) by omega)).trans (hp15 j hj))
  have hp28 : ∀ (j : Nat) (hj : j < 13), E37 ((o + 28) + j) = plantC G (o + 28) z0 j := fun j hj => by rw [hE37]; exact ((pE_lt _ _ (show (o + 28) + j < (o + 145) by omega)).trans (hp28 j hj))
  have hp41 : ∀ (j : Nat) (hj : j < 13), E37 ((o + 41) + j) = plantC G (o + 41) z0 j := fun j hj => by rw [hE37]; exact ((pE_lt _ _ (show (o + 41) + j < (o + 145) by omega)).trans (hp41 j hj))
  have hp54 : ∀ (j : Nat) (hj : j < 13), E37 ((o + 54) + j) = plantC G (o + 54) z0 j := fun j hj => by rw [hE37]; exact ((pE_lt _ _ (show (o + 54) + j < (o + 145) by omega)).trans (hp54 j hj))
  have hp67 : ∀ (j : Nat) (hj : j < 13), E37 ((o + 67) + j) = plantC G (o + 67) z0 j := fun j hj => by rw [hE37]; exact ((pE_lt _ _ (show (o + 67) + j < (o + 145) by omega)).trans (hp67 j hj))
  have hp80 : ∀ (j : Nat) (hj : j < 13), E37 ((o + 80) + j) = plantC G (o + 80) z0 j := fun j hj => by rw [hE37]; exact ((pE_lt _ _ (show (o + 80) + j < (o + 145) by omega)).trans (hp80 j hj))
  have hp93 : ∀ (j : Nat) (hj : j < 13), E37 ((o + 93) + j) = plantC G (o + 93) z0 j := fun j hj => by rw [hE37]; exact ((pE_lt _ _ (show (o + 93) + j < (o + 145) by omega)).trans (hp93 j hj))
  have hp106 : ∀ (j : Nat) (hj : j < 13), E37 ((o + 106) + j) = plantC G (o + 106) z0 j := fun j hj => by rw [hE37]; exact ((pE_lt _ _ (show (o + 106) + j < (o + 145) by omega)).trans (hp106 j hj))
  have hp119 : ∀ (j : Nat) (hj : j < 13), E37 ((o + 119) + j) = plantC G (o + 119) z0 j := fun j hj => by rw [hE37]; exact ((pE_lt _ _ (show (o + 119) + j < (o + 145) by omega)).trans (hp119 j hj))
  have hp132 : ∀ (j : Nat) (hj : j < 13), E37 ((o + 132) + j) = plantC G (o + 132) z0 j := fun j hj => by rw [hE37]; exact ((pE_lt _ _ (show (o + 132) + j < (o + 145) by omega)).trans (hp132 j hj))
  have hp145 : ∀ (j : Nat) (hj : j < 13), E37 ((o + 145) + j) = plantC G (o + 145) z0 j := fun j hj => by rw [hE37]; exact pE_at G E36 (o + 145) j
  refine rc_aast (t0 := 3) (r := vwCl[5]) hC hw hS (by omega) q1 rfl (by omega) q145 rfl (show vp_in (11 : Int32) 14 by unfold vp_in; decide) dX2_init_36 (fun H locs hw hS => ?_)
  obtain ⟨E38, hE38⟩ : ∃ F : Nat → va_E, F = ue E37 (o + 1) (.inl (G.2.1 3, 14, .inr (.inr (.inr (.inr (va_up (va_up (va_up (va_up (va_up (va_up (va_up (va_up (va_up (va_up (va_up (va_up (fun _ => none) (0 : Int32).toNatClampNeg (some (bb G + (o + 2)))) (1 : Int32).toNatClampNeg (some (bb G + (o + 15)))) (2 : Int32).toNatClampNeg (some (bb G + (o + 28)))) (3 : Int32).toNatClampNeg (some (bb G + (o + 41)))) (4 : Int32).toNatClampNeg (some (bb G + (o + 54)))) (5 : Int32).toNatClampNeg (some (bb G + (o + 67)))) (6 : Int32).toNatClampNeg (some (bb G + (o + 80)))) (7 : Int32).toNatClampNeg (some (bb G + (o + 93)))) (8 : Int32).toNatClampNeg (some (bb G + (o + 106)))) (9 : Int32).toNatClampNeg (some (bb G + (o + 119)))) (10 : Int32).toNatClampNeg (some (bb G + (o + 132)))) (11 : Int32).toNatClampNeg (some (bb G + (o + 145))))))))) := ⟨_, rfl⟩
  have hw : Rw G (o + 158) E38 H := by rw [hE38]; exact hw
  have q0 : E38 o = .inr (2, [.ref (bb G + (o + 1)), .int 0, .int 0]) := by rw [hE38]; exact ((ue_ne _ _ (show o ≠ (o + 1) by omega)).trans q0)
  have q1 : E38 (o + 1) = .inl (G.2.1 3, 14, .inr (.inr (.inr (.inr (va_up (va_up (va_up (va_up (va_up (va_up (va_up (va_up (va_up (va_up (va_up (va_up (fun _ => none) (0 : Int32).toNatClampNeg (some (bb G + (o + 2)))) (1 : Int32).toNatClampNeg (some (bb G + (o + 15)))) (2 : Int32).toNatClampNeg (some (bb G + (o + 28)))) (3 : Int32).toNatClampNeg (some (bb G + (o + 41)))) (4 : Int32).toNatClampNeg (some (bb G + (o + 54)))) (5 : Int32).toNatClampNeg (some (bb G + (o + 67)))) (6 : Int32).toNatClampNeg (some (bb G + (o + 80)))) (7 : Int32).toNatClampNeg (some (bb G + (o + 93)))) (8 : Int32).toNatClampNeg (some (bb G + (o + 106)))) (9 : Int32).toNatClampNeg (some (bb G + (o + 119)))) (10 : Int32).toNatClampNeg (some (bb G + (o + 132)))) (11 : Int32).toNatClampNeg (some (bb G + (o + 145)))))))) := by rw [hE38]; exact ue_same _ _ _
  have hlow : ∀ (a : Nat) (ha : a < o), E38 (a) = E a := fun a ha => by rw [hE38]; exact ((ue_ne _ _ (show a ≠ (o + 1) by omega)).trans (hlow a ha))
  have hp2 : ∀ (j : Nat) (hj : j < 13), E38 ((o + 2) + j) = plantC G (o + 2) z0 j := fun j hj => by rw [hE38]; exact ((ue_ne _ _ (show (o + 2) + j ≠ (o + 1) by omega)).trans (hp2 j hj))
  have hp15 : ∀ (j : Nat) (hj : j < 13), E38 ((o + 15) + j) = plantC G (o + 15) z0 j := fun j hj => by rw [hE38]; exact ((ue_ne _ _ (show (o + 15) + j ≠ (o + 1) by omega)).trans (hp15 j hj))
  have hp28 : ∀ (j : Nat) (hj : j < 13), E38 ((o + 28) + j) = plantC G (o + 28) z0 j := fun j hj => by rw [hE38]; exact ((ue_ne _ _ (show (o + 28) + j ≠ (o + 1) by omega)).trans (hp28 j hj))
  have hp41 : ∀ (j : Nat) (hj : j < 13), E38 ((o + 41) + j) = plantC G (o + 41) z0 j := fun j hj => by rw [hE38]; exact ((ue_ne _ _ (show (o + 41) + j ≠ (o + 1) by omega)).trans (hp41 j hj))
  have hp54 : ∀ (j : Nat) (hj : j < 13), E38 ((o + 54) + j) = plantC G (o + 54) z0 j := fun j hj => by rw [hE38]; exact ((ue_ne _ _ (show (o + 54) + j ≠ (o + 1) by omega)).trans (hp54 j hj))
  have hp67 : ∀ (j : Nat) (hj : j < 13), E38 ((o + 67) + j) = plantC G (o + 67) z0 j := fun j hj => by rw [hE38]; exact ((ue_ne _ _ (show (o + 67) + j ≠ (o + 1) by omega)).trans (hp67 j hj))
  have hp80 : ∀ (j : Nat) (hj : j < 13), E38 ((o + 80) + j) = plantC G (o + 80) z0 j := fun j hj => by rw [hE38]; exact ((ue_ne _ _ (show (o + 80) + j ≠ (o + 1) by omega)).trans (hp80 j hj))
  have hp93 : ∀ (j : Nat) (hj : j < 13), E38 ((o + 93) + j) = plantC G (o + 93) z0 j := fun j hj => by rw [hE38]; exact ((ue_ne _ _ (show (o + 93) + j ≠ (o + 1) by omega)).trans (hp93 j hj))
  have hp106 : ∀ (j : Nat) (hj : j < 13), E38 ((o + 106) + j) = plantC G (o + 106) z0 j := fun j hj => by rw [hE38]; exact ((ue_ne _ _ (show (o + 106) + j ≠ (o + 1) by omega)).trans (hp106 j hj))
  have hp119 : ∀ (j : Nat) (hj : j < 13), E38 ((o + 119) + j) = plantC G (o + 119) z0 j := fun j hj => by rw [hE38]; exact ((ue_ne _ _ (show (o + 119) + j ≠ (o + 1) by omega)).trans (hp119 j hj))
  have hp132 : ∀ (j : Nat) (hj : j < 13), E38 ((o + 132) + j) = plantC G (o + 132) z0 j := fun j hj => by rw [hE38]; exact ((ue_ne _ _ (show (o + 132) + j ≠ (o + 1) by omega)).trans (hp132 j hj))
  have hp145 : ∀ (j : Nat) (hj : j < 13), E38 ((o + 145) + j) = plantC G (o + 145) z0 j := fun j hj => by rw [hE38]; exact ((ue_ne _ _ (show (o + 145) + j ≠ (o + 1) by omega)).trans (hp145 j hj))
  refine lv_iinc (v := 12) (lv' := [(1, .int (12 : Int32)), (0, .ref (bb G + o))]) hx hb dX2_init_37 hl (k := 0) rfl (by decide) (by decide) rfl (fun ls hl => ?_)
  refine lv_goto (tgt := 15) hx hb dX2_init_40 (by decide) ?_
  refine lv_iload_n hx hb dX2_init_15 rfl (lv_at hl 0 rfl) ?_
  refine lv_aload_n hx hb dX2_init_16 rfl (lv_at hl 1 rfl) ?_
  refine rc_get (v := .ref (bb G + (o + 1))) hC hw inX2g rfl (by omega) q0 0 (by decide) (lg 267 (by decide +kernel) rfl) rfl dX2_init_17 ?_
  refine rc_alen (t0 := 3) (v := 14) hC hw (by omega) q1 rfl rfl dX2_init_20 ?_
  refine lv_icmp_ge (tgt := 43) hx hb dX2_init_21 (by decide) (fun hc => ?_) (fun hc => ?_)
  · exact absurd hc (by decide)
  refine lv_aload_n hx hb dX2_init_24 rfl (lv_at hl 1 rfl) ?_
  refine rc_get (v := .ref (bb G + (o + 1))) hC hw inX2g rfl (by omega) q0 0 (by decide) (lg 267 (by decide +kernel) rfl) rfl dX2_init_25 ?_
  refine lv_iload_n hx hb dX2_init_28 rfl (lv_at hl 0 rfl) ?_
  refine rc_new (ci := 5) (fs := [.null, .int 0, .null, .null, .null, .null, .null, .int 0, .int 0]) hC hw hS inX5g tyX5_ok rfl nwX2_9 (fun j hj => by rcases (show j = 0 ∨ j = 1 ∨ j = 2 ∨ j = 3 ∨ j = 4 ∨ j = 5 ∨ j = 6 ∨ j = 7 ∨ j = 8 by omega) with rfl | rfl | rfl | rfl | rfl | rfl | rfl | rfl | rfl <;> rfl) (by decide) (by decide) dX2_init_29 (fun H hw hS => ?_)
  obtain ⟨E39, hE39⟩ : ∃ F : Nat → va_E, F = ue E38 (o + 158) (.inr (5, [.null, .int 0, .null, .null, .null, .null, .null, .int 0, .int 0])) := ⟨_, rfl⟩
  have hw : Rw G (o + 159) E39 H := by rw [hE39]; exact hw
  have q0 : E39 o = .inr (2, [.ref (bb G + (o + 1)), .int 0, .int 0]) := by rw [hE39]; exact ((ue_ne _ _ (show o ≠ (o + 158) by omega)).trans q0)
  have q1 : E39 (o + 1) = .inl (G.2.1 3, 14, .inr (.inr (.inr (.inr (va_up (va_up (va_up (va_up (va_up (va_up (va_up (va_up (va_up (va_up (va_up (va_up (fun _ => none) (0 : Int32).toNatClampNeg (some (bb G + (o + 2)))) (1 : Int32).toNatClampNeg (some (bb G + (o + 15)))) (2 : Int32).toNatClampNeg (some (bb G + (o + 28)))) (3 : Int32).toNatClampNeg (some (bb G + (o + 41)))) (4 : Int32).toNatClampNeg (some (bb G + (o + 54)))) (5 : Int32).toNatClampNeg (some (bb G + (o + 67)))) (6 : Int32).toNatClampNeg (some (bb G + (o + 80)))) (7 : Int32).toNatClampNeg (some (bb G + (o + 93)))) (8 : Int32).toNatClampNeg (some (bb G + (o + 106)))) (9 : Int32).toNatClampNeg (some (bb G + (o + 119)))) (10 : Int32).toNatClampNeg (some (bb G + (o + 132)))) (11 : Int32).toNatClampNeg (some (bb G + (o + 145)))))))) := by rw [hE39]; exact ((ue_ne _ _ (show (o + 1) ≠ (o + 158) by omega)).trans q1)
  have q158 : E39 (o + 158) = .inr (5, [.null, .int 0, .null, .null, .null, .null, .null, .int 0, .int 0]) := by rw [hE39]; exact ue_same _ _ _
  have hlow : ∀ (a : Nat) (ha : a < o), E39 (a) = E a := fun a ha => by rw [hE39]; exact ((ue_ne _ _ (show a ≠ (o + 158) by omega)).trans (hlow a ha))
  have hp2 : ∀ (j : Nat) (hj : j < 13), E39 ((o + 2) + j) = plantC G (o + 2) z0 j := fun j hj => by rw [hE39]; exact ((ue_ne _ _ (show (o + 2) + j ≠ (o + 158) by omega)).trans (hp2 j hj))
  have hp15 : ∀ (j : Nat) (hj : j < 13), E39 ((o + 15) + j) = plantC G (o + 15) z0 j := fun j hj => by rw [hE39]; exact ((ue_ne _ _ (show (o + 15) + j ≠ (o + 158) by omega)).trans (hp15 j hj))
  have hp28 : ∀ (j : Nat) (hj : j < 13), E39 ((o + 28) + j) = plantC G (o + 28) z0 j := fun j hj => by rw [hE39]; exact ((ue_ne _ _ (show (o + 28) + j ≠ (o + 158) by omega)).trans (hp28 j hj))
  have hp41 : ∀ (j : Nat) (hj : j < 13), E39 ((o + 41) + j) = plantC G (o + 41) z0 j := fun j hj => by rw [hE39]; exact ((ue_ne _ _ (show (o + 41) + j ≠ (o + 158) by omega)).trans (hp41 j hj))
  have hp54 : ∀ (j : Nat) (hj : j < 13), E39 ((o + 54) + j) = plantC G (o + 54) z0 j := fun j hj => by rw [hE39]; exact ((ue_ne _ _ (show (o + 54) + j ≠ (o + 158) by omega)).trans (hp54 j hj))
  have hp67 : ∀ (j : Nat) (hj : j < 13), E39 ((o + 67) + j) = plantC G (o + 67) z0 j := fun j hj => by rw [hE39]; exact ((ue_ne _ _ (show (o + 67) + j ≠ (o + 158) by omega)).trans (hp67 j hj))
  have hp80 : ∀ (j : Nat) (hj : j < 13), E39 ((o + 80) + j) = plantC G (o + 80) z0 j := fun j hj => by rw [hE39]; exact ((ue_ne _ _ (show (o + 80) + j ≠ (o + 158) by omega)).trans (hp80 j hj))
  have hp93 : ∀ (j : Nat) (hj : j < 13), E39 ((o + 93) + j) = plantC G (o + 93) z0 j := fun j hj => by rw [hE39]; exact ((ue_ne _ _ (show (o + 93) + j ≠ (o + 158) by omega)).trans (hp93 j hj))
  have hp106 : ∀ (j : Nat) (hj : j < 13), E39 ((o + 106) + j) = plantC G (o + 106) z0 j := fun j hj => by rw [hE39]; exact ((ue_ne _ _ (show (o + 106) + j ≠ (o + 158) by omega)).trans (hp106 j hj))
  have hp119 : ∀ (j : Nat) (hj : j < 13), E39 ((o + 119) + j) = plantC G (o + 119) z0 j := fun j hj => by rw [hE39]; exact ((ue_ne _ _ (show (o + 119) + j ≠ (o + 158) by omega)).trans (hp119 j hj))
  have hp132 : ∀ (j : Nat) (hj : j < 13), E39 ((o + 132) + j) = plantC G (o + 132) z0 j := fun j hj => by rw [hE39]; exact ((ue_ne _ _ (show (o + 132) + j ≠ (o + 158) by omega)).trans (hp132 j hj))
  have hp145 : ∀ (j : Nat) (hj : j < 13), E39 ((o + 145) + j) = plantC G (o + 145) z0 j := fun j hj => by rw [hE39]; exact ((ue_ne _ _ (show (o + 145) + j ≠ (o + 158) by omega)).trans (hp145 j hj))
  refine lv_dup hx hb dX2_init_32 rfl ?_
  refine rc_init hC hI (c_X5_init l G (o + 158) E39 q158) wiX2_17 ⟨rfl, rfl, by decide, by decide⟩ hw hS hl.1 (Nat.le_of_ble_eq_true rfl) dX2_init_33 ⟨by decide, by decide⟩ (fun H locs hw hS => ?_)
  obtain ⟨E40, hE40⟩ : ∃ F : Nat → va_E, F = pE G E39 (o + 158) := ⟨_, rfl⟩
  have hw : Rw G (o + 171) E40 H := by rw [hE40]; exact hw
  have q0 : E40 o = .inr (2, [.ref (bb G + (o + 1)), .int 0, .int 0]) := by rw [hE40]; exact ((pE_lt _ _ (show o < (o + 158) by omega)).trans q0)
  have q1 : E40 (o + 1) = .inl (G.2.1 3, 14, .inr (.inr (.inr (.inr (va_up (va_up (va_up (va_up (va_up (va_up (va_up (va_up (va_up (va_up (va_up (va_up (fun _ => none) (0 : Int32).toNatClampNeg (some (bb G + (o + 2)))) (1 : Int32).toNatClampNeg (some (bb G + (o + 15)))) (2 : Int32).toNatClampNeg (some (bb G + (o + 28)))) (3 : Int32).toNatClampNeg (some (bb G + (o + 41)))) (4 : Int32).toNatClampNeg (some (bb G + (o + 54)))) (5 : Int32).toNatClampNeg (some (bb G + (o + 67)))) (6 : Int32).toNatClampNeg (some (bb G + (o + 80)))) (7 : Int32).toNatClampNeg (some (bb G + (o + 93)))) (8 : Int32).toNatClampNeg (some (bb G + (o + 106)))) (9 : Int32).toNatClampNeg (some (bb G + (o + 119)))) (10 : Int32).toNatClampNeg (some (bb G + (o + 132)))) (11 : Int32).toNatClampNeg (some (bb G + (o + 145)))))))) := by rw [hE40]; exact ((pE_lt _ _ (show (o + 1) < (o + 158) by omega)).trans q1)
  have q158 : E40 (o + 158) = .inr (5, [.ref (bb G + ((o + 158) + 1)), .int (z0 65), .ref (bb G + ((o + 158) + 2)), .ref (bb G + ((o + 158) + 3)), .ref (bb G + ((o + 158) + 4)), .ref (bb G + ((o + 158) + 5)), .ref (bb G + ((o + 158) + 7)), .int (z0 6), .int (z0 7)]) := by rw [hE40]; exact pE_at G E39 (o + 158) 0
  have hlow : ∀ (a : Nat) (ha : a < o), E40 (a) = E a := fun a ha => by rw [hE40]; exact ((pE_lt _ _ (show a < (o + 158) by omega)).trans (hlow a ha))
  have hp2 : ∀ (j : Nat) (hj : j < 13), E40 ((o + 2) + j) = plantC G (o + 2) z0 j := fun j hj => by rw [hE40]; exact ((pE_lt _ _ (show (o + 2) + j < (o + 158) by omega)).trans (hp2 j hj))
  have hp15 : ∀ (j : Nat) (hj : j < 13), E40 ((o + 15) + j) = plantC G (o + 15) z0 j := fun j hj => by rw [hE40]; exact ((pE_lt _ _ (show (o + 15) + j < (o + 158) by omega)).trans (hp15 j hj))
  have hp28 : ∀ (j : Nat) (hj : j < 13), E40 ((o + 28) + j) = plantC G (o + 28) z0 j := fun j hj => by rw [hE40]; exact ((pE_lt _ _ (show (o + 28) + j < (o + 158) by omega)).trans (hp28 j hj))
  have hp41 : ∀ (j : Nat) (hj : j < 13), E40 ((o + 41) + j) = plantC G (o + 41) z0 j := fun j hj => by rw [hE40]; exact ((pE_lt _ _ (show (o + 41) + j < (o + 158) by omega)).trans (hp41 j hj))
  have hp54 : ∀ (j : Nat) (hj : j < 13), E40 ((o + 54) + j) = plantC G (o + 54) z0 j := fun j hj => by rw [hE40]; exact ((pE_lt _ _ (show (o + 54) + j < (o + 158) by omega)).trans (hp54 j hj))
  have hp67 : ∀ (j : Nat) (hj : j < 13), E40 ((o + 67) + j) = plantC G (o + 67) z0 j := fun j hj => by rw [hE40]; exact ((pE_lt _ _ (show (o + 67) + j < (o + 158) by omega)).trans (hp67 j hj))
  have hp80 : ∀ (j : Nat) (hj : j < 13), E40 ((o + 80) + j) = plantC G (o + 80) z0 j := fun j hj => by rw [hE40]; exact ((pE_lt _ _ (show (o + 80) + j < (o + 158) by omega)).trans (hp80 j hj))
  have hp93 : ∀ (j : Nat) (hj : j < 13), E40 ((o + 93) + j) = plantC G (o + 93) z0 j := fun j hj => by rw [hE40]; exact ((pE_lt _ _ (show (o + 93) + j < (o + 158) by omega)).trans (hp93 j hj))
  have hp106 : ∀ (j : Nat) (hj : j < 13), E40 ((o + 106) + j) = plantC G (o + 106) z0 j := fun j hj => by rw [hE40]; exact ((pE_lt _ _ (show (o + 106) + j < (o + 158) by omega)).trans (hp106 j hj))
  have hp119 : ∀ (j : Nat) (hj : j < 13), E40 ((o + 119) + j) = plantC G (o + 119) z0 j := fun j hj => by rw [hE40]; exact ((pE_lt _ _ (show (o + 119) + j < (o + 158) by omega)).trans (hp119 j hj))
  have hp132 : ∀ (j : Nat) (hj : j < 13), E40 ((o + 132) + j) = plantC G (o + 132) z0 j := fun j hj => by rw [hE40]; exact ((pE_lt _ _ (show (o + 132) + j < (o + 158) by omega)).trans (hp132 j hj))
  have hp145 : ∀ (j : Nat) (hj : j < 13), E40 ((o + 145) + j) = plantC G (o + 145) z0 j := fun j hj => by rw [hE40]; exact ((pE_lt _ _ (show (o + 145) + j < (o + 158) by omega)).trans (hp145 j hj))
  have hp158 : ∀ (j : Nat) (hj : j < 13), E40 ((o + 158) + j) = plantC G (o + 158) z0 j := fun j hj => by rw [hE40]; exact pE_at G E39 (o + 158) j
  refine rc_aast (t0 := 3) (r := vwCl[5]) hC hw hS (by omega) q1 rfl (by omega) q158 rfl (show vp_in (12 : Int32) 14 by unfold vp_in; decide) dX2_init_36 (fun H locs hw hS => ?_)
  obtain ⟨E41, hE41⟩ : ∃ F : Nat → va_E, F = ue E40 (o + 1) (.inl (G.2.1 3, 14, .inr (.inr (.inr (.inr (va_up (va_up (va_up (va_up (va_up (va_up (va_up (va_up (va_up (va_up (va_up (va_up (va_up (fun _ => none) (0 : Int32).toNatClampNeg (some (bb G + (o + 2)))) (1 : Int32).toNatClampNeg (some (bb G + (o + 15)))) (2 : Int32).toNatClampNeg (some (bb G + (o + 28)))) (3 : Int32).toNatClampNeg (some (bb G + (o + 41)))) (4 : Int32).toNatClampNeg (some (bb G + (o + 54)))) (5 : Int32).toNatClampNeg (some (bb G + (o + 67)))) (6 : Int32).toNatClampNeg (some (bb G + (o + 80)))) (7 : Int32).toNatClampNeg (some (bb G + (o + 93)))) (8 : Int32).toNatClampNeg (some (bb G + (o + 106)))) (9 : Int32).toNatClampNeg (some (bb G + (o + 119)))) (10 : Int32).toNatClampNeg (some (bb G + (o + 132)))) (11 : Int32).toNatClampNeg (some (bb G + (o + 145)))) (12 : Int32).toNatClampNeg (some (bb G + (o + 158))))))))) := ⟨_, rfl⟩
  have hw : Rw G (o + 171) E41 H := by rw [hE41]; exact hw
  have q0 : E41 o = .inr (2, [.ref (bb G + (o + 1)), .int 0, .int 0]) := by rw [hE41]; exact ((ue_ne _ _ (show o ≠ (o + 1) by omega)).trans q0)
  have q1 : E41 (o + 1) = .inl (G.2.1 3, 14, .inr (.inr (.inr (.inr (va_up (va_up (va_up (va_up (va_up (va_up (va_up (va_up (va_up (va_up (va_up (va_up (va_up (fun _ => none) (0 : Int32).toNatClampNeg (some (bb G + (o + 2)))) (1 : Int32).toNatClampNeg (some (bb G + (o + 15)))) (2 : Int32).toNatClampNeg (some (bb G + (o + 28)))) (3 : Int32).toNatClampNeg (some (bb G + (o + 41)))) (4 : Int32).toNatClampNeg (some (bb G + (o + 54)))) (5 : Int32).toNatClampNeg (some (bb G + (o + 67)))) (6 : Int32).toNatClampNeg (some (bb G + (o + 80)))) (7 : Int32).toNatClampNeg (some (bb G + (o + 93)))) (8 : Int32).toNatClampNeg (some (bb G + (o + 106)))) (9 : Int32).toNatClampNeg (some (bb G + (o + 119)))) (10 : Int32).toNatClampNeg (some (bb G + (o + 132)))) (11 : Int32).toNatClampNeg (some (bb G + (o + 145)))) (12 : Int32).toNatClampNeg (some (bb G + (o + 158)))))))) := by rw [hE41]; exact ue_same _ _ _
  have hlow : ∀ (a : Nat) (ha : a < o), E41 (a) = E a := fun a ha => by rw [hE41]; exact ((ue_ne _ _ (show a ≠ (o + 1) by omega)).trans (hlow a ha))
  have hp2 : ∀ (j : Nat) (hj : j < 13), E41 ((o + 2) + j) = plantC G (o + 2) z0 j := fun j hj => by rw [hE41]; exact ((ue_ne _ _ (show (o + 2) + j ≠ (o + 1) by omega)).trans (hp2 j hj))
  have hp15 : ∀ (j : Nat) (hj : j < 13), E41 ((o + 15) + j) = plantC G (o + 15) z0 j := fun j hj => by rw [hE41]; exact ((ue_ne _ _ (show (o + 15) + j ≠ (o + 1) by omega)).trans (hp15 j hj))
  have hp28 : ∀ (j : Nat) (hj : j < 13), E41 ((o + 28) + j) = plantC G (o + 28) z0 j := fun j hj => by rw [hE41]; exact ((ue_ne _ _ (show (o + 28) + j ≠ (o + 1) by omega)).trans (hp28 j hj))
  have hp41 : ∀ (j : Nat) (hj : j < 13), E41 ((o + 41) + j) = plantC G (o + 41) z0 j := fun j hj => by rw [hE41]; exact ((ue_ne _ _ (show (o + 41) + j ≠ (o + 1) by omega)).trans (hp41 j hj))
  have hp54 : ∀ (j : Nat) (hj : j < 13), E41 ((o + 54) + j) = plantC G (o + 54) z0 j := fun j hj => by rw [hE41]; exact ((ue_ne _ _ (show (o + 54) + j ≠ (o + 1) by omega)).trans (hp54 j hj))
  have hp67 : ∀ (j : Nat) (hj : j < 13), E41 ((o + 67) + j) = plantC G (o + 67) z0 j := fun j hj => by rw [hE41]; exact ((ue_ne _ _ (show (o + 67) + j ≠ (o + 1) by omega)).trans (hp67 j hj))
  have hp80 : ∀ (j : Nat) (hj : j < 13), E41 ((o + 80) + j) = plantC G (o + 80) z0 j := fun j hj => by rw [hE41]; exact ((ue_ne _ _ (show (o + 80) + j ≠ (o + 1) by omega)).trans (hp80 j hj))
  have hp93 : ∀ (j : Nat) (hj : j < 13), E41 ((o + 93) + j) = plantC G (o + 93) z0 j := fun j hj => by rw [hE41]; exact ((ue_ne _ _ (show (o + 93) + j ≠ (o + 1) by omega)).trans (hp93 j hj))
  have hp106 : ∀ (j : Nat) (hj : j < 13), E41 ((o + 106) + j) = plantC G (o + 106) z0 j := fun j hj => by rw [hE41]; exact ((ue_ne _ _ (show (o + 106) + j ≠ (o + 1) by omega)).trans (hp106 j hj))
  have hp119 : ∀ (j : Nat) (hj : j < 13), E41 ((o + 119) + j) = plantC G (o + 119) z0 j := fun j hj => by rw [hE41]; exact ((ue_ne _ _ (show (o + 119) + j ≠ (o + 1) by omega)).trans (hp119 j hj))
  have hp132 : ∀ (j : Nat) (hj : j < 13), E41 ((o + 132) + j) = plantC G (o + 132) z0 j := fun j hj => by rw [hE41]; exact ((ue_ne _ _ (show (o + 132) + j ≠ (o + 1) by omega)).trans (hp132 j hj))
  have hp145 : ∀ (j : Nat) (hj : j < 13), E41 ((o + 145) + j) = plantC G (o + 145) z0 j := fun j hj => by rw [hE41]; exact ((ue_ne _ _ (show (o + 145) + j ≠ (o + 1) by omega)).trans (hp145 j hj))
  have hp158 : ∀ (j : Nat) (hj : j < 13), E41 ((o + 158) + j) = plantC G (o + 158) z0 j := fun j hj => by rw [hE41]; exact ((ue_ne _ _ (show (o + 158) + j ≠ (o + 1) by omega)).trans (hp158 j hj))
  refine lv_iinc (v := 13) (lv' := [(1, .int (13 : Int32)), (0, .ref (bb G + o))]) hx hb dX2_init_37 hl (k := 0) rfl (by decide) (by decide) rfl (fun ls hl => ?_)
  refine lv_goto (tgt := 15) hx hb dX2_init_40 (by decide) ?_
  refine lv_iload_n hx hb dX2_init_15 rfl (lv_at hl 0 rfl) ?_
  refine lv_aload_n hx hb dX2_init_16 rfl (lv_at hl 1 rfl) ?_
  refine rc_get (v := .ref (bb G + (o + 1))) hC hw inX2g rfl (by omega) q0 0 (by decide) (lg 267 (by decide +kernel) rfl) rfl dX2_init_17 ?_
  refine rc_alen (t0 := 3) (v := 14) hC hw (by omega) q1 rfl rfl dX2_init_20 ?_
  refine lv_icmp_ge (tgt := 43) hx hb dX2_init_21 (by decide) (fun hc => ?_) (fun hc => ?_)
  · exact absurd hc (by decide)
  refine lv_aload_n hx hb dX2_init_24 rfl (lv_at hl 1 rfl) ?_
  refine rc_get (v := .ref (bb G + (o + 1))) hC hw inX2g rfl (by omega) q0 0 (by decide) (lg 267 (by decide +kernel) rfl) rfl dX2_init_25 ?_
  refine lv_iload_n hx hb dX2_init_28 rfl (lv_at hl 0 rfl) ?_
  refine rc_new (ci := 5) (fs := [.null, .int 0, .null, .null, .null, .null, .null, .int 0, .int 0]) hC hw hS inX5g tyX5_ok rfl nwX2_9 (fun j hj => by rcases (show j = 0 ∨ j = 1 ∨ j = 2 ∨ j = 3 ∨ j = 4 ∨ j = 5 ∨ j = 6 ∨ j = 7 ∨ j = 8 by omega) with rfl | rfl | rfl | rfl | rfl | rfl | rfl | rfl | rfl <;> rfl) (by decide) (by decide) dX2_init_29 (fun H hw hS => ?_)
  obtain ⟨E42, hE42⟩ : ∃ F : Nat → va_E, F = ue E41 (o + 171) (.inr (5, [.null, .int 0, .null, .null, .null, .null, .null, .int 0, .int 0])) := ⟨_, rfl⟩
  have hw : Rw G (o + 172) E42 H := by rw [hE42]; exact hw
  have q0 : E42 o = .inr (2, [.ref (bb G + (o + 1)), .int 0, .int 0]) := by rw [hE42]; exact ((ue_ne _ _ (show o ≠ (o + 171) by omega)).trans q0)
  have q1 : E42 (o + 1) = .inl (G.2.1 3, 14, .inr (.inr (.inr (.inr (va_up (va_up (va_up (va_up (va_up (va_up (va_up (va_up (va_up (va_up (va_up (va_up (va_up (fun _ => none) (0 : Int32).toNatClampNeg (some (bb G + (o + 2)))) (1 : Int32).toNatClampNeg (some (bb G + (o + 15)))) (2 : Int32).toNatClampNeg (some (bb G + (o + 28)))) (3 : Int32).toNatClampNeg (some (bb G + (o + 41)))) (4 : Int32).toNatClampNeg (some (bb G + (o + 54)))) (5 : Int32).toNatClampNeg (some (bb G + (o + 67)))) (6 : Int32).toNatClampNeg (some (bb G + (o + 80)))) (7 : Int32).toNatClampNeg (some (bb G + (o + 93)))) (8 : Int32).toNatClampNeg (some (bb G + (o + 106)))) (9 : Int32).toNatClampNeg (some (bb G + (o + 119)))) (10 : Int32).toNatClampNeg (some (bb G + (o + 132)))) (11 : Int32).toNatClampNeg (some (bb G + (o + 145)))) (12 : Int32).toNatClampNeg (some (bb G + (o + 158)))))))) := by rw [hE42]; exact ((ue_ne _ _ (show (o + 1) ≠ (o + 171) by omega)).trans q1)
  have q171 : E42 (o + 171) = .inr (5, [.null, .int 0, .null, .null, .null, .null, .null, .int 0, .int 0]) := by rw [hE42]; exact ue_same _ _ _
  have hlow : ∀ (a : Nat) (ha : a < o), E42 (a) = E a := fun a ha => by rw [hE42]; exact ((ue_ne _ _ (show a ≠ (o + 171) by omega)).trans (hlow a ha))
  have hp2 : ∀ (j : Nat) (hj : j < 13), E42 ((o + 2) + j) = plantC G (o + 2) z0 j := fun j hj => by rw [hE42]; exact ((ue_ne _ _ (show (o + 2) + j ≠ (o + 171) by omega)).trans (hp2 j hj))
  have hp15 : ∀ (j : Nat) (hj : j < 13), E42 ((o + 15) + j) = plantC G (o + 15) z0 j := fun j hj => by rw [hE42]; exact ((ue_ne _ _ (show (o + 15) + j ≠ (o + 171) by omega)).trans (hp15 j hj))
  have hp28 : ∀ (j : Nat) (hj : j < 13), E42 ((o + 28) + j) = plantC G (o + 28) z0 j := fun j hj => by rw [hE42]; exact ((ue_ne _ _ (show (o + 28) + j ≠ (o + 171) by omega)).trans (hp28 j hj))
  have hp41 : ∀ (j : Nat) (hj : j < 13), E42 ((o + 41) + j) = plantC G (o + 41) z0 j := fun j hj => by rw [hE42]; exact ((ue_ne _ _ (show (o + 41) + j ≠ (o + 171) by omega)).trans (hp41 j hj))
  have hp54 : ∀ (j : Nat) (hj : j < 13), E42 ((o + 54) + j) = plantC G (o + 54) z0 j := fun j hj => by rw [hE42]; exact ((ue_ne _ _ (show (o + 54) + j ≠ (o + 171) by omega)).trans (hp54 j hj))
  have hp67 : ∀ (j : Nat) (hj : j < 13), E42 ((o + 67) + j) = plantC G (o + 67) z0 j := fun j hj => by rw [hE42]; exact ((ue_ne _ _ (show (o + 67) + j ≠ (o + 171) by omega)).trans (hp67 j hj))
  have hp80 : ∀ (j : Nat) (hj : j < 13), E42 ((o + 80) + j) = plantC G (o + 80) z0 j := fun j hj => by rw [hE42]; exact ((ue_ne _ _ (show (o + 80) + j ≠ (o + 171) by omega)).trans (hp80 j hj))
  have hp93 : ∀ (j : Nat) (hj : j < 13), E42 ((o + 93) + j) = plantC G (o + 93) z0 j := fun j hj => by rw [hE42]; exact ((ue_ne _ _ (show (o + 93) + j ≠ (o + 171) by omega)).trans (hp93 j hj))
  have hp106 : ∀ (j : Nat) (hj : j < 13), E42 ((o + 106) + j) = plantC G (o + 106) z0 j := fun j hj => by rw [hE42]; exact ((ue_ne _ _ (show (o + 106) + j ≠ (o + 171) by omega)).trans (hp106 j hj))
  have hp119 : ∀ (j : Nat) (hj : j < 13), E42 ((o + 119) + j) = plantC G (o + 119) z0 j := fun j hj => by rw [hE42]; exact ((ue_ne _ _ (show (o + 119) + j ≠ (o + 171) by omega)).trans (hp119 j hj))
  have hp132 : ∀ (j : Nat) (hj : j < 13), E42 ((o + 132) + j) = plantC G (o + 132) z0 j := fun j hj => by rw [hE42]; exact ((ue_ne _ _ (show (o + 132) + j ≠ (o + 171) by omega)).trans (hp132 j hj))
  have hp145 : ∀ (j : Nat) (hj : j < 13), E42 ((o + 145) + j) = plantC G (o + 145) z0 j := fun j hj => by rw [hE42]; exact ((ue_ne _ _ (show (o + 145) + j ≠ (o + 171) by omega)).trans (hp145 j hj))
  have hp158 : ∀ (j : Nat) (hj : j < 13), E42 ((o + 158) + j) = plantC G (o + 158) z0 j := fun j hj => by rw [hE42]; exact ((ue_ne _ _ (show (o + 158) + j ≠ (o + 171) by omega)).trans (hp158 j hj))
  refine lv_dup hx hb dX2_init_32 rfl ?_
  refine rc_init hC hI (c_X5_init l G (o + 171) E42 q171) wiX2_17 ⟨rfl, rfl, by decide, by decide⟩ hw hS hl.1 (Nat.le_of_ble_eq_true rfl) dX2_init_33 ⟨by decide, by decide⟩ (fun H locs hw hS => ?_)
  obtain ⟨E43, hE43⟩ : ∃ F : Nat → va_E, F = pE G E42 (o + 171) := ⟨_, rfl⟩
  have hw : Rw G (o + 184) E43 H := by rw [hE43]; exact hw
  have q0 : E43 o = .inr (2, [.ref (bb G + (o + 1)), .int 0, .int 0]) := by rw [hE43]; exact ((pE_lt _ _ (show o < (o + 171) by omega)).trans q0)
  have q1 : E43 (o + 1) = .inl (G.2.1 3, 14, .inr (.inr (.inr (.inr (va_up (va_up (va_up (va_up (va_up (va_up (va_up (va_up (va_up (va_up (va_up (va_up (va_up (fun _ => none) (0 : Int32).toNatClampNeg (some (bb G + (o + 2)))) (1 : Int32).toNatClampNeg (some (bb G + (o + 15)))) (2 : Int32).toNatClampNeg (some (bb G + (o + 28)))) (3 : Int32).toNatClampNeg (some (bb G + (o + 41)))) (4 : Int32).toNatClampNeg (some (bb G + (o + 54)))) (5 : Int32).toNatClampNeg (some (bb G + (o + 67)))) (6 : Int32).toNatClampNeg (some (bb G + (o + 80)))) (7 : Int32).toNatClampNeg (some (bb G + (o + 93)))) (8 : Int32).toNatClampNeg (some (bb G + (o + 106)))) (9 : Int32).toNatClampNeg (some (bb G + (o + 119)))) (10 : Int32).toNatClampNeg (some (bb G + (o + 132)))) (11 : Int32).toNatClampNeg (some (bb G + (o + 145)))) (12 : Int32).toNatClampNeg (some (bb G + (o + 158)))))))) := by rw [hE43]; exact ((pE_lt _ _ (show (o + 1) < (o + 171) by omega)).trans q1)
  have q171 : E43 (o + 171) = .inr (5, [.ref (bb G + ((o + 171) + 1)), .int (z0 65), .ref (bb G + ((o + 171) + 2)), .ref (bb G + ((o + 171) + 3)), .ref (bb G + ((o + 171) + 4)), .ref (bb G + ((o + 171) + 5)), .ref (bb G + ((o + 171) + 7)), .int (z0 6), .int (z0 7)]) := by rw [hE43]; exact pE_at G E42 (o + 171) 0
  have hlow : ∀ (a : Nat) (ha : a < o), E43 (a) = E a := fun a ha => by rw [hE43]; exact ((pE_lt _ _ (show a < (o + 171) by omega)).trans (hlow a ha))
  have hp2 : ∀ (j : Nat) (hj : j < 13), E43 ((o + 2) + j) = plantC G (o + 2) z0 j := fun j hj => by rw [hE43]; exact ((pE_lt _ _ (show (o + 2) + j < (o + 171) by omega)).trans (hp2 j hj))
  have hp15 : ∀ (j : Nat) (hj : j < 13), E43 ((o + 15) + j) = plantC G (o + 15) z0 j := fun j hj => by rw [hE43]; exact ((pE_lt _ _ (show (o + 15) + j < (o + 171) by omega)).trans (hp15 j hj))
  have hp28 : ∀ (j : Nat) (hj : j < 13), E43 ((o + 28) + j) = plantC G (o + 28) z0 j := fun j hj => by rw [hE43]; exact ((pE_lt _ _ (show (o + 28) + j < (o + 171) by omega)).trans (hp28 j hj))
  have hp41 : ∀ (j : Nat) (hj : j < 13), E43 ((o + 41) + j) = plantC G (o + 41) z0 j := fun j hj => by rw [hE43]; exact ((pE_lt _ _ (show (o + 41) + j < (o + 171) by omega)).trans (hp41 j hj))
  have hp54 : ∀ (j : Nat) (hj : j < 13), E43 ((o + 54) + j) = plantC G (o + 54) z0 j := fun j hj => by rw [hE43]; exact ((pE_lt _ _ (show (o + 54) + j < (o + 171) by omega)).trans (hp54 j hj))
  have hp67 : ∀ (j : Nat) (hj : j < 13), E43 ((o + 67) + j) = plantC G (o + 67) z0 j := fun j hj => by rw [hE43]; exact ((pE_lt _ _ (show (o + 67) + j < (o + 171) by omega)).trans (hp67 j hj))
  have hp80 : ∀ (j : Nat) (hj : j < 13), E43 ((o + 80) + j) = plantC G (o + 80) z0 j := fun j hj => by rw [hE43]; exact ((pE_lt _ _ (show (o + 80) + j < (o + 171) by omega)).trans (hp80 j hj))
  have hp93 : ∀ (j : Nat) (hj : j < 13), E43 ((o + 93) + j) = plantC G (o + 93) z0 j := fun j hj => by rw [hE43]; exact ((pE_lt _ _ (show (o + 93) + j < (o + 171) by omega)).trans (hp93 j hj))
  have hp106 : ∀ (j : Nat) (hj : j < 13), E43 ((o + 106) + j) = plantC G (o + 106) z0 j := fun j hj => by rw [hE43]; exact ((pE_lt _ _ (show (o + 106) + j < (o + 171) by omega)).trans (hp106 j hj))
  have hp119 : ∀ (j : Nat) (hj : j < 13), E43 ((o + 119) + j) = plantC G (o + 119) z0 j := fun j hj => by rw [hE43]; exact ((pE_lt _ _ (show (o + 119) + j < (o + 171) by omega)).trans (hp119 j hj))
  have hp132 : ∀ (j : Nat) (hj : j < 13), E43 ((o + 132) + j) = plantC G (o + 132) z0 j := fun j hj => by rw [hE43]; exact ((pE_lt _ _ (show (o + 132) + j < (o + 171) by omega)).trans (hp132 j hj))
  have hp145 : ∀ (j : Nat) (hj : j < 13), E43 ((o + 145) + j) = plantC G (o + 145) z0 j := fun j hj => by rw [hE43]; exact ((pE_lt _ _ (show (o + 145) + j < (o + 171) by omega)).trans (hp145 j hj))
  have hp158 : ∀ (j : Nat) (hj : j < 13), E43 ((o + 158) + j) = plantC G (o + 158) z0 j := fun j hj => by rw [hE43]; exact ((pE_lt _ _ (show (o + 158) + j < (o + 171) by omega)).trans (hp158 j hj))
  have hp171 : ∀ (j : Nat) (hj : j < 13), E43 ((o + 171) + j) = plantC G (o + 171) z0 j := fun j hj => by rw [hE43]; exact pE_at G E42 (o + 171) j
  refine rc_aast (t0 := 3) (r := vwCl[5]) hC hw hS (by omega) q1 rfl (by omega) q171 rfl (show vp_in (13 : Int32) 14 by unfold vp_in; decide) dX2_init_36 (fun H locs hw hS => ?_)
  obtain ⟨E44, hE44⟩ : ∃ F : Nat → va_E, F = ue E43 (o + 1) (.inl (G.2.1 3, 14, .inr (.inr (.inr (.inr (va_up (va_up (va_up (va_up (va_up (va_up (va_up (va_up (va_up (va_up (va_up (va_up (va_up (va_up (fun _ => none) (0 : Int32).toNatClampNeg (some (bb G + (o + 2)))) (1 : Int32).toNatClampNeg (some (bb G + (o + 15)))) (2 : Int32).toNatClampNeg (some (bb G + (o + 28)))) (3 : Int32).toNatClampNeg (some (bb G + (o + 41)))) (4 : Int32).toNatClampNeg (some (bb G + (o + 54)))) (5 : Int32).toNatClampNeg (some (bb G + (o + 67)))) (6 : Int32).toNatClampNeg (some (bb G + (o + 80)))) (7 : Int32).toNatClampNeg (some (bb G + (o + 93)))) (8 : Int32).toNatClampNeg (some (bb G + (o + 106)))) (9 : Int32).toNatClampNeg (some (bb G + (o + 119)))) (10 : Int32).toNatClampNeg (some (bb G + (o + 132)))) (11 : Int32).toNatClampNeg (some (bb G + (o + 145)))) (12 : Int32).toNatClampNeg (some (bb G + (o + 158)))) (13 : Int32).toNatClampNeg (some (bb G + (o + 171))))))))) := ⟨_, rfl⟩
  have hw : Rw G (o + 184) E44 H := by rw [hE44]; exact hw
  have q0 : E44 o = .inr (2, [.ref (bb G + (o + 1)), .int 0, .int 0]) := by rw [hE44]; exact ((ue_ne _ _ (show o ≠ (o + 1) by omega)).trans q0)
  have q1 : E44 (o + 1) = .inl (G.2.1 3, 14, .inr (.inr (.inr (.inr (va_up (va_up (va_up (va_up (va_up (va_up (va_up (va_up (va_up (va_up (va_up (va_up (va_up (va_up (fun _ => none) (0 : Int32).toNatClampNeg (some (bb G + (o + 2)))) (1 : Int32).toNatClampNeg (some (bb G + (o + 15)))) (2 : Int32).toNatClampNeg (some (bb G + (o + 28)))) (3 : Int32).toNatClampNeg (some (bb G + (o + 41)))) (4 : Int32).toNatClampNeg (some (bb G + (o + 54)))) (5 : Int32).toNatClampNeg (some (bb G + (o + 67)))) (6 : Int32).toNatClampNeg (some (bb G + (o + 80)))) (7 : Int32).toNatClampNeg (some (bb G + (o + 93)))) (8 : Int32).toNatClampNeg (some (bb G + (o + 106)))) (9 : Int32).toNatClampNeg (some (bb G + (o + 119)))) (10 : Int32).toNatClampNeg (some (bb G + (o + 132)))) (11 : Int32).toNatClampNeg (some (bb G + (o + 145)))) (12 : Int32).toNatClampNeg (some (bb G + (o + 158)))) (13 : Int32).toNatClampNeg (some (bb G + (o + 171)))))))) := by rw [hE44]; exact ue_same _ _ _
  have hlow : ∀ (a : Nat) (ha : a < o), E44 (a) = E a := fun a ha => by rw [hE44]; exact ((ue_ne _ _ (show a ≠ (o + 1) by omega)).trans (hlow a ha))
  have hp2 : ∀ (j : Nat) (hj : j < 13), E44 ((o + 2) + j) = plantC G (o + 2) z0 j := fun j hj => by rw [hE44]; exact ((ue_ne _ _ (show (o + 2) + j ≠ (o + 1) by omega)).trans (hp2 j hj))
  have hp15 : ∀ (j : Nat) (hj : j < 13), E44 ((o + 15) + j) = plantC G (o + 15) z0 j := fun j hj => by rw [hE44]; exact ((ue_ne _ _ (show (o + 15) + j ≠ (o + 1) by omega)).trans (hp15 j hj))
  have hp28 : ∀ (j : Nat) (hj : j < 13), E44 ((o + 28) + j) = plantC G (o + 28) z0 j := fun j hj => by rw [hE44]; exact ((ue_ne _ _ (show (o + 28) + j ≠ (o + 1) by omega)).trans (hp28 j hj))
  have hp41 : ∀ (j : Nat) (hj : j < 13), E44 ((o + 41) + j) = plantC G (o + 41) z0 j := fun j hj => by rw [hE44]; exact ((ue_ne _ _ (show (o + 41) + j ≠ (o + 1) by omega)).trans (hp41 j hj))
  have hp54 : ∀ (j : Nat) (hj : j < 13), E44 ((o + 54) + j) = plantC G (o + 54) z0 j := fun j hj => by rw [hE44]; exact ((ue_ne _ _ (show (o + 54) + j ≠ (o + 1) by omega)).trans (hp54 j hj))
  have hp67 : ∀ (j : Nat) (hj : j < 13), E44 ((o + 67) + j) = plantC G (o + 67) z0 j := fun j hj => by rw [hE44]; exact ((ue_ne _ _ (show (o + 67) + j ≠ (o + 1) by omega)).trans (hp67 j hj))
  have hp80 : ∀ (j : Nat) (hj : j < 13), E44 ((o + 80) + j) = plantC G (o + 80) z0 j := fun j hj => by rw [hE44]; exact ((ue_ne _ _ (show (o + 80) + j ≠ (o + 1) by omega)).trans (hp80 j hj))
  have hp93 : ∀ (j : Nat) (hj : j < 13), E44 ((o + 93) + j) = plantC G (o + 93) z0 j := fun j hj => by rw [hE44]; exact ((ue_ne _ _ (show (o + 93) + j ≠ (o + 1) by omega)).trans (hp93 j hj))
  have hp106 : ∀ (j : Nat) (hj : j < 13), E44 ((o + 106) + j) = plantC G (o + 106) z0 j := fun j hj => by rw [hE44]; exact ((ue_ne _ _ (show (o + 106) + j ≠ (o + 1) by omega)).trans (hp106 j hj))
  have hp119 : ∀ (j : Nat) (hj : j < 13), E44 ((o + 119) + j) = plantC G (o + 119) z0 j := fun j hj => by rw [hE44]; exact ((ue_ne _ _ (show (o + 119) + j ≠ (o + 1) by omega)).trans (hp119 j hj))
  have hp132 : ∀ (j : Nat) (hj : j < 13), E44 ((o + 132) + j) = plantC G (o + 132) z0 j := fun j hj => by rw [hE44]; exact ((ue_ne _ _ (show (o + 132) + j ≠ (o + 1) by omega)).trans (hp132 j hj))
  have hp145 : ∀ (j : Nat) (hj : j < 13), E44 ((o + 145) + j) = plantC G (o + 145) z0 j := fun j hj => by rw [hE44]; exact ((ue_ne _ _ (show (o + 145) + j ≠ (o + 1) by omega)).trans (hp145 j hj))
  have hp158 : ∀ (j : Nat) (hj : j < 13), E44 ((o + 158) + j) = plantC G (o + 158) z0 j := fun j hj => by rw [hE44]; exact ((ue_ne _ _ (show (o + 158) + j ≠ (o + 1) by omega)).trans (hp158 j hj))
  have hp171 : ∀ (j : Nat) (hj : j < 13), E44 ((o + 171) + j) = plantC G (o + 171) z0 j := fun j hj => by rw [hE44]; exact ((ue_ne _ _ (show (o + 171) + j ≠ (o + 1) by omega)).trans (hp171 j hj))
  refine lv_iinc (v := 14) (lv' := [(1, .int (14 : Int32)), (0, .ref (bb G + o))]) hx hb dX2_init_37 hl (k := 0) rfl (by decide) (by decide) rfl (fun ls hl => ?_)
  refine lv_goto (tgt := 15) hx hb dX2_init_40 (by decide) ?_
  refine lv_iload_n hx hb dX2_init_15 rfl (lv_at hl 0 rfl) ?_
  refine lv_aload_n hx hb dX2_init_16 rfl (lv_at hl 1 rfl) ?_
  refine rc_get (v := .ref (bb G + (o + 1))) hC hw inX2g rfl (by omega) q0 0 (by decide) (lg 267 (by decide +kernel) rfl) rfl dX2_init_17 ?_
  refine rc_alen (t0 := 3) (v := 14) hC hw (by omega) q1 rfl rfl dX2_init_20 ?_
  refine lv_icmp_ge (tgt := 43) hx hb dX2_init_21 (by decide) (fun hc => ?_) (fun hc => ?_)
  rotate_left
  · exact (hc (by decide)).elim
  refine m_vretI hC hr hlk hw hS (fun a ha H h => ?_) dX2_init_43
  rcases (show a < o ∨ a = o ∨ a = o + 1 ∨ ∃ j i, j < 14 ∧ i < 13 ∧ a = o + 2 + 13 * j + i by rcases Nat.lt_or_ge (o + 1) a with q | q; exact Or.inr (Or.inr (Or.inr ⟨(a - (o + 2)) / 13, (a - (o + 2)) % 13, by omega, by omega, by omega⟩)); omega) with h1 | rfl | rfl | ⟨j, i, hj, hi, rfl⟩
  · rw [hE_lt _ _ h1, ← hlow a h1]; exact h
  · rw [hE_0]; rw [q0] at h; exact h
  · rw [hE_1]; rw [q1] at h; refine at_q (fun j hj => ?_) h
    rcases (show j = 0 ∨ j = 1 ∨ j = 2 ∨ j = 3 ∨ j = 4 ∨ j = 5 ∨ j = 6 ∨ j = 7 ∨ j = 8 ∨ j = 9 ∨ j = 10 ∨ j = 11 ∨ j = 12 ∨ j = 13 by omega) with rfl | rfl | rfl | rfl | rfl | rfl | rfl | rfl | rfl | rfl | rfl | rfl | rfl | rfl <;> rfl
  · rw [hE_at _ _ _ _ _ hi]
    rcases (show j = 0 ∨ j = 1 ∨ j = 2 ∨ j = 3 ∨ j = 4 ∨ j = 5 ∨ j = 6 ∨ j = 7 ∨ j = 8 ∨ j = 9 ∨ j = 10 ∨ j = 11 ∨ j = 12 ∨ j = 13 by omega) with rfl | rfl | rfl | rfl | rfl | rfl | rfl | rfl | rfl | rfl | rfl | rfl | rfl | rfl
    · rw [show o + 2 + 13 * 0 + i = (o + 2) + i by omega, hp2 i hi] at h; rw [show o + 2 + 13 * 0 = o + 2 by omega]; exact h
    · rw [show o + 2 + 13 * 1 + i = (o + 15) + i by omega, hp15 i hi] at h; rw [show o + 2 + 13 * 1 = o + 15 by omega]; exact h
    · rw [show o + 2 + 13 * 2 + i = (o + 28) + i by omega, hp28 i hi] at h; rw [show o + 2 + 13 * 2 = o + 28 by omega]; exact h
    · rw [show o + 2 + 13 * 3 + i = (o + 41) + i by omega, hp41 i hi] at h; rw [show o + 2 + 13 * 3 = o + 41 by omega]; exact h
    · rw [show o + 2 + 13 * 4 + i = (o + 54) + i by omega, hp54 i hi] at h; rw [show o + 2 + 13 * 4 = o + 54 by omega]; exact h
    · rw [show o + 2 + 13 * 5 + i = (o + 67) + i by omega, hp67 i hi] at h; rw [show o + 2 + 13 * 5 = o + 67 by omega]; exact h
    · rw [show o + 2 + 13 * 6 + i = (o + 80) + i by omega, hp80 i hi] at h; rw [show o + 2 + 13 * 6 = o + 80 by omega]; exact h
    · rw [show o + 2 + 13 * 7 + i = (o + 93) + i by omega, hp93 i hi] at h; rw [show o + 2 + 13 * 7 = o + 93 by omega]; exact h
    · rw [show o + 2 + 13 * 8 + i = (o + 106) + i by omega, hp106 i hi] at h; rw [show o + 2 + 13 * 8 = o + 106 by omega]; exact h
    · rw [show o + 2 + 13 * 9 + i = (o + 119) + i by omega, hp119 i hi] at h; rw [show o + 2 + 13 * 9 = o + 119 by omega]; exact h
    · rw [show o + 2 + 13 * 10 + i = (o + 132) + i by omega, hp132 i hi] at h; rw [show o + 2 + 13 * 10 = o + 132 by omega]; exact h
    · rw [show o + 2 + 13 * 11 + i = (o + 145) + i by omega, hp145 i hi] at h; rw [show o + 2 + 13 * 11 = o + 145 by omega]; exact h
    · rw [show o + 2 + 13 * 12 + i = (o + 158) + i by omega, hp158 i hi] at h; rw [show o + 2 + 13 * 12 = o + 158 by omega]; exact h
    · rw [show o + 2 + 13 * 13 + i = (o + 171) + i by omega, hp171 i hi] at h; rw [show o + 2 + 13 * 13 = o + 171 by omega]; exact h
