/-! the constructor of the class, the law's start -/
/-- the memory of a new object, its plants empty -/
def C0 : Mem := fun r k => if r = 18 then (if k = 2 then 4 else if k = 3 then 50 else if k = 4 then 50 else if k = 5 then 1 else 0) else if r = 20 then (if k = 0 then 10 else 0) else if r = 22 then (if k < 8 then 40 else 0) else 0
theorem C0_z {q : Nat} (h : q < 18) : C0 q = z0 := by
  funext k
  unfold C0 z0
  rw [if_neg (by omega), if_neg (by omega), if_neg (by omega)]
theorem rc_initQ {p : Program} {l : Launch} {e : Env} {R : Room} {s : State} {m : MethodId} {args : Array Value} {below : List Frame} {meth : Method} {c : Code} {H : Heap} {locs : List Loc} {cells slots : Nat} {Q : State → Prop} {cc : ByteArray} {pc : Nat} {ls : Array Slot} {rest : List Value} {own : String} {nL : Nat} {G : GG} {index mc ms maxL : Nat} {y : MethodName} {bytes : ByteArray} {rm : Room} {E E1 : Nat → va_E} {C D1 : Mem} (hC : Cx p s m args c cc own nL G) (hI : TI s) (hM : CtI l y bytes maxL rm mc ms (gQ G H) 1 E1 0 244 (cellAt (gQ G H) D1)) (hV : WI own index y bytes maxL) (hR : rm.cells = mc ∧ rm.slots = ms ∧ rm.frames + 1 ≤ R.frames ∧ 8 + (maxL + 11) + rm.locals ≤ R.locals) (hw : Rw G 245 E H) (he : E1 0 = E 244) (hp : ∀ a, a < 244 → E a = cellAt G C a) (hS : LW G s H locs) (hls : ls.size = nL) (hWd : (rest.map fun v => v.category).sum ≤ 8) (hdg : decode cc pc = .ok (.invokespecial index, 3)) (hf : cells + mc ≤ R.cells ∧ slots + ms ≤ R.slots)
    (kk : ∀ (H1 : Heap) (locs1 : List Loc), Wd G 244 C H1 → Oq G D1 H1 → LW G s H1 locs1 → W p l e R s m args below meth c H1 locs1 (cells + mc) (slots + ms) Q (F0 m (pc + 3) ls rest)) : W p l e R s m args below meth c H locs cells slots Q (F0 m pc ls (.ref (bb G + 244) :: rest)) := by
  obtain ⟨h1, h2, h4, h5, h6, h7, h8⟩ := hV
  have h := hC.2.2.2.2.1
  have hwq : Rw (gQ G H) 1 E1 H := ⟨by rw [hw.1], fun _ _ => rfl, fun a ha => by
    have e0 : a = 0 := by omega
    subst e0
    rw [he]
    exact hw.2.2 244 (by decide)⟩
  have hlo : ∀ a, a < bb G → H[a]? = G.2.2.1[a]? := hw.2.1
  have hr := va_runI (p := p) (l := l) (e := e) (R := R) (s := s) (m := m) (args := args) (below := below) (meth := meth) (c := c) (H := H) (locs := locs) (cells := cells) (slots := slots) (g := F0 m pc ls (.ref (bb G + 244) :: rest)) (b := bb G + 244) (As := []) (rest := rest) ⟨hC.1, hC.2.1, hC.2.2.1, hC.2.2.2.1, h⟩ hM ⟨⟨hR.1, hR.2.1, hR.2.2.1, hR.2.2.2, fun w hw => (by
    rcases List.mem_cons.mp hw with rfl | hw
    · exact lg_warm h _ h5
    · exact lg_warm h _ hw), List.mem_cons_self, h _ h5, h _ h4, h6, fun sig hs => (by
    rw [hs] at h7
    exact (Option.some.inj h7).symm), h _ h1⟩, h8, h _ h2⟩ ⟨PI.blind, fun U hU hW => ⟨rfl, by rw [hU]; exact hwq, (hC.2.2.2.2.2.1.q hlo).warm hW, hI.warm hW⟩⟩ rfl rfl hls rfl (lv_room hWd) hdg hf
  intro T hT X
  obtain ⟨v, st₀, t, T', L, h0, X', hL, e1, e2, ⟨hv, hwd, hz⟩, st⟩ := hr T hT X
  cases hv
  rw [← e1] at hwd
  have hs1 : T'.heap.size = bb G + 244 + 244 := hwd.1
  have hs0 : H.size = bb G + 245 := hw.1
  have out : ∀ q, q < bb G + 244 → T'.heap[q]? = H[q]? := fun q hq => hwd.2.1 q hq
  have hwp : Wd G 244 C T'.heap := ⟨by omega, fun a ha h => (out a ha).trans (hlo a (by omega)), fun a ha _ => by
    rw [← hp a ha]
    exact (hw.2.2 a (by omega)).kept (out _ (by show bb G + a < _; omega))⟩
  have hoq : Oq G D1 T'.heap := ⟨by omega, fun a ha => at_gQ.mp (hwd.2.2 a ha)⟩
  have hSS : LW G s T'.heap (locs ++ L) := by
    refine ⟨Nat.le_trans hS.1 (by omega), fun q hq hn => ?_, fun q hq => ?_⟩
    · have hb' : q < bb G := Nat.not_le.mp hn
      rw [out q (by omega)]
      exact hS.2.1 q hq hn
    · rcases List.mem_append.mp hq with h | h
      · exact hS.2.2 q h
      · exact Nat.le_trans (Nat.le_add_right _ _) (hL q h)
  obtain ⟨t2, a1, b1⟩ := kk T'.heap (locs ++ L) hwp hoq hSS T' rfl X'
  exact ⟨t2, st t2 a1, b1⟩
theorem oiX8 : OI RX8 1 := ⟨(lg 39 (by decide +kernel) rfl), (lg 40 (by decide +kernel) rfl), (lg 41 (by decide +kernel) rfl)⟩
theorem nwX8_7 : Cond.classLink RX8 7 RX4 ∈ lw_g ∧ Cond.instantiable RX4 11 ∈ lw_g ∧ Cond.initialized RX4 ∈ lw_g := ⟨(lg 42 (by decide +kernel) rfl), (lg 43 (by decide +kernel) rfl), (lg 18 (by decide +kernel) rfl)⟩
theorem wiX8_9 : WI RX8 9 yX4_init cX4_init 1 := ⟨(lg 44 (by decide +kernel) rfl), (lg 45 (by decide +kernel) rfl), (lg 18 (by decide +kernel) rfl), (lg 46 (by decide +kernel) rfl), ⟨by decide +kernel, by decide +kernel⟩, by decide +kernel, rfl⟩
theorem nwX8_16 : Cond.classLink RX8 16 RX5 ∈ lw_g ∧ Cond.instantiable RX5 9 ∈ lw_g ∧ Cond.initialized RX5 ∈ lw_g := ⟨(lg 95 (by decide +kernel) rfl), (lg 96 (by decide +kernel) rfl), (lg 19 (by decide +kernel) rfl)⟩
theorem wiX8_18 : WI RX8 18 yX5_init cX5_init 2 := ⟨(lg 97 (by decide +kernel) rfl), (lg 98 (by decide +kernel) rfl), (lg 19 (by decide +kernel) rfl), (lg 99 (by decide +kernel) rfl), ⟨by decide +kernel, by decide +kernel⟩, by decide +kernel, rfl⟩
theorem nwX8_26 : Cond.classLink RX8 26 RX2 ∈ lw_g ∧ Cond.instantiable RX2 3 ∈ lw_g ∧ Cond.initialized RX2 ∈ lw_g := ⟨(lg 258 (by decide +kernel) rfl), (lg 259 (by decide +kernel) rfl), (lg 24 (by decide +kernel) rfl)⟩
theorem wiX8_28 : WI RX8 28 yX2_init cX2_init 2 := ⟨(lg 260 (by decide +kernel) rfl), (lg 261 (by decide +kernel) rfl), (lg 24 (by decide +kernel) rfl), (lg 262 (by decide +kernel) rfl), ⟨by decide +kernel, by decide +kernel⟩, by decide +kernel, rfl⟩
theorem nwX8_33 : Cond.classLink RX8 33 RX6 ∈ lw_g ∧ Cond.instantiable RX6 2 ∈ lw_g ∧ Cond.initialized RX6 ∈ lw_g := ⟨(lg 278 (by decide +kernel) rfl), (lg 279 (by decide +kernel) rfl), (lg 25 (by decide +kernel) rfl)⟩
theorem wnX8_35 : WN RX8 35 yX6_init cX6_init 1 := ⟨List.mem_of_getElem? (i := 4) rfl, (lg 281 (by decide +kernel) rfl), (lg 25 (by decide +kernel) rfl), (lg 282 (by decide +kernel) rfl), ⟨by decide +kernel, by decide +kernel⟩, by decide +kernel, rfl⟩
theorem nwL_8 : Cond.classLink RL 8 RX8 ∈ lw_g ∧ Cond.instantiable RX8 6 ∈ lw_g ∧ Cond.initialized RX8 ∈ lw_g := ⟨(lg 34 (by decide +kernel) rfl), (lg 35 (by decide +kernel) rfl), (lg 17 (by decide +kernel) rfl)⟩
theorem wiL_262 : WI RL 262 yX8_init cX8_init 1 := ⟨(lg 36 (by decide +kernel) rfl), (lg 37 (by decide +kernel) rfl), (lg 17 (by decide +kernel) rfl), (lg 38 (by decide +kernel) rfl), ⟨by decide +kernel, by decide +kernel⟩, by decide +kernel, rfl⟩
set_option maxHeartbeats 4000000 in
set_option maxRecDepth 100000 in
theorem c_X8_init (l : Launch) (G : GG) (E : Nat → va_E) (he : E 0 = .inr (8, [.null, .null, .null, .null, .null, .null])) {rB : Int32} {C1 : Mem} (hF : F_X5_beginAs 0 C0 = some (rB, C1)) : CtI l yX8_init cX8_init 1 (rmX 4 78 243 1532) 243 1532 G 1 E 0 244 (cellAt G C1) := by
  refine CtI.of (by decide) (Nat.le_of_ble_eq_true rfl) ?_
  intro p e s m below meth c ls hC hI hnm hr hlk hw hl
  have hx := hC.1
  have hb := hC.2.1
  have hS : LW G s s.heap [] := va_S.rf
  have hs0 := hw.1
  have q0 := he
  refine lv_aload_n hx hb dX8_init_0 rfl (lv_at hl 0 rfl) ?_
  refine rc_obj hC oiX8 hl.1 dX8_init_1 (by decide) (by decide) ?_
  refine lv_aload_n hx hb dX8_init_4 rfl (lv_at hl 0 rfl) ?_
  refine rc_new (ci := 4) (fs := [.null, .int 0, .int 0, .int 0, .int 0, .int 0, .null, .null, .null, .int 0, .int 0]) hC hw hS inX4g tyX4_ok rfl nwX8_7 (fun j hj => by rcases (show j = 0 ∨ j = 1 ∨ j = 2 ∨ j = 3 ∨ j = 4 ∨ j = 5 ∨ j = 6 ∨ j = 7 ∨ j = 8 ∨ j = 9 ∨ j = 10 by omega) with rfl | rfl | rfl | rfl | rfl | rfl | rfl | rfl | rfl | rfl | rfl <;> rfl) (by decide) (by decide) dX8_init_5 (fun H hw hS => ?_)
  obtain ⟨E1, hE1⟩ : ∃ F : Nat → va_E, F = ue E 1 (.inr (4, [.null, .int 0, .int 0, .int 0, .int 0, .int 0, .null, .null, .null, .int 0, .int 0])) := ⟨_, rfl⟩
  have hw : Rw G 2 E1 H := by rw [hE1]; exact hw
  have q0 : E1 0 = .inr (8, [.null, .null, .null, .null, .null, .null]) := by rw [hE1]; exact ((ue_ne _ _ (show 0 ≠ 1 by omega)).trans q0)
  have q1 : E1 1 = .inr (4, [.null, .int 0, .int 0, .int 0, .int 0, .int 0, .null, .null, .null, .int 0, .int 0]) := by rw [hE1]; exact ue_same _ _ _
  refine lv_dup hx hb dX8_init_8 rfl ?_
  refine rc_init hC hI (c_X4_init l G 1 E1 q1) wiX8_9 ⟨rfl, rfl, by decide, by decide⟩ hw hS hl.1 (Nat.le_of_ble_eq_true rfl) dX8_init_9 ⟨by decide, by decide⟩ (fun H locs hw hS => ?_)
  obtain ⟨E2, hE2⟩ : ∃ F : Nat → va_E, F = lE G E1 1 := ⟨_, rfl⟩
  have hw : Rw G 6 E2 H := by rw [hE2]; exact hw
  have q0 : E2 0 = .inr (8, [.null, .null, .null, .null, .null, .null]) := by rw [hE2]; exact ((lE_lt _ _ (show 0 < 1 by omega)).trans q0)
  have q1 : E2 1 = .inr (4, [.ref (bb G + (1 + 1)), .int 0, .int 4, .int 50, .int 50, .int 1, .ref (bb G + (1 + 2)), .ref (bb G + (1 + 3)), .ref (bb G + (1 + 4)), .int 0, .int 0]) := by rw [hE2]; exact lE_0 G E1 1
  have q2 : E2 2 = .inl (G.2.1 0, 60, .inl z0) := by rw [hE2]; exact lE_1 G E1 1
  have q3 : E2 3 = .inl (G.2.1 0, 5, .inl (fun j => if j = 0 then 10 else 0)) := by rw [hE2]; exact lE_2 G E1 1
  have q4 : E2 4 = .inl (G.2.1 0, 5, .inl z0) := by rw [hE2]; exact lE_3 G E1 1
  have q5 : E2 5 = .inl (G.2.1 0, 8, .inl (fun j => if j < 8 then 40 else 0)) := by rw [hE2]; exact lE_4 G E1 1
  refine rc_putF (v := .ref (bb G + 1)) hC hw hS inX8g tyX8_ok nmX8 rfl (by omega) q0 0 (by decide) (lg 324 (by decide +kernel) rfl) rfl hnm rfl rfl rfl (Nat.le_of_ble_eq_true rfl) dX8_init_12 (fun H locs hw hS => ?_)
  obtain ⟨E3, hE3⟩ : ∃ F : Nat → va_E, F = ue E2 0 (.inr (8, [.ref (bb G + 1), .null, .null, .null, .null, .null])) := ⟨_, rfl⟩
  have hw : Rw G 6 E3 H := by rw [hE3]; exact hw
  have q1 : E3 1 = .inr (4, [.ref (bb G + (1 + 1)), .int 0, .int 4, .int 50, .int 50, .int 1, .ref (bb G + (1 + 2)), .ref (bb G + (1 + 3)), .ref (bb G + (1 + 4)), .int 0, .int 0]) := by rw [hE3]; exact ((ue_ne _ _ (show 1 ≠ 0 by omega)).trans q1)
  have q2 : E3 2 = .inl (G.2.1 0, 60, .inl z0) := by rw [hE3]; exact ((ue_ne _ _ (show 2 ≠ 0 by omega)).trans q2)
  have q3 : E3 3 = .inl (G.2.1 0, 5, .inl (fun j => if j = 0 then 10 else 0)) := by rw [hE3]; exact ((ue_ne _ _ (show 3 ≠ 0 by omega)).trans q3)
  have q4 : E3 4 = .inl (G.2.1 0, 5, .inl z0) := by rw [hE3]; exact ((ue_ne _ _ (show 4 ≠ 0 by omega)).trans q4)
  have q5 : E3 5 = .inl (G.2.1 0, 8, .inl (fun j => if j < 8 then 40 else 0)) := by rw [hE3]; exact ((ue_ne _ _ (show 5 ≠ 0 by omega)).trans q5)
  have q0 : E3 0 = .inr (8, [.ref (bb G + 1), .null, .null, .null, .null, .null]) := by rw [hE3]; exact ue_same _ _ _
  refine lv_aload_n hx hb dX8_init_15 rfl (lv_at hl 0 rfl) ?_
  refine rc_new (ci := 5) (fs := [.null, .int 0, .null, .null, .null, .null, .null, .int 0, .int 0]) hC hw hS inX5g tyX5_ok rfl nwX8_16 (fun j hj => by rcases (show j = 0 ∨ j = 1 ∨ j = 2 ∨ j = 3 ∨ j = 4 ∨ j = 5 ∨ j = 6 ∨ j = 7 ∨ j = 8 by omega) with rfl | rfl | rfl | rfl | rfl | rfl | rfl | rfl | rfl <;> rfl) (by decide) (by decide) dX8_init_16 (fun H hw hS => ?_)
  obtain ⟨E4, hE4⟩ : ∃ F : Nat → va_E, F = ue E3 6 (.inr (5, [.null, .int 0, .null, .null, .null, .null, .null, .int 0, .int 0])) := ⟨_, rfl⟩
  have hw : Rw G 7 E4 H := by rw [hE4]; exact hw
  have q0 : E4 0 = .inr (8, [.ref (bb G + 1), .null, .null, .null, .null, .null]) := by rw [hE4]; exact ((ue_ne _ _ (show 0 ≠ 6 by omega)).trans q0)
  have q1 : E4 1 = .inr (4, [.ref (bb G + (1 + 1)), .int 0, .int 4, .int 50, .int 50, .int 1, .ref (bb G + (1 + 2)), .ref (bb G + (1 + 3)), .ref (bb G + (1 + 4)), .int 0, .int 0]) := by rw [hE4]; exact ((ue_ne _ _ (show 1 ≠ 6 by omega)).trans q1)
  have q2 : E4 2 = .inl (G.2.1 0, 60, .inl z0) := by rw [hE4]; exact ((ue_ne _ _ (show 2 ≠ 6 by omega)).trans q2)
  have q3 : E4 3 = .inl (G.2.1 0, 5, .inl (fun j => if j = 0 then 10 else 0)) := by rw [hE4]; exact ((ue_ne _ _ (show 3 ≠ 6 by omega)).trans q3)
  have q4 : E4 4 = .inl (G.2.1 0, 5, .inl z0) := by rw [hE4]; exact ((ue_ne _ _ (show 4 ≠ 6 by omega)).trans q4)
  have q5 : E4 5 = .inl (G.2.1 0, 8, .inl (fun j => if j < 8 then 40 else 0)) := by rw [hE4]; exact ((ue_ne _ _ (show 5 ≠ 6 by omega)).trans q5)
  have q6 : E4 6 = .inr (5, [.null, .int 0, .null, .null, .null, .null, .null, .int 0, .int 0]) := by rw [hE4]; exact ue_same _ _ _
  refine lv_dup hx hb dX8_init_19 rfl ?_
  refine rc_init hC hI (c_X5_init l G 6 E4 q6) wiX8_18 ⟨rfl, rfl, by decide, by decide⟩ hw hS hl.1 (Nat.le_of_ble_eq_true rfl) dX8_init_20 ⟨by decide, by decide⟩ (fun H locs hw hS => ?_)
  obtain ⟨E5, hE5⟩ : ∃ F : Nat → va_E, F = pE G E4 6 := ⟨_, rfl⟩
  have hw : Rw G 19 E5 H := by rw [hE5]; exact hw
  have q0 : E5 0 = .inr (8, [.ref (bb G + 1), .null, .null, .null, .null, .null]) := by rw [hE5]; exact ((pE_lt _ _ (show 0 < 6 by omega)).trans q0)
  have q1 : E5 1 = .inr (4, [.ref (bb G + (1 + 1)), .int 0, .int 4, .int 50, .int 50, .int 1, .ref (bb G + (1 + 2)), .ref (bb G + (1 + 3)), .ref (bb G + (1 + 4)), .int 0, .int 0]) := by rw [hE5]; exact ((pE_lt _ _ (show 1 < 6 by omega)).trans q1)
  have q2 : E5 2 = .inl (G.2.1 0, 60, .inl z0) := by rw [hE5]; exact ((pE_lt _ _ (show 2 < 6 by omega)).trans q2)
  have q3 : E5 3 = .inl (G.2.1 0, 5, .inl (fun j => if j = 0 then 10 else 0)) := by rw [hE5]; exact ((pE_lt _ _ (show 3 < 6 by omega)).trans q3)
  have q4 : E5 4 = .inl (G.2.1 0, 5, .inl z0) := by rw [hE5]; exact ((pE_lt _ _ (show 4 < 6 by omega)).trans q4)
  have q5 : E5 5 = .inl (G.2.1 0, 8, .inl (fun j => if j < 8 then 40 else 0)) := by rw [hE5]; exact ((pE_lt _ _ (show 5 < 6 by omega)).trans q5)
  have q6 : E5 6 = .inr (5, [.ref (bb G + (6 + 1)), .int (z0 65), .ref (bb G + (6 + 2)), .ref (bb G + (6 + 3)), .ref (bb G + (6 + 4)), .ref (bb G + (6 + 5)), .ref (bb G + (6 + 7)), .int (z0 6), .int (z0 7)]) := by rw [hE5]; exact pE_at G E4 6 0
  have hp6 : ∀ (j : Nat) (hj : j < 13), E5 (6 + j) = plantC G 6 z0 j := fun j hj => by rw [hE5]; exact pE_at G E4 6 j
  refine rc_putF (v := .ref (bb G + 6)) hC hw hS inX8g tyX8_ok nmX8 rfl (by omega) q0 1 (by decide) (lg 325 (by decide +kernel) rfl) rfl hnm rfl rfl rfl (Nat.le_of_ble_eq_true rfl) dX8_init_23 (fun H locs hw hS => ?_)
  obtain ⟨E6, hE6⟩ : ∃ F : Nat → va_E, F = ue E5 0 (.inr (8, [.ref (bb G + 1), .ref (bb G + 6), .null, .null, .null, .null])) := ⟨_, rfl⟩
  have hw : Rw G 19 E6 H := by rw [hE6]; exact hw
  have q1 : E6 1 = .inr (4, [.ref (bb G + (1 + 1)), .int 0, .int 4, .int 50, .int 50, .int 1, .ref (bb G + (1 + 2)), .ref (bb G + (1 + 3)), .ref (bb G + (1 + 4)), .int 0, .int 0]) := by rw [hE6]; exact ((ue_ne _ _ (show 1 ≠ 0 by omega)).trans q1)
  have q2 : E6 2 = .inl (G.2.1 0, 60, .inl z0) := by rw [hE6]; exact ((ue_ne _ _ (show 2 ≠ 0 by omega)).trans q2)
  have q3 : E6 3 = .inl (G.2.1 0, 5, .inl (fun j => if j = 0 then 10 else 0)) := by rw [hE6]; exact ((ue_ne _ _ (show 3 ≠ 0 by omega)).trans q3)
  have q4 : E6 4 = .inl (G.2.1 0, 5, .inl z0) := by rw [hE6]; exact ((ue_ne _ _ (show 4 ≠ 0 by omega)).trans q4)
  have q5 : E6 5 = .inl (G.2.1 0, 8, .inl (fun j => if j < 8 then 40 else 0)) := by rw [hE6]; exact ((ue_ne _ _ (show 5 ≠ 0 by omega)).trans q5)
  have q6 : E6 6 = .inr (5, [.ref (bb G + (6 + 1)), .int (z0 65), .ref (bb G + (6 + 2)), .ref (bb G + (6 + 3)), .ref (bb G + (6 + 4)), .ref (bb G + (6 + 5)), .ref (bb G + (6 + 7)), .int (z0 6), .int (z0 7)]) := by rw [hE6]; exact ((ue_ne _ _ (show 6 ≠ 0 by omega)).trans q6)
  have q0 : E6 0 = .inr (8, [.ref (bb G + 1), .ref (bb G + 6), .null, .null, .null, .null]) := by rw [hE6]; exact ue_same _ _ _
  have hp6 : ∀ (j : Nat) (hj : j < 13), E6 (6 + j) = plantC G 6 z0 j := fun j hj => by rw [hE6]; exact ((ue_ne _ _ (show 6 + j ≠ 0 by omega)).trans (hp6 j hj))
  refine lv_aload_n hx hb dX8_init_26 rfl (lv_at hl 0 rfl) ?_
  refine rc_new (ci := 5) (fs := [.null, .int 0, .null, .null, .null, .null, .null, .int 0, .int 0]) hC hw hS inX5g tyX5_ok rfl nwX8_16 (fun j hj => by rcases (show j = 0 ∨ j = 1 ∨ j = 2 ∨ j = 3 ∨ j = 4 ∨ j = 5 ∨ j = 6 ∨ j = 7 ∨ j = 8 by omega) with rfl | rfl | rfl | rfl | rfl | rfl | rfl | rfl | rfl <;> rfl) (by decide) (by decide) dX8_init_27 (fun H hw hS => ?_)
  obtain ⟨E7, hE7⟩ : ∃ F : Nat → va_E, F = ue E6 19 (.inr (5, [.null, .int 0, .null, .null, .null, .null, .null, .int 0, .int 0])) := ⟨_, rfl⟩
  have hw : Rw G 20 E7 H := by rw [hE7]; exact hw
  have q0 : E7 0 = .inr (8, [.ref (bb G + 1), .ref (bb G + 6), .null, .null, .null, .null]) := by rw [hE7]; exact ((ue_ne _ _ (show 0 ≠ 19 by omega)).trans q0)
  have q1 : E7 1 = .inr (4, [.ref (bb G + (1 + 1)), .int 0, .int 4, .int 50, .int 50, .int 1, .ref (bb G + (1 + 2)), .ref (bb G + (1 + 3)), .ref (bb G + (1 + 4)), .int 0, .int 0]) := by rw [hE7]; exact ((ue_ne _ _ (show 1 ≠ 19 by omega)).trans q1)
  have q2 : E7 2 = .inl (G.2.1 0, 60, .inl z0) := by rw [hE7]; exact ((ue_ne _ _ (show 2 ≠ 19 by omega)).trans q2)
  have q3 : E7 3 = .inl (G.2.1 0, 5, .inl (fun j => if j = 0 then 10 else 0)) := by rw [hE7]; exact ((ue_ne _ _ (show 3 ≠ 19 by omega)).trans q3)
  have q4 : E7 4 = .inl (G.2.1 0, 5, .inl z0) := by rw [hE7]; exact ((ue_ne _ _ (show 4 ≠ 19 by omega)).trans q4)
  have q5 : E7 5 = .inl (G.2.1 0, 8, .inl (fun j => if j < 8 then 40 else 0)) := by rw [hE7]; exact ((ue_ne _ _ (show 5 ≠ 19 by omega)).trans q5)
  have q6 : E7 6 = .inr (5, [.ref (bb G + (6 + 1)), .int (z0 65), .ref (bb G + (6 + 2)), .ref (bb G + (6 + 3)), .ref (bb G + (6 + 4)), .ref (bb G + (6 + 5)), .ref (bb G + (6 + 7)), .int (z0 6), .int (z0 7)]) := by rw [hE7]; exact ((ue_ne _ _ (show 6 ≠ 19 by omega)).trans q6)
  have q19 : E7 19 = .inr (5, [.null, .int 0, .null, .null, .null, .null, .null, .int 0, .int 0]) := by rw [hE7]; exact ue_same _ _ _
  have hp6 : ∀ (j : Nat) (hj : j < 13), E7 (6 + j) = plantC G 6 z0 j := fun j hj => by rw [hE7]; exact ((ue_ne _ _ (show 6 + j ≠ 19 by omega)).trans (hp6 j hj))
  refine lv_dup hx hb dX8_init_30 rfl ?_
  refine rc_init hC hI (c_X5_init l G 19 E7 q19) wiX8_18 ⟨rfl, rfl, by decide, by decide⟩ hw hS hl.1 (Nat.le_of_ble_eq_true rfl) dX8_init_31 ⟨by decide, by decide⟩ (fun H locs hw hS => ?_)
  obtain ⟨E8, hE8⟩ : ∃ F : Nat → va_E, F = pE G E7 19 := ⟨_, rfl⟩
  have hw : Rw G 32 E8 H := by rw [hE8]; exact hw
  have q0 : E8 0 = .inr (8, [.ref (bb G + 1), .ref (bb G + 6), .null, .null, .null, .null]) := by rw [hE8]; exact ((pE_lt _ _ (show 0 < 19 by omega)).trans q0)
  have q1 : E8 1 = .inr (4, [.ref (bb G + (1 + 1)), .int 0, .int 4, .int 50, .int 50, .int 1, .ref (bb G + (1 + 2)), .ref (bb G + (1 + 3)), .ref (bb G + (1 + 4)), .int 0, .int 0]) := by rw [hE8]; exact ((pE_lt _ _ (show 1 < 19 by omega)).trans q1)
  have q2 : E8 2 = .inl (G.2.1 0, 60, .inl z0) := by rw [hE8]; exact ((pE_lt _ _ (show 2 < 19 by omega)).trans q2)
  have q3 : E8 3 = .inl (G.2.1 0, 5, .inl (fun j => if j = 0 then 10 else 0)) := by rw [hE8]; exact ((pE_lt _ _ (show 3 < 19 by omega)).trans q3)
  have q4 : E8 4 = .inl (G.2.1 0, 5, .inl z0) := by rw [hE8]; exact ((pE_lt _ _ (show 4 < 19 by omega)).trans q4)
  have q5 : E8 5 = .inl (G.2.1 0, 8, .inl (fun j => if j < 8 then 40 else 0)) := by rw [hE8]; exact ((pE_lt _ _ (show 5 < 19 by omega)).trans q5)
  have q6 : E8 6 = .inr (5, [.ref (bb G + (6 + 1)), .int (z0 65), .ref (bb G + (6 + 2)), .ref (bb G + (6 + 3)), .ref (bb G + (6 + 4)), .ref (bb G + (6 + 5)), .ref (bb G + (6 + 7)), .int (z0 6), .int (z0 7)]) := by rw [hE8]; exact ((pE_lt _ _ (show 6 < 19 by omega)).trans q6)
  have q19 : E8 19 = .inr (5, [.ref (bb G + (19 + 1)), .int (z0 65), .ref (bb G + (19 + 2)), .ref (bb G + (19 + 3)), .ref (bb G + (19 + 4)), .ref (bb G + (19 + 5)), .ref (bb G + (19 + 7)), .int (z0 6), .int (z0 7)]) := by rw [hE8]; exact pE_at G E7 19 0
  have hp6 : ∀ (j : Nat) (hj : j < 13), E8 (6 + j) = plantC G 6 z0 j := fun j hj => by rw [hE8]; exact ((pE_lt _ _ (show 6 + j < 19 by omega)).trans (hp6 j hj))
  have hp19 : ∀ (j : Nat) (hj : j < 13), E8 (19 + j) = plantC G 19 z0 j := fun j hj => by rw [hE8]; exact pE_at G E7 19 j
  refine rc_putF (v := .ref (bb G + 19)) hC hw hS inX8g tyX8_ok nmX8 rfl (by omega) q0 2 (by decide) (lg 326 (by decide +kernel) rfl) rfl hnm rfl rfl rfl (Nat.le_of_ble_eq_true rfl) dX8_init_34 (fun H locs hw hS => ?_)
  obtain ⟨E9, hE9⟩ : ∃ F : Nat → va_E, F = ue E8 0 (.inr (8, [.ref (bb G + 1), .ref (bb G + 6), .ref (bb G + 19), .null, .null, .null])) := ⟨_, rfl⟩
  have hw : Rw G 32 E9 H := by rw [hE9]; exact hw
  have q1 : E9 1 = .inr (4, [.ref (bb G + (1 + 1)), .int 0, .int 4, .int 50, .int 50, .int 1, .ref (bb G + (1 + 2)), .ref (bb G + (1 + 3)), .ref (bb G + (1 + 4)), .int 0, .int 0]) := by rw [hE9]; exact ((ue_ne _ _ (show 1 ≠ 0 by omega)).trans q1)
  have q2 : E9 2 = .inl (G.2.1 0, 60, .inl z0) := by rw [hE9]; exact ((ue_ne _ _ (show 2 ≠ 0 by omega)).trans q2)
  have q3 : E9 3 = .inl (G.2.1 0, 5, .inl (fun j => if j = 0 then 10 else 0)) := by rw [hE9]; exact ((ue_ne _ _ (show 3 ≠ 0 by omega)).trans q3)
  have q4 : E9 4 = .inl (G.2.1 0, 5, .inl z0) := by rw [hE9]; exact ((ue_ne _ _ (show 4 ≠ 0 by omega)).trans q4)
  have q5 : E9 5 = .inl (G.2.1 0, 8, .inl (fun j => if j < 8 then 40 else 0)) := by rw [hE9]; exact ((ue_ne _ _ (show 5 ≠ 0 by omega)).trans q5)
  have q6 : E9 6 = .inr (5, [.ref (bb G + (6 + 1)), .int (z0 65), .ref (bb G + (6 + 2)), .ref (bb G + (6 + 3)), .ref (bb G + (6 + 4)), .ref (bb G + (6 + 5)), .ref (bb G + (6 + 7)), .int (z0 6), .int (z0 7)]) := by rw [hE9]; exact ((ue_ne _ _ (show 6 ≠ 0 by omega)).trans q6)
  have q19 : E9 19 = .inr (5, [.ref (bb G + (19 + 1)), .int (z0 65), .ref (bb G + (19 + 2)), .ref (bb G + (19 + 3)), .ref (bb G + (19 + 4)), .ref (bb G + (19 + 5)), .ref (bb G + (19 + 7)), .int (z0 6), .int (z0 7)]) := by rw [hE9]; exact ((ue_ne _ _ (show 19 ≠ 0 by omega)).trans q19)
  have q0 : E9 0 = .inr (8, [.ref (bb G + 1), .ref (bb G + 6), .ref (bb G + 19), .null, .null, .null]) := by rw [hE9]; exact ue_same _ _ _
  have hp6 : ∀ (j : Nat) (hj : j < 13), E9 (6 + j) = plantC G 6 z0 j := fun j hj => by rw [hE9]; exact ((ue_ne _ _ (show 6 + j ≠ 0 by omega)).trans (hp6 j hj))
  have hp19 : ∀ (j : Nat) (hj : j < 13), E9 (19 + j) = plantC G 19 z0 j := fun j hj => by rw [hE9]; exact ((ue_ne _ _ (show 19 + j ≠ 0 by omega)).trans (hp19 j hj))
  refine lv_aload_n hx hb dX8_init_37 rfl (lv_at hl 0 rfl) ?_
  refine rc_new (ci := 2) (fs := [.null, .int 0, .int 0]) hC hw hS inX2g tyX2_ok rfl nwX8_26 (fun j hj => by rcases (show j = 0 ∨ j = 1 ∨ j = 2 by omega) with rfl | rfl | rfl <;> rfl) (by decide) (by decide) dX8_init_38 (fun H hw hS => ?_)
  obtain ⟨E10, hE10⟩ : ∃ F : Nat → va_E, F = ue E9 32 (.inr (2, [.null, .int 0, .int 0])) := ⟨_, rfl⟩
  have hw : Rw G 33 E10 H := by rw [hE10]; exact hw
  have q0 : E10 0 = .inr (8, [.ref (bb G + 1), .ref (bb G + 6), .ref (bb G + 19), .null, .null, .null]) := by rw [hE10]; exact ((ue_ne _ _ (show 0 ≠ 32 by omega)).trans q0)
  have q1 : E10 1 = .inr (4, [.ref (bb G + (1 + 1)), .int 0, .int 4, .int 50, .int 50, .int 1, .ref (bb G + (1 + 2)), .ref (bb G + (1 + 3)), .ref (bb G + (1 + 4)), .int 0, .int 0]) := by rw [hE10]; exact ((ue_ne _ _ (show 1 ≠ 32 by omega)).trans q1)
  have q2 : E10 2 = .inl (G.2.1 0, 60, .inl z0) := by rw [hE10]; exact ((ue_ne _ _ (show 2 ≠ 32 by omega)).trans q2)
  have q3 : E10 3 = .inl (G.2.1 0, 5, .inl (fun j => if j = 0 then 10 else 0)) := by rw [hE10]; exact ((ue_ne _ _ (show 3 ≠ 32 by omega)).trans q3)
  have q4 : E10 4 = .inl (G.2.1 0, 5, .inl z0) := by rw [hE10]; exact ((ue_ne _ _ (show 4 ≠ 32 by omega)).trans q4)
  have q5 : E10 5 = .inl (G.2.1 0, 8, .inl (fun j => if j < 8 then 40 else 0)) := by rw [hE10]; exact ((ue_ne _ _ (show 5 ≠ 32 by omega)).trans q5)
  have q6 : E10 6 = .inr (5, [.ref (bb G + (6 + 1)), .int (z0 65), .ref (bb G + (6 + 2)), .ref (bb G + (6 + 3)), .ref (bb G + (6 + 4)), .ref (bb G + (6 + 5)), .ref (bb G + (6 + 7)), .int (z0 6), .int (z0 7)]) := by rw [hE10]; exact ((ue_ne _ _ (show 6 ≠ 32 by omega)).trans q6)
  have q19 : E10 19 = .inr (5, [.ref (bb G + (19 + 1)), .int (z0 65), .ref (bb G + (19 + 2)), .ref (bb G + (19 + 3)), .ref (bb G + (19 + 4)), .ref (bb G + (19 + 5)), .ref (bb G + (19 + 7)), .int (z0 6), .int (z0 7)]) := by rw [hE10]; exact ((ue_ne _ _ (show 19 ≠ 32 by omega)).trans q19)
  have q32 : E10 32 = .inr (2, [.null, .int 0, .int 0]) := by rw [hE10]; exact ue_same _ _ _
  have hp6 : ∀ (j : Nat) (hj : j < 13), E10 (6 + j) = plantC G 6 z0 j := fun j hj => by rw [hE10]; exact ((ue_ne _ _ (show 6 + j ≠ 32 by omega)).trans (hp6 j hj))
  have hp19 : ∀ (j : Nat) (hj : j < 13), E10 (19 + j) = plantC G 19 z0 j := fun j hj => by rw [hE10]; exact ((ue_ne _ _ (show 19 + j ≠ 32 by omega)).trans (hp19 j hj))
  refine lv_dup hx hb dX8_init_41 rfl ?_
  refine rc_init hC hI (c_X2_init l G 32 E10 q32) wiX8_28 ⟨rfl, rfl, by decide, by decide⟩ hw hS hl.1 (Nat.le_of_ble_eq_true rfl) dX8_init_42 ⟨by decide, by decide⟩ (fun H locs hw hS => ?_)
  obtain ⟨E11, hE11⟩ : ∃ F : Nat → va_E, F = hE G E10 32 := ⟨_, rfl⟩
  have hw : Rw G 216 E11 H := by rw [hE11]; exact hw
  have q0 : E11 0 = .inr (8, [.ref (bb G + 1), .ref (bb G + 6), .ref (bb G + 19), .null, .null, .null]) := by rw [hE11]; exact ((hE_lt _ _ (show 0 < 32 by omega)).trans q0)
  have q1 : E11 1 = .inr (4, [.ref (bb G + (1 + 1)), .int 0, .int 4, .int 50, .int 50, .int 1, .ref (bb G + (1 + 2)), .ref (bb G + (1 + 3)), .ref (bb G + (1 + 4)), .int 0, .int 0]) := by rw [hE11]; exact ((hE_lt _ _ (show 1 < 32 by omega)).trans q1)
  have q2 : E11 2 = .inl (G.2.1 0, 60, .inl z0) := by rw [hE11]; exact ((hE_lt _ _ (show 2 < 32 by omega)).trans q2)
  have q3 : E11 3 = .inl (G.2.1 0, 5, .inl (fun j => if j = 0 then 10 else 0)) := by rw [hE11]; exact ((hE_lt _ _ (show 3 < 32 by omega)).trans q3)
  have q4 : E11 4 = .inl (G.2.1 0, 5, .inl z0) := by rw [hE11]; exact ((hE_lt _ _ (show 4 < 32 by omega)).trans q4)
  have q5 : E11 5 = .inl (G.2.1 0, 8, .inl (fun j => if j < 8 then 40 else 0)) := by rw [hE11]; exact ((hE_lt _ _ (show 5 < 32 by omega)).trans q5)
  have q6 : E11 6 = .inr (5, [.ref (bb G + (6 + 1)), .int (z0 65), .ref (bb G + (6 + 2)), .ref (bb G + (6 + 3)), .ref (bb G + (6 + 4)), .ref (bb G + (6 + 5)), .ref (bb G + (6 + 7)), .int (z0 6), .int (z0 7)]) := by rw [hE11]; exact ((hE_lt _ _ (show 6 < 32 by omega)).trans q6)
  have q19 : E11 19 = .inr (5, [.ref (bb G + (19 + 1)), .int (z0 65), .ref (bb G + (19 + 2)), .ref (bb G + (19 + 3)), .ref (bb G + (19 + 4)), .ref (bb G + (19 + 5)), .ref (bb G + (19 + 7)), .int (z0 6), .int (z0 7)]) := by rw [hE11]; exact ((hE_lt _ _ (show 19 < 32 by omega)).trans q19)
  have q32 : E11 32 = .inr (2, [.ref (bb G + (32 + 1)), .int 0, .int 0]) := by rw [hE11]; exact hE_0 G E10 32
  have q33 : E11 33 = .inl (G.2.1 3, 14, .inr (.inr (.inr (.inr (fun j => some (bb G + (32 + 2 + 13 * j))))))) := by rw [hE11]; exact hE_1 G E10 32
  have hp6 : ∀ (j : Nat) (hj : j < 13), E11 (6 + j) = plantC G 6 z0 j := fun j hj => by rw [hE11]; exact ((hE_lt _ _ (show 6 + j < 32 by omega)).trans (hp6 j hj))
  have hp19 : ∀ (j : Nat) (hj : j < 13), E11 (19 + j) = plantC G 19 z0 j := fun j hj => by rw [hE11]; exact ((hE_lt _ _ (show 19 + j < 32 by omega)).trans (hp19 j hj))
  have hh : ∀ (j i : Nat) (hj : j < 14) (hi : i < 13), E11 (32 + 2 + 13 * j + i) = plantC G (32 + 2 + 13 * j) z0 i := fun j i hj hi => by rw [hE11]; exact hE_at G E10 32 j i hi
  refine rc_putF (v := .ref (bb G + 32)) hC hw hS inX8g tyX8_ok nmX8 rfl (by omega) q0 3 (by decide) (lg 327 (by decide +kernel) rfl) rfl hnm rfl rfl rfl (Nat.le_of_ble_eq_true rfl) dX8_init_45 (fun H locs hw hS => ?_)
  obtain ⟨E12, hE12⟩ : ∃ F : Nat → va_E, F = ue E11 0 (.inr (8, [.ref (bb G + 1), .ref (bb G + 6), .ref (bb G + 19), .ref (bb G + 32), .null, .null])) := ⟨_, rfl⟩
  have hw : Rw G 216 E12 H := by rw [hE12]; exact hw
  have q1 : E12 1 = .inr (4, [.ref (bb G + (1 + 1)), .int 0, .int 4, .int 50, .int 50, .int 1, .ref (bb G + (1 + 2)), .ref (bb G + (1 + 3)), .ref (bb G + (1 + 4)), .int 0, .int 0]) := by rw [hE12]; exact ((ue_ne _ _ (show 1 ≠ 0 by omega)).trans q1)
  have q2 : E12 2 = .inl (G.2.1 0, 60, .inl z0) := by rw [hE12]; exact ((ue_ne _ _ (show 2 ≠ 0 by omega)).trans q2)
  have q3 : E12 3 = .inl (G.2.1 0, 5, .inl (fun j => if j = 0 then 10 else 0)) := by rw [hE12]; exact ((ue_ne _ _ (show 3 ≠ 0 by omega)).trans q3)
  have q4 : E12 4 = .inl (G.2.1 0, 5, .inl z0) := by rw [hE12]; exact ((ue_ne _ _ (show 4 ≠ 0 by omega)).trans q4)
  have q5 : E12 5 = .inl (G.2.1 0, 8, .inl (fun j => if j < 8 then 40 else 0)) := by rw [hE12]; exact ((ue_ne _ _ (show 5 ≠ 0 by omega)).trans q5)
  have q6 : E12 6 = .inr (5, [.ref (bb G + (6 + 1)), .int (z0 65), .ref (bb G + (6 + 2)), .ref (bb G + (6 + 3)), .ref (bb G + (6 + 4)), .ref (bb G + (6 + 5)), .ref (bb G + (6 + 7)), .int (z0 6), .int (z0 7)]) := by rw [hE12]; exact ((ue_ne _ _ (show 6 ≠ 0 by omega)).trans q6)
  have q19 : E12 19 = .inr (5, [.ref (bb G + (19 + 1)), .int (z0 65), .ref (bb G + (19 + 2)), .ref (bb G + (19 + 3)), .ref (bb G + (19 + 4)), .ref (bb G + (19 + 5)), .ref (bb G + (19 + 7)), .int (z0 6), .int (z0 7)]) := by rw [hE12]; exact ((ue_ne _ _ (show 19 ≠ 0 by omega)).trans q19)
  have q32 : E12 32 = .inr (2, [.ref (bb G + (32 + 1)), .int 0, .int 0]) := by rw [hE12]; exact ((ue_ne _ _ (show 32 ≠ 0 by omega)).trans q32)
  have q33 : E12 33 = .inl (G.2.1 3, 14, .inr (.inr (.inr (.inr (fun j => some (bb G + (32 + 2 + 13 * j))))))) := by rw [hE12]; exact ((ue_ne _ _ (show 33 ≠ 0 by omega)).trans q33)
  have q0 : E12 0 = .inr (8, [.ref (bb G + 1), .ref (bb G + 6), .ref (bb G + 19), .ref (bb G + 32), .null, .null]) := by rw [hE12]; exact ue_same _ _ _
  have hp6 : ∀ (j : Nat) (hj : j < 13), E12 (6 + j) = plantC G 6 z0 j := fun j hj => by rw [hE12]; exact ((ue_ne _ _ (show 6 + j ≠ 0 by omega)).trans (hp6 j hj))
  have hp19 : ∀ (j : Nat) (hj : j < 13), E12 (19 + j) = plantC G 19 z0 j := fun j hj => by rw [hE12]; exact ((ue_ne _ _ (show 19 + j ≠ 0 by omega)).trans (hp19 j hj))
  have hh : ∀ (j i : Nat) (hj : j < 14) (hi : i < 13), E12 (32 + 2 + 13 * j + i) = plantC G (32 + 2 + 13 * j) z0 i := fun j i hj hi => by rw [hE12]; exact ((ue_ne _ _ (show 32 + 2 + 13 * j + i ≠ 0 by omega)).trans (hh j i hj hi))
  refine lv_aload_n hx hb dX8_init_48 rfl (lv_at hl 0 rfl) ?_
  refine rc_new (ci := 6) (fs := [.null, .int 0]) hC hw hS inX6g tyX6_ok rfl nwX8_33 (fun j hj => by rcases (show j = 0 ∨ j = 1 by omega) with rfl | rfl <;> rfl) (by decide) (by decide) dX8_init_49 (fun H hw hS => ?_)
  obtain ⟨E13, hE13⟩ : ∃ F : Nat → va_E, F = ue E12 216 (.inr (6, [.null, .int 0])) := ⟨_, rfl⟩
  have hw : Rw G 217 E13 H := by rw [hE13]; exact hw
  have q0 : E13 0 = .inr (8, [.ref (bb G + 1), .ref (bb G + 6), .ref (bb G + 19), .ref (bb G + 32), .null, .null]) := by rw [hE13]; exact ((ue_ne _ _ (show 0 ≠ 216 by omega)).trans q0)
  have q1 : E13 1 = .inr (4, [.ref (bb G + (1 + 1)), .int 0, .int 4, .int 50, .int 50, .int 1, .ref (bb G + (1 + 2)), .ref (bb G + (1 + 3)), .ref (bb G + (1 + 4)), .int 0, .int 0]) := by rw [hE13]; exact ((ue_ne _ _ (show 1 ≠ 216 by omega)).trans q1)
  have q2 : E13 2 = .inl (G.2.1 0, 60, .inl z0) := by rw [hE13]; exact ((ue_ne _ _ (show 2 ≠ 216 by omega)).trans q2)
  have q3 : E13 3 = .inl (G.2.1 0, 5, .inl (fun j => if j = 0 then 10 else 0)) := by rw [hE13]; exact ((ue_ne _ _ (show 3 ≠ 216 by omega)).trans q3)
  have q4 : E13 4 = .inl (G.2.1 0, 5, .inl z0) := by rw [hE13]; exact ((ue_ne _ _ (show 4 ≠ 216 by omega)).trans q4)
  have q5 : E13 5 = .inl (G.2.1 0, 8, .inl (fun j => if j < 8 then 40 else 0)) := by rw [hE13]; exact ((ue_ne _ _ (show 5 ≠ 216 by omega)).trans q5)
  have q6 : E13 6 = .inr (5, [.ref (bb G + (6 + 1)), .int (z0 65), .ref (bb G + (6 + 2)), .ref (bb G + (6 + 3)), .ref (bb G + (6 + 4)), .ref (bb G + (6 + 5)), .ref (bb G + (6 + 7)), .int (z0 6), .int (z0 7)]) := by rw [hE13]; exact ((ue_ne _ _ (show 6 ≠ 216 by omega)).trans q6)
  have q19 : E13 19 = .inr (5, [.ref (bb G + (19 + 1)), .int (z0 65), .ref (bb G + (19 + 2)), .ref (bb G + (19 + 3)), .ref (bb G + (19 + 4)), .ref (bb G + (19 + 5)), .ref (bb G + (19 + 7)), .int (z0 6), .int (z0 7)]) := by rw [hE13]; exact ((ue_ne _ _ (show 19 ≠ 216 by omega)).trans q19)
  have q32 : E13 32 = .inr (2, [.ref (bb G + (32 + 1)), .int 0, .int 0]) := by rw [hE13]; exact ((ue_ne _ _ (show 32 ≠ 216 by omega)).trans q32)
  have q33 : E13 33 = .inl (G.2.1 3, 14, .inr (.inr (.inr (.inr (fun j => some (bb G + (32 + 2 + 13 * j))))))) := by rw [hE13]; exact ((ue_ne _ _ (show 33 ≠ 216 by omega)).trans q33)
  have q216 : E13 216 = .inr (6, [.null, .int 0]) := by rw [hE13]; exact ue_same _ _ _
  have hp6 : ∀ (j : Nat) (hj : j < 13), E13 (6 + j) = plantC G 6 z0 j := fun j hj => by rw [hE13]; exact ((ue_ne _ _ (show 6 + j ≠ 216 by omega)).trans (hp6 j hj))
  have hp19 : ∀ (j : Nat) (hj : j < 13), E13 (19 + j) = plantC G 19 z0 j := fun j hj => by rw [hE13]; exact ((ue_ne _ _ (show 19 + j ≠ 216 by omega)).trans (hp19 j hj))
  have hh : ∀ (j i : Nat) (hj : j < 14) (hi : i < 13), E13 (32 + 2 + 13 * j + i) = plantC G (32 + 2 + 13 * j) z0 i := fun j i hj hi => by rw [hE13]; exact ((ue_ne _ _ (show 32 + 2 + 13 * j + i ≠ 216 by omega)).trans (hh j i hj hi))
  refine lv_dup hx hb dX8_init_52 rfl ?_
  refine rc_initN hC hI (c_X6_init l G 216 E13 q216) wnX8_35 ⟨rfl, rfl, by decide, by decide⟩ hw hS hl.1 (Nat.le_of_ble_eq_true rfl) dX8_init_53 ⟨by decide, by decide⟩ (fun H locs hw hS => ?_)
  obtain ⟨E14, hE14⟩ : ∃ F : Nat → va_E, F = sE G E13 216 := ⟨_, rfl⟩
  have hw : Rw G 230 E14 H := by rw [hE14]; exact hw
  have q0 : E14 0 = .inr (8, [.ref (bb G + 1), .ref (bb G + 6), .ref (bb G + 19), .ref (bb G + 32), .null, .null]) := by rw [hE14]; exact ((sE_lt _ _ (show 0 < 216 by omega)).trans q0)
  have q1 : E14 1 = .inr (4, [.ref (bb G + (1 + 1)), .int 0, .int 4, .int 50, .int 50, .int 1, .ref (bb G + (1 + 2)), .ref (bb G + (1 + 3)), .ref (bb G + (1 + 4)), .int 0, .int 0]) := by rw [hE14]; exact ((sE_lt _ _ (show 1 < 216 by omega)).trans q1)
  have q2 : E14 2 = .inl (G.2.1 0, 60, .inl z0) := by rw [hE14]; exact ((sE_lt _ _ (show 2 < 216 by omega)).trans q2)
  have q3 : E14 3 = .inl (G.2.1 0, 5, .inl (fun j => if j = 0 then 10 else 0)) := by rw [hE14]; exact ((sE_lt _ _ (show 3 < 216 by omega)).trans q3)
  have q4 : E14 4 = .inl (G.2.1 0, 5, .inl z0) := by rw [hE14]; exact ((sE_lt _ _ (show 4 < 216 by omega)).trans q4)
  have q5 : E14 5 = .inl (G.2.1 0, 8, .inl (fun j => if j < 8 then 40 else 0)) := by rw [hE14]; exact ((sE_lt _ _ (show 5 < 216 by omega)).trans q5)
  have q6 : E14 6 = .inr (5, [.ref (bb G + (6 + 1)), .int (z0 65), .ref (bb G + (6 + 2)), .ref (bb G + (6 + 3)), .ref (bb G + (6 + 4)), .ref (bb G + (6 + 5)), .ref (bb G + (6 + 7)), .int (z0 6), .int (z0 7)]) := by rw [hE14]; exact ((sE_lt _ _ (show 6 < 216 by omega)).trans q6)
  have q19 : E14 19 = .inr (5, [.ref (bb G + (19 + 1)), .int (z0 65), .ref (bb G + (19 + 2)), .ref (bb G + (19 + 3)), .ref (bb G + (19 + 4)), .ref (bb G + (19 + 5)), .ref (bb G + (19 + 7)), .int (z0 6), .int (z0 7)]) := by rw [hE14]; exact ((sE_lt _ _ (show 19 < 216 by omega)).trans q19)
  have q32 : E14 32 = .inr (2, [.ref (bb G + (32 + 1)), .int 0, .int 0]) := by rw [hE14]; exact ((sE_lt _ _ (show 32 < 216 by omega)).trans q32)
  have q33 : E14 33 = .inl (G.2.1 3, 14, .inr (.inr (.inr (.inr (fun j => some (bb G + (32 + 2 + 13 * j))))))) := by rw [hE14]; exact ((sE_lt _ _ (show 33 < 216 by omega)).trans q33)
  have q216 : E14 216 = .inr (6, [.ref (bb G + (216 + 1)), .int 0]) := by rw [hE14]; exact sE_0 G E13 216
  have hp6 : ∀ (j : Nat) (hj : j < 13), E14 (6 + j) = plantC G 6 z0 j := fun j hj => by rw [hE14]; exact ((sE_lt _ _ (show 6 + j < 216 by omega)).trans (hp6 j hj))
  have hp19 : ∀ (j : Nat) (hj : j < 13), E14 (19 + j) = plantC G 19 z0 j := fun j hj => by rw [hE14]; exact ((sE_lt _ _ (show 19 + j < 216 by omega)).trans (hp19 j hj))
  have hh : ∀ (j i : Nat) (hj : j < 14) (hi : i < 13), E14 (32 + 2 + 13 * j + i) = plantC G (32 + 2 + 13 * j) z0 i := fun j i hj hi => by rw [hE14]; exact ((sE_lt _ _ (show 32 + 2 + 13 * j + i < 216 by omega)).trans (hh j i hj hi))
  have hp217 : ∀ (j : Nat) (hj : j < 13), E14 (216 + 1 + j) = plantC G (216 + 1) z0 j := fun j hj => by rw [hE14]; exact sE_at G E13 216 j
  refine rc_putF (v := .ref (bb G + 216)) hC hw hS inX8g tyX8_ok nmX8 rfl (by omega) q0 4 (by decide) (lg 328 (by decide +kernel) rfl) rfl hnm rfl rfl rfl (Nat.le_of_ble_eq_true rfl) dX8_init_56 (fun H locs hw hS => ?_)
  obtain ⟨E15, hE15⟩ : ∃ F : Nat → va_E, F = ue E14 0 (.inr (8, [.ref (bb G + 1), .ref (bb G + 6), .ref (bb G + 19), .ref (bb G + 32), .ref (bb G + 216), .null])) := ⟨_, rfl⟩
  have hw : Rw G 230 E15 H := by rw [hE15]; exact hw
  have q1 : E15 1 = .inr (4, [.ref (bb G + (1 + 1)), .int 0, .int 4, .int 50, .int 50, .int 1, .ref (bb G + (1 + 2)), .ref (bb G + (1 + 3)), .ref (bb G + (1 + 4)), .int 0, .int 0]) := by rw [hE15]; exact ((ue_ne _ _ (show 1 ≠ 0 by omega)).trans q1)
  have q2 : E15 2 = .inl (G.2.1 0, 60, .inl z0) := by rw [hE15]; exact ((ue_ne _ _ (show 2 ≠ 0 by omega)).trans q2)
  have q3 : E15 3 = .inl (G.2.1 0, 5, .inl (fun j => if j = 0 then 10 else 0)) := by rw [hE15]; exact ((ue_ne _ _ (show 3 ≠ 0 by omega)).trans q3)
  have q4 : E15 4 = .inl (G.2.1 0, 5, .inl z0) := by rw [hE15]; exact ((ue_ne _ _ (show 4 ≠ 0 by omega)).trans q4)
  have q5 : E15 5 = .inl (G.2.1 0, 8, .inl (fun j => if j < 8 then 40 else 0)) := by rw [hE15]; exact ((ue_ne _ _ (show 5 ≠ 0 by omega)).trans q5)
  have q6 : E15 6 = .inr (5, [.ref (bb G + (6 + 1)), .int (z0 65), .ref (bb G + (6 + 2)), .ref (bb G + (6 + 3)), .ref (bb G + (6 + 4)), .ref (bb G + (6 + 5)), .ref (bb G + (6 + 7)), .int (z0 6), .int (z0 7)]) := by rw [hE15]; exact ((ue_ne _ _ (show 6 ≠ 0 by omega)).trans q6)
  have q19 : E15 19 = .inr (5, [.ref (bb G + (19 + 1)), .int (z0 65), .ref (bb G + (19 + 2)), .ref (bb G + (19 + 3)), .ref (bb G + (19 + 4)), .ref (bb G + (19 + 5)), .ref (bb G + (19 + 7)), .int (z0 6), .int (z0 7)]) := by rw [hE15]; exact ((ue_ne _ _ (show 19 ≠ 0 by omega)).trans q19)
  have q32 : E15 32 = .inr (2, [.ref (bb G + (32 + 1)), .int 0, .int 0]) := by rw [hE15]; exact ((ue_ne _ _ (show 32 ≠ 0 by omega)).trans q32)
  have q33 : E15 33 = .inl (G.2.1 3, 14, .inr (.inr (.inr (.inr (fun j => some (bb G + (32 + 2 + 13 * j))))))) := by rw [hE15]; exact ((ue_ne _ _ (show 33 ≠ 0 by omega)).trans q33)
  have q216 : E15 216 = .inr (6, [.ref (bb G + (216 + 1)), .int 0]) := by rw [hE15]; exact ((ue_ne _ _ (show 216 ≠ 0 by omega)).trans q216)
  have q0 : E15 0 = .inr (8, [.ref (bb G + 1), .ref (bb G + 6), .ref (bb G + 19), .ref (bb G + 32), .ref (bb G + 216), .null]) := by rw [hE15]; exact ue_same _ _ _
  have hp6 : ∀ (j : Nat) (hj : j < 13), E15 (6 + j) = plantC G 6 z0 j := fun j hj => by rw [hE15]; exact ((ue_ne _ _ (show 6 + j ≠ 0 by omega)).trans (hp6 j hj))
  have hp19 : ∀ (j : Nat) (hj : j < 13), E15 (19 + j) = plantC G 19 z0 j := fun j hj => by rw [hE15]; exact ((ue_ne _ _ (show 19 + j ≠ 0 by omega)).trans (hp19 j hj))
  have hh : ∀ (j i : Nat) (hj : j < 14) (hi : i < 13), E15 (32 + 2 + 13 * j + i) = plantC G (32 + 2 + 13 * j) z0 i := fun j i hj hi => by rw [hE15]; exact ((ue_ne _ _ (show 32 + 2 + 13 * j + i ≠ 0 by omega)).trans (hh j i hj hi))
  have hp217 : ∀ (j : Nat) (hj : j < 13), E15 (216 + 1 + j) = plantC G (216 + 1) z0 j := fun j hj => by rw [hE15]; exact ((ue_ne _ _ (show 216 + 1 + j ≠ 0 by omega)).trans (hp217 j hj))
  refine lv_aload_n hx hb dX8_init_59 rfl (lv_at hl 0 rfl) ?_
  refine rc_new (ci := 6) (fs := [.null, .int 0]) hC hw hS inX6g tyX6_ok rfl nwX8_33 (fun j hj => by rcases (show j = 0 ∨ j = 1 by omega) with rfl | rfl <;> rfl) (by decide) (by decide) dX8_init_60 (fun H hw hS => ?_)
  obtain ⟨E16, hE16⟩ : ∃ F : Nat → va_E, F = ue E15 230 (.inr (6, [.null, .int 0])) := ⟨_, rfl⟩
  have hw : Rw G 231 E16 H := by rw [hE16]; exact hw
  have q0 : E16 0 = .inr (8, [.ref (bb G + 1), .ref (bb G + 6), .ref (bb G + 19), .ref (bb G + 32), .ref (bb G + 216), .null]) := by rw [hE16]; exact ((ue_ne _ _ (show 0 ≠ 230 by omega)).trans q0)
  have q1 : E16 1 = .inr (4, [.ref (bb G + (1 + 1)), .int 0, .int 4, .int 50, .int 50, .int 1, .ref (bb G + (1 + 2)), .ref (bb G + (1 + 3)), .ref (bb G + (1 + 4)), .int 0, .int 0]) := by rw [hE16]; exact ((ue_ne _ _ (show 1 ≠ 230 by omega)).trans q1)
  have q2 : E16 2 = .inl (G.2.1 0, 60, .inl z0) := by rw [hE16]; exact ((ue_ne _ _ (show 2 ≠ 230 by omega)).trans q2)
  have q3 : E16 3 = .inl (G.2.1 0, 5, .inl (fun j => if j = 0 then 10 else 0)) := by rw [hE16]; exact ((ue_ne _ _ (show 3 ≠ 230 by omega)).trans q3)
  have q4 : E16 4 = .inl (G.2.1 0, 5, .inl z0) := by rw [hE16]; exact ((ue_ne _ _ (show 4 ≠ 230 by omega)).trans q4)
  have q5 : E16 5 = .inl (G.2.1 0, 8, .inl (fun j => if j < 8 then 40 else 0)) := by rw [hE16]; exact ((ue_ne _ _ (show 5 ≠ 230 by omega)).trans q5)
  have q6 : E16 6 = .inr (5, [.ref (bb G + (6 + 1)), .int (z0 65), .ref (bb G + (6 + 2)), .ref (bb G + (6 + 3)), .ref (bb G + (6 + 4)), .ref (bb G + (6 + 5)), .ref (bb G + (6 + 7)), .int (z0 6), .int (z0 7)]) := by rw [hE16]; exact ((ue_ne _ _ (show 6 ≠ 230 by omega)).trans q6)
  have q19 : E16 19 = .inr (5, [.ref (bb G + (19 + 1)), .int (z0 65), .ref (bb G + (19 + 2)), .ref (bb G + (19 + 3)), .ref (bb G + (19 + 4)), .ref (bb G + (19 + 5)), .ref (bb G + (19 + 7)), .int (z0 6), .int (z0 7)]) := by rw [hE16]; exact ((ue_ne _ _ (show 19 ≠ 230 by omega)).trans q19)
  have q32 : E16 32 = .inr (2, [.ref (bb G + (32 + 1)), .int 0, .int 0]) := by rw [hE16]; exact ((ue_ne _ _ (show 32 ≠ 230 by omega)).trans q32)
  have q33 : E16 33 = .inl (G.2.1 3, 14, .inr (.inr (.inr (.inr (fun j => some (bb G + (32 + 2 + 13 * j))))))) := by rw [hE16]; exact ((ue_ne _ _ (show 33 ≠ 230 by omega)).trans q33)
  have q216 : E16 216 = .inr (6, [.ref (bb G + (216 + 1)), .int 0]) := by rw [hE16]; exact ((ue_ne _ _ (show 216 ≠ 230 by omega)).trans q216)
  have q230 : E16 230 = .inr (6, [.null, .int 0]) := by rw [hE16]; exact ue_same _ _ _
  have hp6 : ∀ (j : Nat) (hj : j < 13), E16 (6 + j) = plantC G 6 z0 j := fun j hj => by rw [hE16]; exact ((ue_ne _ _ (show 6 + j ≠ 230 by omega)).trans (hp6 j hj))
  have hp19 : ∀ (j : Nat) (hj : j < 13), E16 (19 + j) = plantC G 19 z0 j := fun j hj => by rw [hE16]; exact ((ue_ne _ _ (show 19 + j ≠ 230 by omega)).trans (hp19 j hj))
  have hh : ∀ (j i : Nat) (hj : j < 14) (hi : i < 13), E16 (32 + 2 + 13 * j + i) = plantC G (32 + 2 + 13 * j) z0 i := fun j i hj hi => by rw [hE16]; exact ((ue_ne _ _ (show 32 + 2 + 13 * j + i ≠ 230 by omega)).trans (hh j i hj hi))
  have hp217 : ∀ (j : Nat) (hj : j < 13), E16 (216 + 1 + j) = plantC G (216 + 1) z0 j := fun j hj => by rw [hE16]; exact ((ue_ne _ _ (show 216 + 1 + j ≠ 230 by omega)).trans (hp217 j hj))
  refine lv_dup hx hb dX8_init_63 rfl ?_
  refine rc_initN hC hI (c_X6_init l G 230 E16 q230) wnX8_35 ⟨rfl, rfl, by decide, by decide⟩ hw hS hl.1 (Nat.le_of_ble_eq_true rfl) dX8_init_64 ⟨by decide, by decide⟩ (fun H locs hw hS => ?_)
  obtain ⟨E17, hE17⟩ : ∃ F : Nat → va_E, F = sE G E16 230 := ⟨_, rfl⟩
  have hw : Rw G 244 E17 H := by rw [hE17]; exact hw
  have q0 : E17 0 = .inr (8, [.ref (bb G + 1), .ref (bb G + 6), .ref (bb G + 19), .ref (bb G + 32), .ref (bb G + 216), .null]) := by rw [hE17]; exact ((sE_lt _ _ (show 0 < 230 by omega)).trans q0)
  have q1 : E17 1 = .inr (4, [.ref (bb G + (1 + 1)), .int 0, .int 4, .int 50, .int 50, .int 1, .ref (bb G + (1 + 2)), .ref (bb G + (1 + 3)), .ref (bb G + (1 + 4)), .int 0, .int 0]) := by rw [hE17]; exact ((sE_lt _ _ (show 1 < 230 by omega)).trans q1)
  have q2 : E17 2 = .inl (G.2.1 0, 60, .inl z0) := by rw [hE17]; exact ((sE_lt _ _ (show 2 < 230 by omega)).trans q2)
  have q3 : E17 3 = .inl (G.2.1 0, 5, .inl (fun j => if j = 0 then 10 else 0)) := by rw [hE17]; exact ((sE_lt _ _ (show 3 < 230 by omega)).trans q3)
  have q4 : E17 4 = .inl (G.2.1 0, 5, .inl z0) := by rw [hE17]; exact ((sE_lt _ _ (show 4 < 230 by omega)).trans q4)
  have q5 : E17 5 = .inl (G.2.1 0, 8, .inl (fun j => if j < 8 then 40 else 0)) := by rw [hE17]; exact ((sE_lt _ _ (show 5 < 230 by omega)).trans q5)
  have q6 : E17 6 = .inr (5, [.ref (bb G + (6 + 1)), .int (z0 65), .ref (bb G + (6 + 2)), .ref (bb G + (6 + 3)), .ref (bb G + (6 + 4)), .ref (bb G + (6 + 5)), .ref (bb G + (6 + 7)), .int (z0 6), .int (z0 7)]) := by rw [hE17]; exact ((sE_lt _ _ (show 6 < 230 by omega)).trans q6)
  have q19 : E17 19 = .inr (5, [.ref (bb G + (19 + 1)), .int (z0 65), .ref (bb G + (19 + 2)), .ref (bb G + (19 + 3)), .ref (bb G + (19 + 4)), .ref (bb G + (19 + 5)), .ref (bb G + (19 + 7)), .int (z0 6), .int (z0 7)]) := by rw [hE17]; exact ((sE_lt _ _ (show 19 < 230 by omega)).trans q19)
  have q32 : E17 32 = .inr (2, [.ref (bb G + (32 + 1)), .int 0, .int 0]) := by rw [hE17]; exact ((sE_lt _ _ (show 32 < 230 by omega)).trans q32)
  have q33 : E17 33 = .inl (G.2.1 3, 14, .inr (.inr (.inr (.inr (fun j => some (bb G + (32 + 2 + 13 * j))))))) := by rw [hE17]; exact ((sE_lt _ _ (show 33 < 230 by omega)).trans q33)
  have q216 : E17 216 = .inr (6, [.ref (bb G + (216 + 1)), .int 0]) := by rw [hE17]; exact ((sE_lt _ _ (show 216 < 230 by omega)).trans q216)
  have q230 : E17 230 = .inr (6, [.ref (bb G + (230 + 1)), .int 0]) := by rw [hE17]; exact sE_0 G E16 230
  have hp6 : ∀ (j : Nat) (hj : j < 13), E17 (6 + j) = plantC G 6 z0 j := fun j hj => by rw [hE17]; exact ((sE_lt _ _ (show 6 + j < 230 by omega)).trans (hp6 j hj))
  have hp19 : ∀ (j : Nat) (hj : j < 13), E17 (19 + j) = plantC G 19 z0 j := fun j hj => by rw [hE17]; exact ((sE_lt _ _ (show 19 + j < 230 by omega)).trans (hp19 j hj))
  have hh : ∀ (j i : Nat) (hj : j < 14) (hi : i < 13), E17 (32 + 2 + 13 * j + i) = plantC G (32 + 2 + 13 * j) z0 i := fun j i hj hi => by rw [hE17]; exact ((sE_lt _ _ (show 32 + 2 + 13 * j + i < 230 by omega)).trans (hh j i hj hi))
  have hp217 : ∀ (j : Nat) (hj : j < 13), E17 (216 + 1 + j) = plantC G (216 + 1) z0 j := fun j hj => by rw [hE17]; exact ((sE_lt _ _ (show 216 + 1 + j < 230 by omega)).trans (hp217 j hj))
  have hp231 : ∀ (j : Nat) (hj : j < 13), E17 (230 + 1 + j) = plantC G (230 + 1) z0 j := fun j hj => by rw [hE17]; exact sE_at G E16 230 j
  refine rc_putF (v := .ref (bb G + 230)) hC hw hS inX8g tyX8_ok nmX8 rfl (by omega) q0 5 (by decide) (lg 329 (by decide +kernel) rfl) rfl hnm rfl rfl rfl (Nat.le_of_ble_eq_true rfl) dX8_init_67 (fun H locs hw hS => ?_)
  obtain ⟨E18, hE18⟩ : ∃ F : Nat → va_E, F = ue E17 0 (.inr (8, [.ref (bb G + 1), .ref (bb G + 6), .ref (bb G + 19), .ref (bb G + 32), .ref (bb G + 216), .ref (bb G + 230)])) := ⟨_, rfl⟩
  have hw : Rw G 244 E18 H := by rw [hE18]; exact hw
  have q1 : E18 1 = .inr (4, [.ref (bb G + (1 + 1)), .int 0, .int 4, .int 50, .int 50, .int 1, .ref (bb G + (1 + 2)), .ref (bb G + (1 + 3)), .ref (bb G + (1 + 4)), .int 0, .int 0]) := by rw [hE18]; exact ((ue_ne _ _ (show 1 ≠ 0 by omega)).trans q1)
  have q2 : E18 2 = .inl (G.2.1 0, 60, .inl z0) := by rw [hE18]; exact ((ue_ne _ _ (show 2 ≠ 0 by omega)).trans q2)
  have q3 : E18 3 = .inl (G.2.1 0, 5, .inl (fun j => if j = 0 then 10 else 0)) := by rw [hE18]; exact ((ue_ne _ _ (show 3 ≠ 0 by omega)).trans q3)
  have q4 : E18 4 = .inl (G.2.1 0, 5, .inl z0) := by rw [hE18]; exact ((ue_ne _ _ (show 4 ≠ 0 by omega)).trans q4)
  have q5 : E18 5 = .inl (G.2.1 0, 8, .inl (fun j => if j < 8 then 40 else 0)) := by rw [hE18]; exact ((ue_ne _ _ (show 5 ≠ 0 by omega)).trans q5)
  have q6 : E18 6 = .inr (5, [.ref (bb G + (6 + 1)), .int (z0 65), .ref (bb G + (6 + 2)), .ref (bb G + (6 + 3)), .ref (bb G + (6 + 4)), .ref (bb G + (6 + 5)), .ref (bb G + (6 + 7)), .int (z0 6), .int (z0 7)]) := by rw [hE18]; exact ((ue_ne _ _ (show 6 ≠ 0 by omega)).trans q6)
  have q19 : E18 19 = .inr (5, [.ref (bb G + (19 + 1)), .int (z0 65), .ref (bb G + (19 + 2)), .ref (bb G + (19 + 3)), .ref (bb G + (19 + 4)), .ref (bb G + (19 + 5)), .ref (bb G + (19 + 7)), .int (z0 6), .int (z0 7)]) := by rw [hE18]; exact ((ue_ne _ _ (show 19 ≠ 0 by omega)).trans q19)
  have q32 : E18 32 = .inr (2, [.ref (bb G + (32 + 1)), .int 0, .int 0]) := by rw [hE18]; exact ((ue_ne _ _ (show 32 ≠ 0 by omega)).trans q32)
  have q33 : E18 33 = .inl (G.2.1 3, 14, .inr (.inr (.inr (.inr (fun j => some (bb G + (32 + 2 + 13 * j))))))) := by rw [hE18]; exact ((ue_ne _ _ (show 33 ≠ 0 by omega)).trans q33)
  have q216 : E18 216 = .inr (6, [.ref (bb G + (216 + 1)), .int 0]) := by rw [hE18]; exact ((ue_ne _ _ (show 216 ≠ 0 by omega)).trans q216)
  have q230 : E18 230 = .inr (6, [.ref (bb G + (230 + 1)), .int 0]) := by rw [hE18]; exact ((ue_ne _ _ (show 230 ≠ 0 by omega)).trans q230)
  have q0 : E18 0 = .inr (8, [.ref (bb G + 1), .ref (bb G + 6), .ref (bb G + 19), .ref (bb G + 32), .ref (bb G + 216), .ref (bb G + 230)]) := by rw [hE18]; exact ue_same _ _ _
  have hp6 : ∀ (j : Nat) (hj : j < 13), E18 (6 + j) = plantC G 6 z0 j := fun j hj => by rw [hE18]; exact ((ue_ne _ _ (show 6 + j ≠ 0 by omega)).trans (hp6 j hj))
  have hp19 : ∀ (j : Nat) (hj : j < 13), E18 (19 + j) = plantC G 19 z0 j := fun j hj => by rw [hE18]; exact ((ue_ne _ _ (show 19 + j ≠ 0 by omega)).trans (hp19 j hj))
  have hh : ∀ (j i : Nat) (hj : j < 14) (hi : i < 13), E18 (32 + 2 + 13 * j + i) = plantC G (32 + 2 + 13 * j) z0 i := fun j i hj hi => by rw [hE18]; exact ((ue_ne _ _ (show 32 + 2 + 13 * j + i ≠ 0 by omega)).trans (hh j i hj hi))
  have hp217 : ∀ (j : Nat) (hj : j < 13), E18 (216 + 1 + j) = plantC G (216 + 1) z0 j := fun j hj => by rw [hE18]; exact ((ue_ne _ _ (show 216 + 1 + j ≠ 0 by omega)).trans (hp217 j hj))
  have hp231 : ∀ (j : Nat) (hj : j < 13), E18 (230 + 1 + j) = plantC G (230 + 1) z0 j := fun j hj => by rw [hE18]; exact ((ue_ne _ _ (show 230 + 1 + j ≠ 0 by omega)).trans (hp231 j hj))
  refine lv_aload_n hx hb dX8_init_70 rfl (lv_at hl 0 rfl) ?_
  refine rc_get (v := .ref (bb G + 6)) hC hw inX8g rfl (by omega) q0 1 (by decide) (lg 325 (by decide +kernel) rfl) rfl dX8_init_71 ?_
  refine lv_aload_n hx hb dX8_init_74 rfl (lv_at hl 0 rfl) ?_
  refine rc_get (v := .ref (bb G + 1)) hC hw inX8g rfl (by omega) q0 0 (by decide) (lg 324 (by decide +kernel) rfl) rfl dX8_init_75 ?_
  have hw0 : Wd G 244 C0 H := by
    refine (hw.ext (fun a ha h => ?_)).wd
    rcases (show a = 0 ∨ a = 1 ∨ a = 2 ∨ a = 3 ∨ a = 4 ∨ a = 5 ∨ (6 ≤ a ∧ a < 19) ∨ (19 ≤ a ∧ a < 32) ∨ a = 32 ∨ a = 33 ∨ (34 ≤ a ∧ a < 216) ∨ a = 216 ∨ (217 ≤ a ∧ a < 230) ∨ a = 230 ∨ (231 ≤ a ∧ a < 244) by omega) with rfl | rfl | rfl | rfl | rfl | rfl | hh1 | hh1 | rfl | rfl | hh1 | rfl | hh1 | rfl | hh1
    · rw [q0] at h
      exact h
    · rw [q1] at h
      exact h
    · rw [q2] at h
      exact at_i (fun j hj => by rw [tr_lt _ hj]; rfl) h
    · rw [q3] at h
      exact at_i (fun j hj => by rw [tr_lt _ hj]; rfl) h
    · rw [q4] at h
      exact at_i (fun j hj => by rw [tr_lt _ hj]; rfl) h
    · rw [q5] at h
      exact at_i (fun j hj => by rw [tr_lt _ hj]; rfl) h
    · obtain ⟨j, rfl⟩ : ∃ j, a = 6 + j := ⟨a - 6, by omega⟩
      rw [hp6 j (by omega)] at h
      rw [show cellAt G C0 (6 + j) = plantC G 6 z0 j from cell_plant G C0 (q := 0) (by decide) (show j < 13 by omega)]
      exact h
    · obtain ⟨j, rfl⟩ : ∃ j, a = 19 + j := ⟨a - 19, by omega⟩
      rw [hp19 j (by omega)] at h
      rw [show cellAt G C0 (19 + j) = plantC G 19 z0 j from cell_plant G C0 (q := 1) (by decide) (show j < 13 by omega)]
      exact h
    · rw [q32] at h
      exact h
    · rw [q33] at h
      exact h
    · obtain ⟨j, i, hj, hi, rfl⟩ : ∃ j i, j < 14 ∧ i < 13 ∧ a = 32 + 2 + 13 * j + i := ⟨(a - 34) / 13, (a - 34) % 13, by omega, by omega, by omega⟩
      rw [hh j i hj hi] at h
      have e := cell_plant G C0 (q := 2 + j) (by omega) hi
      rw [show po (2 + j) = 32 + 2 + 13 * j by unfold po; rw [if_neg (by omega), if_neg (by omega), if_pos (by omega)]; omega] at e
      rw [e, C0_z (show 2 + j < 18 by omega)]
      exact h
    · rw [q216] at h
      exact h
    · obtain ⟨j, rfl⟩ : ∃ j, a = 217 + j := ⟨a - 217, by omega⟩
      rw [hp217 j (by omega)] at h
      rw [show cellAt G C0 (217 + j) = plantC G 217 z0 j from cell_plant G C0 (q := 16) (by decide) (show j < 13 by omega)]
      exact h
    · rw [q230] at h
      exact h
    · obtain ⟨j, rfl⟩ : ∃ j, a = 231 + j := ⟨a - 231, by omega⟩
      rw [hp231 j (by omega)] at h
      rw [show cellAt G C0 (231 + j) = plantC G 231 z0 j from cell_plant G C0 (q := 17) (by decide) (show j < 13 by omega)]
      exact h
  have hz0 := hw.1
  refine call_Vv hC (c_X5_beginAs l G 244 (by decide) (by decide) 0 (show 0 < 18 by decide) _ _ _ hF) wvX8_43 ⟨rfl, rfl, by decide, by decide⟩ hw0 hS (by decide) (ca_plant (show 0 < 18 by decide)) rfl hl.1 rfl (rest := []) rfl (Nat.le_of_ble_eq_true rfl) dX8_init_78 ⟨by decide, by decide⟩ (fun H locs hw hS hzz => ?_)
  exact m_vretI hC hr hlk (hw.rw (by omega)) hS (fun a _ H h => h) dX8_init_81
set_option maxHeartbeats 4000000 in
set_option maxRecDepth 100000 in
theorem law_start (l : Launch) (hfl : l.stackTraces = false) (G : GG) {p : Program} {e : Env} {s : State} {m : MethodId} {below : List Frame} {meth : Method} {c : Code} {b L : Nat} {xs : Nat → Int32} (hr : meth.sig.returnType = ret) (hlk : meth.locks = false) (hX : va_X b L xs s s.heap) (hbl : b < s.heap.size) (hbb : bb G = s.heap.size) (hC : Cx p s m (#[Value.ref b]) c code RL 9 G) (hI : TI s) {rB rL : Int32} {C1 CL DL : Mem} (hB : F_X5_beginAs 0 C0 = some (rB, C1)) (hFL : F_L_law xs L C1 C1 = some (rL, CL, DL)) (ls : Array Slot) (hl : lv_has ls 9 [(0, .ref b)]) : W p l e room_1 s m #[Value.ref b] below meth c s.heap [] 0 0 (lw_Z below #[Value.ref b] s) (F0 m 0 ls []) := by
  have hx := hC.1
  have hb := hC.2.1
  have hS : LW G s s.heap [] := va_S.rf
  have hw : Rw G 0 (cellAt G C1) s.heap := ⟨by rw [← hbb]; rfl, hC.2.2.2.2.2.2.2, fun a ha => absurd ha (Nat.not_lt_zero a)⟩
  refine rc_new (ci := 8) (fs := [.null, .null, .null, .null, .null, .null]) hC hw hS inX8g tyX8_ok rfl nwL_8 (fun j hj => by rcases (show j = 0 ∨ j = 1 ∨ j = 2 ∨ j = 3 ∨ j = 4 ∨ j = 5 by omega) with rfl | rfl | rfl | rfl | rfl | rfl <;> rfl) (by decide) (by decide) dL_law_0 (fun H hw hS => ?_)
  refine lv_dup hx hb dL_law_3 rfl ?_
  refine rc_init (a0 := 0) hC hI (c_X8_init l G _ (ue_same _ _ _) hB) wiL_262 ⟨rfl, rfl, by decide, by decide⟩ hw hS hl.1 (Nat.le_of_ble_eq_true rfl) dL_law_4 ⟨by decide, by decide⟩ (fun H locs hw hS => ?_)
  refine lv_astore_n (lv' := [(1, .ref (bb G + 0)), (0, .ref b)]) hx hb dL_law_7 rfl hl (by decide) rfl (fun ls hl => ?_)
  refine rc_new (ci := 8) (fs := [.null, .null, .null, .null, .null, .null]) hC hw hS inX8g tyX8_ok rfl nwL_8 (fun j hj => by rcases (show j = 0 ∨ j = 1 ∨ j = 2 ∨ j = 3 ∨ j = 4 ∨ j = 5 by omega) with rfl | rfl | rfl | rfl | rfl | rfl <;> rfl) (by decide) (by decide) dL_law_8 (fun H hw hS => ?_)
  refine lv_dup hx hb dL_law_11 rfl ?_
  refine rc_initQ (C := C1) hC hI (c_X8_init l (gQ G H) (fun _ => .inr (8, [.null, .null, .null, .null, .null, .null])) rfl hB) wiL_262 ⟨rfl, rfl, by decide, by decide⟩ hw (ue_same _ _ _).symm (fun a ha => ue_ne _ _ (by omega)) hS hl.1 (Nat.le_of_ble_eq_true rfl) dL_law_12 ⟨by decide, by decide⟩ (fun H locs hw hq hS => ?_)
  refine lv_astore_n (lv' := [(2, .ref (bb G + 244)), (1, .ref (bb G + 0)), (0, .ref b)]) hx hb dL_law_15 rfl hl (by decide) rfl (fun ls hl => ?_)
  refine W.widen (k := 1000) (n := 10000) (by decide) (by decide) ?_
  exact law_walk l hfl G hr hlk hX (by rw [hbb]; exact hbl) hbb hC C1 C1 rL CL DL hFL H locs ls hw hS hq (lv_sub hl [2, 1, 0] rfl)
