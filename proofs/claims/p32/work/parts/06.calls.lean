/-! contracts over the world, calls by them, ends -/
theorem lg_hot {w : Cond} (h : w ∈ lw_g) : goodWord w = true := (List.mem_filter.mp h).2
abbrev wsG (y : MethodName) (bytes : ByteArray) (maxL : Nat) (ret : Option FieldType) : List Cond := Cond.code y bytes maxL ret :: lw_g
abbrev rmN (f n : Nat) : Room := { frames := f, cells := 0, slots := 0, locals := n }
abbrev rmX (f n mc ms : Nat) : Room := { frames := f, cells := mc, slots := ms, locals := n }
def PC (G : GG) (n : Nat) (C : Mem) (av : List Value) : Array Value → State → Prop := fun v U => v = av.toArray ∧ Wd G n C U.heap ∧ TT G U
theorem PC.blind {G : GG} {n : Nat} {C : Mem} {av : List Value} : FrameBlind (PC G n C av) := fun _ U g mk h => ⟨h.1, h.2.1, TT.warm (s := U) (U := U.calling g mk _) (State.WarmedH.refl U) h.2.2⟩
/-- it returns r, the memory is C1 -/
def QR (G : GG) (n : Nat) (r : Option Value) (C1 : Mem) : Array Value → State → Outcome → State → Prop := fun _ st o t => o = .returned r ∧ Wd G n C1 t.heap ∧ st.heap.size ≤ t.heap.size
def Ct (l : Launch) (y : MethodName) (bytes : ByteArray) (maxL : Nat) (ret : Option FieldType) (rm : Room) (G : GG) (n : Nat) (C : Mem) (av : List Value) (r : Option Value) (C1 : Mem) : Prop := Met l y (wsG y bytes maxL ret) rm (PC G n C av) (QR G n r C1) 0 0 (frA G)
/-- an answer, or an exception by its number -/
abbrev Rs : Type := Int32 ⊕ Nat
def QX (G : GG) (n : Nat) (rv : Int32 → Option Value) (o : Rs) (C1 : Mem) : Array Value → State → Outcome → State → Prop := fun _ st oc t => ∃ v, o = .inl v ∧ oc = .returned (rv v) ∧ Wd G n C1 t.heap ∧ st.heap.size ≤ t.heap.size
def XX (G : GG) (n : Nat) (o : Rs) (C1 : Mem) : String → State → State → Prop := fun E st t => ∃ k, o = .inr k ∧ 1 ≤ k ∧ k ≤ 3 ∧ E = xN k ∧ Wd G n C1 t.heap ∧ st.heap.size ≤ t.heap.size
def CtX (l : Launch) (y : MethodName) (bytes : ByteArray) (maxL : Nat) (ret : Option FieldType) (rm : Room) (mc ms : Nat) (G : GG) (n : Nat) (C : Mem) (av : List Value) (rv : Int32 → Option Value) (o : Rs) (C1 : Mem) : Prop := vx_Met l y (wsG y bytes maxL ret) rm (PC G n C av) (QX G n rv o C1) (XX G n o C1) mc ms (frA G)
/-- the words of a call -/
def WV (own : String) (index : Nat) (y : MethodName) (bytes : ByteArray) (maxL : Nat) (ret : Option FieldType) (na : Nat) : Prop :=
  Cond.methodLink own index y ∈ lw_g ∧ Cond.instanceMethod y ∈ lw_g ∧ Cond.selects y.cls y y ∈ lw_g ∧ Cond.initialized y.cls ∈ lw_g ∧ Cond.code y bytes maxL ret ∈ lw_g ∧ (y.cls ≠ "java/lang/invoke/MethodHandle" ∧ y.cls ≠ "java/lang/invoke/VarHandle") ∧ (parseMethodDescriptor y.desc).map (fun d => d.parameters.length) = some na
def WS (own : String) (index : Nat) (y : MethodName) (bytes : ByteArray) (maxL : Nat) (ret : Option FieldType) (na : Nat) : Prop :=
  Cond.methodLink own index y ∈ lw_g ∧ Cond.static y ∈ lw_g ∧ Cond.initialized y.cls ∈ lw_g ∧ Cond.code y bytes maxL ret ∈ lw_g ∧ (y.cls ≠ "java/lang/invoke/MethodHandle" ∧ y.cls ≠ "java/lang/invoke/VarHandle") ∧ (parseMethodDescriptor y.desc).map (fun d => d.parameters.length) = some na
section CALLS
variable {p : Program} {l : Launch} {e : Env} {R : Room} {s : State} {m : MethodId} {args : Array Value} {below : List Frame} {meth : Method} {c : Code} {H : Heap} {locs : List Loc} {cells slots : Nat} {Q : State → Prop}
variable {cc : ByteArray} {pc : Nat} {ls : Array Slot} {rest st0 As : List Value} {own : String} {nL : Nat} {G : GG} {n : Nat} {C C1 : Mem} {index na mc ms maxL : Nat} {y : MethodName} {bytes : ByteArray} {ret : Option FieldType} {rm : Room} {r : Option Value} {o : Rs} {rv : Int32 → Option Value} {a : Array Value}
theorem lg_warm (h : ∀ w ∈ lw_g, w.before args s = true) : ∀ w ∈ lw_g, ∀ (a' : Array Value) (U : State), s.WarmedH U.vm → w.before a' U = true := fun w hw _ _ hW => word_at hW (good_of_word (lg_hot hw)) (h w hw)
theorem WV.b (hV : WV own index y bytes maxL ret na) (h : ∀ w ∈ lw_g, w.before args s = true) (hR : rm.cells = mc ∧ rm.slots = ms ∧ rm.frames + 1 ≤ R.frames ∧ 8 + (maxL + 11) + rm.locals ≤ R.locals) : CallW R s args own y.cls index y bytes maxL ret (wsG y bytes maxL ret) rm mc ms na := by
  obtain ⟨h1, h2, h3, h4, h5, h6, h7⟩ := hV
  refine ⟨⟨hR.1, hR.2.1, hR.2.2.1, hR.2.2.2, fun w hw => ?_, List.mem_cons_self, h _ h5, h _ h4, h6, fun sig hs => ?_, h _ h1⟩, h _ h2, h _ h3⟩
  · rcases List.mem_cons.mp hw with rfl | hw
    · exact lg_warm h _ h5
    · exact lg_warm h _ hw
  · rw [hs] at h7
    exact (Option.some.inj h7).symm
theorem WS.b (hV : WS own index y bytes maxL ret na) (h : ∀ w ∈ lw_g, w.before args s = true) (hR : rm.cells = mc ∧ rm.slots = ms ∧ rm.frames + 1 ≤ R.frames ∧ 8 + (maxL + 11) + rm.locals ≤ R.locals) : CallB R s args own index y bytes maxL ret (wsG y bytes maxL ret) rm mc ms na ∧ (Cond.static y).before args s = true := by
  obtain ⟨h1, h2, h4, h5, h6, h7⟩ := hV
  refine ⟨⟨hR.1, hR.2.1, hR.2.2.1, hR.2.2.2, fun w hw => ?_, List.mem_cons_self, h _ h5, h _ h4, h6, fun sig hs => ?_, h _ h1⟩, h _ h2⟩
  · rcases List.mem_cons.mp hw with rfl | hw
    · exact lg_warm h _ h5
    · exact lg_warm h _ hw
  · rw [hs] at h7
    exact (Option.some.inj h7).symm
theorem LW.call (hw : Wd G n C H) (hS : LW G s H locs) (hbs : bb G ≤ s.heap.size) {H1 : Heap} {L : List Loc} (h1 : Wd G n C1 H1) (hz : H.size ≤ H1.size) (hL : ∀ q ∈ L, frA G q.base) : LW G s H1 (locs ++ L) := by
  refine ⟨Nat.le_trans hS.1 hz, fun q hq hn => ?_, fun q hq => ?_⟩
  · have hb : q < bb G := Nat.not_le.mp hn
    rw [h1.ah hb, ← hw.ah hb]
    exact hS.2.1 q hq hn
  · rcases List.mem_append.mp hq with h | h
    · exact hS.2.2 q h
    · exact hL q h
theorem m_call (hr : va_Run p l e R s m args below meth c H locs cells slots 0 0 (F0 m pc ls st0) rest (QR G n r C1 a) (frA G)) (hC : Cx p s m args c cc own nL G) (hw : Wd G n C H) (hS : LW G s H locs)
    (kk : ∀ (H1 : Heap) (locs1 : List Loc), Wd G n C1 H1 → LW G s H1 locs1 → H.size ≤ H1.size ∧ H1.size ≤ s.heap.size + cells → W p l e R s m args below meth c H1 locs1 cells slots Q (F0 m (pc + 3) ls (r.toList ++ rest))) : W p l e R s m args below meth c H locs cells slots Q (F0 m pc ls st0) := by
  intro T hT X
  obtain ⟨v, st₀, t, T', L, h0, X', hL, e1, e2, ⟨hv, hwd, hz⟩, st⟩ := hr T hT X
  cases hv
  rw [h0, ← e1] at hz
  rw [← e1] at hwd
  obtain ⟨t2, a1, b1⟩ := kk T'.heap (locs ++ L) hwd (hS.call hw hC.2.2.2.2.2.2.1 hwd hz hL) ⟨hz, X'.heapSize⟩ T' rfl X'
  exact ⟨t2, st t2 a1, b1⟩
theorem call_V {q0 : Nat} (hC : Cx p s m args c cc own nL G) (hM : Ct l y bytes maxL ret rm G n C (.ref (bb G + q0) :: As) r C1) (hV : WV own index y bytes maxL ret na) (hR : rm.cells = 0 ∧ rm.slots = 0 ∧ rm.frames + 1 ≤ R.frames ∧ 8 + (maxL + 11) + rm.locals ≤ R.locals) (hw : Wd G n C H) (hS : LW G s H locs) {ci N : Nat} {T : u_T} {fs : List Value} (ha : q0 < n ∧ q0 < 244) (he : cellAt G C q0 = .inr (ci, fs)) (hc : vwCl[ci]? = some (y.cls, T, N)) (hls : ls.size = nL) (hna : As.length = na) (hst : st0 = As.reverse ++ .ref (bb G + q0) :: rest) (hWd : (rest.map fun v => v.category).sum ≤ 8) (hdg : decode cc pc = .ok (.invokevirtual index, 3)) (hf : cells + 0 ≤ R.cells ∧ slots + 0 ≤ R.slots)
    (kk : ∀ (H1 : Heap) (locs1 : List Loc), Wd G n C1 H1 → LW G s H1 locs1 → H.size ≤ H1.size ∧ H1.size ≤ s.heap.size + cells → W p l e R s m args below meth c H1 locs1 cells slots Q (F0 m (pc + 3) ls (r.toList ++ rest))) : W p l e R s m args below meth c H locs cells slots Q (F0 m pc ls st0) := by
  subst hst
  have hK := va_recv hC.2.2.2.2.2.1.1 (hw.one ha he) (q0 := 0) hc rfl
  exact m_call (va_runV (As := As) (rest := rest) ⟨hC.1, hC.2.1, hC.2.2.1, hC.2.2.2.1, hC.2.2.2.2.1⟩ hM (hV.b hC.2.2.2.2.1 hR) ⟨PC.blind, hK, fun U hU hW => ⟨rfl, by rw [hU]; exact hw, hC.2.2.2.2.2.1.warm hW⟩⟩ rfl hna hls rfl (lv_room hWd) hdg hf) hC hw hS kk
theorem call_S (hC : Cx p s m args c cc own nL G) (hM : Ct l y bytes maxL ret rm G n C As r C1) (hV : WS own index y bytes maxL ret na) (hR : rm.cells = 0 ∧ rm.slots = 0 ∧ rm.frames + 1 ≤ R.frames ∧ 8 + (maxL + 11) + rm.locals ≤ R.locals) (hw : Wd G n C H) (hS : LW G s H locs) (hls : ls.size = nL) (hna : As.length = na) (hst : st0 = As.reverse ++ rest) (hWd : (rest.map fun v => v.category).sum ≤ 8) (hdg : decode cc pc = .ok (.invokestatic index, 3)) (hf : cells + 0 ≤ R.cells ∧ slots + 0 ≤ R.slots)
    (kk : ∀ (H1 : Heap) (locs1 : List Loc), Wd G n C1 H1 → LW G s H1 locs1 → H.size ≤ H1.size ∧ H1.size ≤ s.heap.size + cells → W p l e R s m args below meth c H1 locs1 cells slots Q (F0 m (pc + 3) ls (r.toList ++ rest))) : W p l e R s m args below meth c H locs cells slots Q (F0 m pc ls st0) := by
  subst hst
  exact m_call (va_runS (As := As) (rest := rest) ⟨hC.1, hC.2.1, hC.2.2.1, hC.2.2.2.1, hC.2.2.2.2.1⟩ hM (hV.b hC.2.2.2.2.1 hR) ⟨PC.blind, fun U hU hW => ⟨rfl, by rw [hU]; exact hw, hC.2.2.2.2.2.1.warm hW⟩⟩ rfl hna hls rfl (lv_room hWd) hdg hf) hC hw hS kk
/-- a call that returns or throws -/
theorem m_callX (hr : vx_Run p l e R s m args below meth c H locs cells slots mc ms (F0 m pc ls st0) rest (QX G n rv o C1 a) (XX G n o C1) (frA G)) (hC : Cx p s m args c cc own nL G) (hw : Wd G n C H) (hS : LW G s H locs)
    (kx : ∀ (k : Nat) (ce : Cell) (q9 : Addr) (H1 : Heap) (locs1 : List Loc), o = .inr k → 1 ≤ k → k ≤ 3 → Wd G n C1 H1 → LW G s H1 locs1 → H1[q9]? = some ce → ce.vm = .none → s.vm.findClass (xN k) = some ce.cls → vx_W p l e R s m args below meth c H1 locs1 (cells + mc) (slots + ms) Q (F0 m pc ls rest) q9)
    (kk : ∀ (v : Int32) (H1 : Heap) (locs1 : List Loc), o = .inl v → Wd G n C1 H1 → LW G s H1 locs1 → W p l e R s m args below meth c H1 locs1 (cells + mc) (slots + ms) Q (F0 m (pc + 3) ls ((rv v).toList ++ rest))) : W p l e R s m args below meth c H locs cells slots Q (F0 m pc ls st0) := by
  intro T hT X
  rcases hr T hT X with ⟨v, st₀, t, T', L, h0, X', hL, e1, e2, ⟨x, hx, hv, hwd, hz⟩, st⟩ | ⟨q, st₀, t, T', L, E, ce, h0, X', hL, e1, e2, ⟨k, hk, k1, k2, rfl, hwd, hz⟩, hce, hcv, hcl, st⟩
  · cases hv
    rw [h0, ← e1] at hz
    rw [← e1] at hwd
    obtain ⟨t2, a1, b1⟩ := kk x T'.heap (locs ++ L) hx hwd (hS.call hw hC.2.2.2.2.2.2.1 hwd hz hL) T' rfl X'
    exact ⟨t2, st t2 a1, b1⟩
  · rw [h0, ← e1] at hz
    rw [← e1] at hwd hce
    obtain ⟨t2, a1, b1⟩ := kx k ce q T'.heap (locs ++ L) hk k1 k2 hwd (hS.call hw hC.2.2.2.2.2.2.1 hwd hz hL) hce hcv hcl T' rfl X'
    exact ⟨t2, st.trans a1, b1⟩
theorem call_VX {q0 : Nat} (hC : Cx p s m args c cc own nL G) (hM : CtX l y bytes maxL ret rm mc ms G n C (.ref (bb G + q0) :: As) rv o C1) (hV : WV own index y bytes maxL ret na) (hR : rm.cells = mc ∧ rm.slots = ms ∧ rm.frames + 1 ≤ R.frames ∧ 8 + (maxL + 11) + rm.locals ≤ R.locals) (hw : Wd G n C H) (hS : LW G s H locs) {ci N : Nat} {T : u_T} {fs : List Value} (ha : q0 < n ∧ q0 < 244) (he : cellAt G C q0 = .inr (ci, fs)) (hc : vwCl[ci]? = some (y.cls, T, N)) (hls : ls.size = nL) (hna : As.length = na) (hst : st0 = As.reverse ++ .ref (bb G + q0) :: rest) (hWd : (rest.map fun v => v.category).sum ≤ 8) (hdg : decode cc pc = .ok (.invokevirtual index, 3)) (hf : cells + mc ≤ R.cells ∧ slots + ms ≤ R.slots)
    (kx : ∀ (k : Nat) (ce : Cell) (q9 : Addr) (H1 : Heap) (locs1 : List Loc), o = .inr k → 1 ≤ k → k ≤ 3 → Wd G n C1 H1 → LW G s H1 locs1 → H1[q9]? = some ce → ce.vm = .none → s.vm.findClass (xN k) = some ce.cls → vx_W p l e R s m args below meth c H1 locs1 (cells + mc) (slots + ms) Q (F0 m pc ls rest) q9)
    (kk : ∀ (v : Int32) (H1 : Heap) (locs1 : List Loc), o = .inl v → Wd G n C1 H1 → LW G s H1 locs1 → W p l e R s m args below meth c H1 locs1 (cells + mc) (slots + ms) Q (F0 m (pc + 3) ls ((rv v).toList ++ rest))) : W p l e R s m args below meth c H locs cells slots Q (F0 m pc ls st0) := by
  subst hst
  have hK := va_recv hC.2.2.2.2.2.1.1 (hw.one ha he) (q0 := 0) hc rfl
  exact m_callX (vx_runV (As := As) (rest := rest) ⟨hC.1, hC.2.1, hC.2.2.1, hC.2.2.2.1, hC.2.2.2.2.1⟩ hM (hV.b hC.2.2.2.2.1 hR) ⟨PC.blind, hK, fun U hU hW => ⟨rfl, by rw [hU]; exact hw, hC.2.2.2.2.2.1.warm hW⟩⟩ rfl hna hls rfl (lv_room hWd) hdg hf) hC hw hS kx kk
theorem call_SX (hC : Cx p s m args c cc own nL G) (hM : CtX l y bytes maxL ret rm mc ms G n C As rv o C1) (hV : WS own index y bytes maxL ret na) (hR : rm.cells = mc ∧ rm.slots = ms ∧ rm.frames + 1 ≤ R.frames ∧ 8 + (maxL + 11) + rm.locals ≤ R.locals) (hw : Wd G n C H) (hS : LW G s H locs) (hls : ls.size = nL) (hna : As.length = na) (hst : st0 = As.reverse ++ rest) (hWd : (rest.map fun v => v.category).sum ≤ 8) (hdg : decode cc pc = .ok (.invokestatic index, 3)) (hf : cells + mc ≤ R.cells ∧ slots + ms ≤ R.slots)
    (kx : ∀ (k : Nat) (ce : Cell) (q9 : Addr) (H1 : Heap) (locs1 : List Loc), o = .inr k → 1 ≤ k → k ≤ 3 → Wd G n C1 H1 → LW G s H1 locs1 → H1[q9]? = some ce → ce.vm = .none → s.vm.findClass (xN k) = some ce.cls → vx_W p l e R s m args below meth c H1 locs1 (cells + mc) (slots + ms) Q (F0 m pc ls rest) q9)
    (kk : ∀ (v : Int32) (H1 : Heap) (locs1 : List Loc), o = .inl v → Wd G n C1 H1 → LW G s H1 locs1 → W p l e R s m args below meth c H1 locs1 (cells + mc) (slots + ms) Q (F0 m (pc + 3) ls ((rv v).toList ++ rest))) : W p l e R s m args below meth c H locs cells slots Q (F0 m pc ls st0) := by
  subst hst
  exact m_callX (vx_runS (As := As) (rest := rest) ⟨hC.1, hC.2.1, hC.2.2.1, hC.2.2.2.1, hC.2.2.2.2.1⟩ hM (hV.b hC.2.2.2.2.1 hR) ⟨PC.blind, fun U hU hW => ⟨rfl, by rw [hU]; exact hw, hC.2.2.2.2.2.1.warm hW⟩⟩ rfl hna hls rfl (lv_room hWd) hdg hf) hC hw hS kx kk
/-! ends -/
theorem m_iret (hC : Cx p s m args c cc own nL G) (hr : meth.sig.returnType = some .int) (hlocks : meth.locks = false) (hw : Wd G n C H) (hS : LW G s H locs) {v r1 : Int32} (hdg : decode cc pc = .ok (.ireturn, 1)) (hF : some (v, C) = some (r1, C1)) : W p l e R s m args below meth c H locs cells slots (MQ below (QR G n (some (.int r1)) C1) args s cells slots (frA G)) (F0 m pc ls [.int v]) := by
  cases hF
  exact W.iret hC.1 hC.2.1 hr (fun t ht _ => ⟨rfl, by rw [ht]; exact hw, by rw [ht]; exact hS.1⟩) hS.2.2 hdg
theorem z_nar {v : Int32} (hv : v = 0 ∨ v = 1) : narrow .boolean (.int v) = .int v := by rcases hv with rfl | rfl <;> decide
theorem z_fit {v : Int32} (hv : v = 0 ∨ v = 1) : fits .boolean (.int v) = true := by rcases hv with rfl | rfl <;> decide
theorem m_zret (hC : Cx p s m args c cc own nL G) (hr : meth.sig.returnType = some .boolean) (hlocks : meth.locks = false) (hw : Wd G n C H) (hS : LW G s H locs) {v r1 : Int32} (hdg : decode cc pc = .ok (.ireturn, 1)) (hv : v = 0 ∨ v = 1) (hF : some (v, C) = some (r1, C1)) : W p l e R s m args below meth c H locs cells slots (MQ below (QR G n (some (.int r1)) C1) args s cells slots (frA G)) (F0 m pc ls [.int v]) := by
  cases hF
  exact W.zret hC.1 hC.2.1 hr (z_nar hv) (fun t ht _ => ⟨rfl, by rw [ht]; exact hw, by rw [ht]; exact hS.1⟩) hS.2.2 hdg
theorem m_vret (hC : Cx p s m args c cc own nL G) (hr : meth.sig.returnType = none) (hlocks : meth.locks = false) (hw : Wd G n C H) (hS : LW G s H locs) {r1 : Int32} (hdg : decode cc pc = .ok (.return_, 1)) (hF : some ((0 : Int32), C) = some (r1, C1)) : W p l e R s m args below meth c H locs cells slots (MQ below (QR G n none C1) args s cells slots (frA G)) (F0 m pc ls []) := by
  cases hF
  exact W.vret hC.1 hC.2.1 hr (fun t ht _ => ⟨rfl, by rw [ht]; exact hw, by rw [ht]; exact hS.1⟩) hS.2.2 hdg
theorem m_aret (hC : Cx p s m args c cc own nL G) {cls : String} (hr : meth.sig.returnType = some (.object cls)) (hlocks : meth.locks = false) (hw : Wd G n C H) (hS : LW G s H locs) {f r1 : Nat} {ad : Nat → Nat} (hdg : decode cc pc = .ok (.areturn, 1)) (hF : some (f, C) = some (r1, C1)) : W p l e R s m args below meth c H locs cells slots (MQ below (QR G n (some (.ref (ad r1))) C1) args s cells slots (frA G)) (F0 m pc ls [.ref (ad f)]) := by
  cases hF
  exact W.aret hC.1 hC.2.1 hr (Or.inl ⟨_, rfl⟩) (Or.inr ⟨_, rfl⟩) (fun t ht _ => ⟨rfl, by rw [ht]; exact hw, by rw [ht]; exact hS.1⟩) hS.2.2 hdg
theorem m_iretX (hC : Cx p s m args c cc own nL G) (hr : meth.sig.returnType = some .int) (hlocks : meth.locks = false) (hw : Wd G n C H) (hS : LW G s H locs) {v : Int32} (hc : cells ≤ mc) (hs : slots ≤ ms) (hdg : decode cc pc = .ok (.ireturn, 1)) (hF : some (Sum.inl v, C) = some (o, C1)) : W p l e R s m args below meth c H locs cells slots (vx_MQ below (QX G n (fun v => some (.int v)) o C1) (XX G n o C1) args s mc ms (frA G)) (F0 m pc ls [.int v]) := by
  cases hF
  exact W.widen hc hs (vx_ret (W.iret hC.1 hC.2.1 hr (fun t ht _ => ⟨v, rfl, rfl, by rw [ht]; exact hw, by rw [ht]; exact hS.1⟩) hS.2.2 hdg))
theorem m_vretX (hC : Cx p s m args c cc own nL G) (hr : meth.sig.returnType = none) (hlocks : meth.locks = false) (hw : Wd G n C H) (hS : LW G s H locs) (hc : cells ≤ mc) (hs : slots ≤ ms) (hdg : decode cc pc = .ok (.return_, 1)) (hF : some (Sum.inl (0 : Int32), C) = some (o, C1)) : W p l e R s m args below meth c H locs cells slots (vx_MQ below (QX G n (fun _ => none) o C1) (XX G n o C1) args s mc ms (frA G)) (F0 m pc ls []) := by
  cases hF
  exact W.widen hc hs (vx_ret (W.vret hC.1 hC.2.1 hr (fun t ht _ => ⟨0, rfl, rfl, by rw [ht]; exact hw, by rw [ht]; exact hS.1⟩) hS.2.2 hdg))
/-- an exception goes on to the caller -/
theorem m_out (hC : Cx p s m args c cc own nL G) (hlocks : meth.locks = false) (ht : ∀ x ∈ c.exceptionTable.toList, False) (hw : Wd G n C H) (hS : LW G s H locs) {k : Nat} {ce : Cell} {q : Addr} (k1 : 1 ≤ k) (k2 : k ≤ 3) (hce : H[q]? = some ce) (hcv : ce.vm = .none) (hcl : s.vm.findClass (xN k) = some ce.cls) (hc : cells ≤ mc) (hs : slots ≤ ms) (hF : some (Sum.inr k, C) = some (o, C1)) {Qc : Array Value → State → Outcome → State → Prop} : vx_W p l e R s m args below meth c H locs cells slots (vx_MQ below Qc (XX G n o C1) args s mc ms (frA G)) (F0 m pc ls rest) q := by
  cases hF
  exact vx_out (fun x hx => (ht x hx).elim) hlocks hce hcv hcl (fun t ht _ => ⟨k, rfl, k1, k2, rfl, by rw [ht]; exact hw, by rw [ht]; exact hS.1⟩) hS.2.2 hc hs
end CALLS
/-! a contract out of a walk -/
theorem Ct.of {l : Launch} {y : MethodName} {cc : ByteArray} {maxL : Nat} {ret : Option FieldType} {rm : Room} {G : GG} {n : Nat} {C C1 : Mem} {av : List Value} {r : Option Value} (hy : plainName y.cls = true) (hN : (lg_sl av).length ≤ maxL)
    (body : ∀ (p : Program) (e : Env) (s : State) (m : MethodId) (below : List Frame) (meth : Method) (c : Code) (ls : Array Slot), Cx p s m av.toArray c cc y.cls maxL G → meth.sig.returnType = ret → meth.locks = false → Wd G n C s.heap → lv_has ls maxL (lv_args 0 av) →
      W p l e rm s m av.toArray below meth c s.heap [] 0 0 (MQ below (QR G n r C1) av.toArray s 0 0 (frA G)) (F0 m 0 ls [])) : Ct l y cc maxL ret rm G n C av r C1 := by
  refine Met.ofW (cc := cc) (maxL := maxL) (ret := ret) hy rfl ?_
  intro p e s m args below meth c s₁ B hml hv
  obtain ⟨rfl, hwd, hT⟩ := hv
  have hl := lv_entry av (n := maxL) hN
  rw [lg_entry_eq]
  generalize (lg_sl av ++ List.replicate (maxL - (lg_sl av).length) Slot.unset).toArray = ls at hl ⊢
  exact body p e s m below meth c ls ⟨B.exec, B.bytes, hml, findClass_of_methodNamed B.named, fun w hw => atoms_spec (ws := wsG y cc maxL ret) B.pre w (List.mem_cons_of_mem _ hw), hT, Nat.le_trans (Nat.le_add_right _ _) hwd.1, fun _ h => hwd.ah h⟩ B.returns B.notSynchronized hwd hl
theorem CtX.of {l : Launch} {y : MethodName} {cc : ByteArray} {maxL mc ms : Nat} {ret : Option FieldType} {rm : Room} {G : GG} {n : Nat} {C : Mem} {C1 : Mem} {av : List Value} {rv : Int32 → Option Value} {o : Rs} (hy : plainName y.cls = true) (hN : (lg_sl av).length ≤ maxL)
    (body : ∀ (p : Program) (e : Env) (s : State) (m : MethodId) (below : List Frame) (meth : Method) (c : Code) (ls : Array Slot), Cx p s m av.toArray c cc y.cls maxL G → meth.sig.returnType = ret → meth.locks = false → (∀ x ∈ c.exceptionTable.toList, False) → Wd G n C s.heap → lv_has ls maxL (lv_args 0 av) →
      W p l e rm s m av.toArray below meth c s.heap [] 0 0 (vx_MQ below (QX G n rv o C1) (XX G n o C1) av.toArray s mc ms (frA G)) (F0 m 0 ls [])) : CtX l y cc maxL ret rm mc ms G n C av rv o C1 := by
  refine vx_ofW (cc := cc) (maxL := maxL) (ret := ret) hy rfl ?_
  intro p e s m args below meth c s₁ B hml htab hv
  obtain ⟨rfl, hwd, hT⟩ := hv
  have hl := lv_entry av (n := maxL) hN
  rw [lg_entry_eq]
  generalize (lg_sl av ++ List.replicate (maxL - (lg_sl av).length) Slot.unset).toArray = ls at hl ⊢
  exact body p e s m below meth c ls ⟨B.exec, B.bytes, hml, findClass_of_methodNamed B.named, fun w hw => atoms_spec (ws := wsG y cc maxL ret) B.pre w (List.mem_cons_of_mem _ hw), hT, Nat.le_trans (Nat.le_add_right _ _) hwd.1, fun _ h => hwd.ah h⟩ B.returns B.notSynchronized htab hwd hl
