/-! methods of the law with a table of their own: contracts, calls, catches -/
abbrev wsW (y : MethodName) (bytes : ByteArray) (maxL : Nat) (ret : Option FieldType) (hh : List (Nat × Nat × Nat × Nat)) : List Cond := Cond.codeWith y bytes maxL ret hh :: lw_g
def CtW (l : Launch) (y : MethodName) (bytes : ByteArray) (maxL : Nat) (ret : Option FieldType) (hh : List (Nat × Nat × Nat × Nat)) (rm : Room) (mc ms : Nat) (G : GG) (n : Nat) (C : Mem) (av : List Value) (r : Int32) (C1 : Mem) : Prop := vx_Met l y (wsW y bytes maxL ret hh) rm (PC G n C av) (QX G n (fun v => some (.int v)) (.inl r) C1) (XX G n (.inl r) C1) mc ms (frA G)
def WSW (own : String) (index : Nat) (y : MethodName) (bytes : ByteArray) (maxL : Nat) (ret : Option FieldType) (hh : List (Nat × Nat × Nat × Nat)) (na : Nat) : Prop :=
  Cond.methodLink own index y ∈ lw_g ∧ Cond.static y ∈ lw_g ∧ Cond.initialized y.cls ∈ lw_g ∧ Cond.codeWith y bytes maxL ret hh ∈ lw_g ∧ (y.cls ≠ "java/lang/invoke/MethodHandle" ∧ y.cls ≠ "java/lang/invoke/VarHandle") ∧ (parseMethodDescriptor y.desc).map (fun d => d.parameters.length) = some na
theorem CtW.of {l : Launch} {y : MethodName} {cc : ByteArray} {maxL mc ms : Nat} {ret : Option FieldType} {hh : List (Nat × Nat × Nat × Nat)} {rm : Room} {G : GG} {n : Nat} {C : Mem} {C1 : Mem} {av : List Value} {r : Int32} (hy : plainName y.cls = true) (hN : (lg_sl av).length ≤ maxL)
    (body : ∀ (p : Program) (e : Env) (s : State) (m : MethodId) (below : List Frame) (meth : Method) (c : Code) (ls : Array Slot), Cx p s m av.toArray c cc y.cls maxL G → meth.sig.returnType = ret → meth.locks = false → c.exceptionTable.toList = tableOf hh → Wd G n C s.heap → lv_has ls maxL (lv_args 0 av) →
      W p l e rm s m av.toArray below meth c s.heap [] 0 0 (vx_MQ below (QX G n (fun v => some (.int v)) (.inl r) C1) (XX G n (.inl r) C1) av.toArray s mc ms (frA G)) (F0 m 0 ls [])) : CtW l y cc maxL ret hh rm mc ms G n C av r C1 := by
  refine vx_ofWH (cc := cc) (maxL := maxL) (ret := ret) (hh := hh) hy rfl ?_
  intro p e s m args below meth c s₁ B hml hv
  obtain ⟨rfl, hwd, hT⟩ := hv
  have hl := lv_entry av (n := maxL) hN
  rw [lg_entry_eq]
  generalize (lg_sl av ++ List.replicate (maxL - (lg_sl av).length) Slot.unset).toArray = ls at hl ⊢
  have hts := atoms_spec (ws := wsW y cc maxL ret hh) B.pre
  exact body p e s m below meth c ls ⟨B.exec, B.bytes, hml, findClass_of_methodNamed B.named, fun w hw => hts w (List.mem_cons_of_mem _ hw), hT, Nat.le_trans (Nat.le_add_right _ _) hwd.1, fun _ h => hwd.ah h⟩ B.returns B.notSynchronized (vx_table (x := y) B (hts _ List.mem_cons_self)) hwd hl
section LAWC
variable {p : Program} {l : Launch} {e : Env} {R : Room} {s : State} {m : MethodId} {args : Array Value} {below : List Frame} {meth : Method} {c : Code} {H : Heap} {locs : List Loc} {cells slots : Nat} {Q : State → Prop}
variable {cc : ByteArray} {pc : Nat} {ls : Array Slot} {rest st0 As : List Value} {own : String} {nL : Nat} {G : GG} {n : Nat} {C C1 : Mem} {index na mc ms maxL : Nat} {y : MethodName} {bytes : ByteArray} {ret : Option FieldType} {hh : List (Nat × Nat × Nat × Nat)} {rm : Room}
theorem WSW.b (hV : WSW own index y bytes maxL ret hh na) (h : ∀ w ∈ lw_g, w.before args s = true) (hR : rm.cells = mc ∧ rm.slots = ms ∧ rm.frames + 1 ≤ R.frames ∧ 8 + (maxL + 11) + rm.locals ≤ R.locals) : vx_CSW R s args own index y bytes maxL ret hh (wsW y bytes maxL ret hh) rm mc ms na := by
  obtain ⟨h1, h2, h4, h5, h6, h7⟩ := hV
  refine ⟨⟨hR.1, hR.2.1, hR.2.2.1, hR.2.2.2, fun w hw => ?_, List.mem_cons_self⟩, h _ h5, h _ h4, h6, fun sig hs => ?_, h _ h1, h _ h2⟩
  · rcases List.mem_cons.mp hw with rfl | hw
    · exact lg_warm h _ h5
    · exact lg_warm h _ hw
  · rw [hs] at h7
    exact (Option.some.inj h7).symm
theorem call_SW (hC : Cx p s m args c cc own nL G) {v : Int32} (hM : CtW l y bytes maxL ret hh rm mc ms G n C As v C1) (hV : WSW own index y bytes maxL ret hh na) (hR : rm.cells = mc ∧ rm.slots = ms ∧ rm.frames + 1 ≤ R.frames ∧ 8 + (maxL + 11) + rm.locals ≤ R.locals) (hw : Wd G n C H) (hS : LW G s H locs) (hls : ls.size = nL) (hna : As.length = na) (hst : st0 = As.reverse ++ rest) (hWd : (rest.map fun v => v.category).sum ≤ 8) (hdg : decode cc pc = .ok (.invokestatic index, 3)) (hf : cells + mc ≤ R.cells ∧ slots + ms ≤ R.slots)
    (kk : ∀ (H1 : Heap) (locs1 : List Loc), Wd G n C1 H1 → LW G s H1 locs1 → W p l e R s m args below meth c H1 locs1 (cells + mc) (slots + ms) Q (F0 m (pc + 3) ls (.int v :: rest))) : W p l e R s m args below meth c H locs cells slots Q (F0 m pc ls st0) := by
  subst hst
  refine m_callX (rv := fun v => some (.int v)) (o := .inl v) (vx_runSX (As := As) (rest := rest) ⟨hC.1, hC.2.1, hC.2.2.1, hC.2.2.2.1, hC.2.2.2.2.1⟩ hM (hV.b hC.2.2.2.2.1 hR) ⟨PC.blind, fun U hU hW => ⟨rfl, by rw [hU]; exact hw, hC.2.2.2.2.2.1.warm hW⟩⟩ rfl hna hls rfl (lv_room hWd) hdg hf) hC hw hS (fun k ce q9 H1 locs1 h => by cases h) (fun v1 H1 locs1 h hw hS => ?_)
  cases h
  exact kk H1 locs1 hw hS
/-- caught by the first, by the second row of the table -/
theorem m_ct1 (hC : Cx p s m args c cc RL nL G) {a b hp ci k : Nat} {suf : List (Nat × Nat × Nat × Nat)} (ht : c.exceptionTable.toList = tableOf ((a, b, hp, ci) :: suf)) (hx : covers ⟨a, b, hp, ci⟩ pc = true) (h0 : ci ≠ 0) (hlink : Cond.classLink RL ci (xN k) ∈ lw_g) {ce : Cell} {q : Addr} (hce : H[q]? = some ce) (hcv : ce.vm = .none) (hcl : s.vm.findClass (xN k) = some ce.cls)
    (kk : W p l e R s m args below meth c H locs cells slots Q (F0 m hp ls [.ref q])) : vx_W p l e R s m args below meth c H locs cells slots Q (F0 m pc ls rest) q :=
  vx_catch hC.2.2.2.1 [] ⟨a, b, hp, ci⟩ (tableOf suf) (ht.trans rfl) (fun z hz => by cases hz) hx h0 (hC.2.2.2.2.1 _ hlink) (va_Nw.use rfl (hC.2.2.2.2.2.1.2.2.2.2.2.2.2.1 k)) hce hcv hcl kk
theorem m_ct2 (hC : Cx p s m args c cc RL nL G) {a b hp ci k a1 b1 hp1 ci1 k1 : Nat} {suf : List (Nat × Nat × Nat × Nat)} (ht : c.exceptionTable.toList = tableOf ((a1, b1, hp1, ci1) :: (a, b, hp, ci) :: suf)) (hx : covers ⟨a, b, hp, ci⟩ pc = true) (h0 : ci ≠ 0) (h01 : ci1 ≠ 0) (hlink : Cond.classLink RL ci (xN k) ∈ lw_g) (hlink1 : Cond.classLink RL ci1 (xN k1) ∈ lw_g) (hk : 1 ≤ k ∧ k ≤ 3 ∧ 1 ≤ k1 ∧ k1 ≤ 3 ∧ k ≠ k1) {ce : Cell} {q : Addr} (hce : H[q]? = some ce) (hcv : ce.vm = .none) (hcl : s.vm.findClass (xN k) = some ce.cls)
    (kk : W p l e R s m args below meth c H locs cells slots Q (F0 m hp ls [.ref q])) : vx_W p l e R s m args below meth c H locs cells slots Q (F0 m pc ls rest) q :=
  vx_catch hC.2.2.2.1 [⟨a1, b1, hp1, ci1⟩] ⟨a, b, hp, ci⟩ (tableOf suf) (ht.trans rfl) (fun z hz => by
    cases List.mem_singleton.mp hz
    exact Or.inr ⟨h01, xN k1, hC.2.2.2.2.1 _ hlink1, hC.2.2.2.2.2.1.2.2.2.2.2.2.2.2.1 k k1 hk.1 hk.2.1 hk.2.2.1 hk.2.2.2.1 hk.2.2.2.2⟩) hx h0 (hC.2.2.2.2.1 _ hlink) (va_Nw.use rfl (hC.2.2.2.2.2.1.2.2.2.2.2.2.2.1 k)) hce hcv hcl kk
theorem m_iretW (hC : Cx p s m args c cc own nL G) (hr : meth.sig.returnType = some .int) (hlocks : meth.locks = false) (hw : Wd G n C H) (hS : LW G s H locs) {v r : Int32} (hc : cells ≤ mc) (hs : slots ≤ ms) (hdg : decode cc pc = .ok (.ireturn, 1)) (hF : some (v, C) = some (r, C1)) : W p l e R s m args below meth c H locs cells slots (vx_MQ below (QX G n (fun v => some (.int v)) (.inl r) C1) (XX G n (.inl r) C1) args s mc ms (frA G)) (F0 m pc ls [.int v]) :=
  m_iretX hC hr hlocks hw hS hc hs hdg (by cases hF; rfl)
end LAWC
theorem kl_13 : Cond.classLink RL 13 (xN 1) ∈ lw_g := lg 382 (by decide +kernel) rfl
theorem kl_15 : Cond.classLink RL 15 (xN 2) ∈ lw_g := lg 469 (by decide +kernel) rfl
theorem kl_28 : Cond.classLink RL 28 (xN 3) ∈ lw_g := lg 517 (by decide +kernel) rfl
