/-! the heap while the world is being made: k cells stand, E says which; constructors -/
def ue (E : Nat → va_E) (i : Nat) (e : va_E) : Nat → va_E := fun a => if a = i then e else E a
theorem ue_same (E : Nat → va_E) (i : Nat) (e : va_E) : ue E i e i = e := if_pos rfl
theorem ue_ne (E : Nat → va_E) {i a : Nat} (e : va_E) (h : a ≠ i) : ue E i e a = E a := if_neg h
def Rw (G : GG) (k : Nat) (E : Nat → va_E) (H : Heap) : Prop := H.size = bb G + k ∧ (∀ a, a < bb G → H[a]? = G.2.2.1[a]?) ∧ ∀ a, a < k → va_at G.1 vwCl (bb G + a, E a) H
theorem Rw.one {G : GG} {k : Nat} {E : Nat → va_E} {H : Heap} (hw : Rw G k E H) {a : Nat} {e : va_E} (ha : a < k) (he : E a = e) : va_P G.1 vwCl [(bb G + a, e)] H := by
  intro j q hj
  match j, hj with
  | 0, hj =>
    cases hj
    rw [← he]
    exact hw.2.2 a ha
theorem Rw.ext {G : GG} {k : Nat} {E E1 : Nat → va_E} {H : Heap} (hw : Rw G k E H) (h : ∀ a, a < k → va_at G.1 vwCl (bb G + a, E a) H → va_at G.1 vwCl (bb G + a, E1 a) H) : Rw G k E1 H := ⟨hw.1, hw.2.1, fun a ha => h a ha (hw.2.2 a ha)⟩
theorem at_q {G : GG} {q N : Nat} {cA : ClassId} {f g : Nat → Option Nat} {H : Heap} (h : ∀ j, j < N → f j = g j) (z : va_at G.1 vwCl (q, .inl (cA, N, .inr (.inr (.inr (.inr f))))) H) : va_at G.1 vwCl (q, .inl (cA, N, .inr (.inr (.inr (.inr g))))) H := by
  have z : H[q]? = some (vp_cell _ _) := z
  show H[q]? = some (vp_cell _ _)
  rw [z, vp_cell_q, vp_cell_q, arrV_congr (fun j hj => congrArg va_rf (h j hj))]
theorem at_i {G : GG} {q N : Nat} {cA : ClassId} {f g : Nat → Int32} {H : Heap} (h : ∀ j, j < N → f j = g j) (z : va_at G.1 vwCl (q, .inl (cA, N, .inl f)) H) : va_at G.1 vwCl (q, .inl (cA, N, .inl g)) H := by
  have z : H[q]? = some (vp_cell _ _) := z
  show H[q]? = some (vp_cell _ _)
  rw [z, vp_cell_i, vp_cell_i, arrV_congr (fun j hj => congrArg Value.int (h j hj))]
theorem Rw.push {G : GG} {k : Nat} {E : Nat → va_E} {H H1 : Heap} (hw : Rw G k E H) {e : va_E} (hz : H1.size = bb G + k + 1) (oq : ∀ q, q < bb G + k → H1[q]? = H[q]?) (hs : va_at G.1 vwCl (bb G + k, e) H1) : Rw G (k + 1) (ue E k e) H1 := by
  refine ⟨by omega, fun a ha => by rw [oq a (by omega)]; exact hw.2.1 a ha, fun a ha => ?_⟩
  by_cases h : a = k
  · subst h
    rw [ue_same]
    exact hs
  · rw [ue_ne E e h]
    exact (hw.2.2 a (by omega)).kept (oq _ (by simp only; omega))
theorem Rw.put {G : GG} {k : Nat} {E : Nat → va_E} {H H1 : Heap} (hw : Rw G k E H) {a : Nat} {e : va_E} (hz : H1.size = H.size) (oq : ∀ q, q ≠ bb G + a → H1[q]? = H[q]?) (hs : va_at G.1 vwCl (bb G + a, e) H1) : Rw G k (ue E a e) H1 := by
  refine ⟨hz.trans hw.1, fun q hq => by rw [oq q (by omega)]; exact hw.2.1 q hq, fun q hq => ?_⟩
  by_cases h : q = a
  · subst h
    rw [ue_same]
    exact hs
  · rw [ue_ne E e h]
    exact (hw.2.2 q hq).kept (oq _ (by simp only; omega))
theorem Rw.wd {G : GG} {n : Nat} {C : Mem} {H : Heap} (hw : Rw G n (cellAt G C) H) (hn : n ≤ 244 := by decide) : Wd G n C H := ⟨by rw [hw.1]; exact Nat.le_refl _, fun a ha h => hw.2.1 a (by omega), fun a ha _ => hw.2.2 a ha⟩
theorem Wd.rw {G : GG} {n : Nat} {C : Mem} {H : Heap} (hw : Wd G n C H) (hz : H.size = bb G + n) (hn : n ≤ 244 := by decide) : Rw G n (cellAt G C) H := ⟨hz, fun a ha => hw.ah ha, fun a ha => hw.2.2 a ha (by omega)⟩
def nestI : List (String × Nat × MethodName) := [(RX5, 19, yX1_init), (RX5, 33, yX7_init), (RX5, 40, yX3_init), (RX5, 45, yX0_init), (RX8, 35, yX6_init)]
def TI (U : State) : Prop := (∀ q ∈ nestI, va_Nw (.methodLinkNest q.1 q.2.1 q.2.2 RX8) U) ∧ va_AO RX0 U ∧ va_AO RX5 U
theorem TI.warm {s U : State} (hW : s.WarmedH U.vm) (h : TI s) : TI U := ⟨fun q hq => va_Nw.warmM hW (h.1 q hq), va_AO.moved hW.alike h.2.1, va_AO.moved hW.alike h.2.2⟩
def PI (G : GG) (k : Nat) (E : Nat → va_E) (a : Nat) : Array Value → State → Prop := fun v U => v = ([.ref (bb G + a)] : List Value).toArray ∧ Rw G k E U.heap ∧ TT G U ∧ TI U
theorem PI.blind {G : GG} {k : Nat} {E : Nat → va_E} {a : Nat} : FrameBlind (PI G k E a) := fun _ U g mk h => ⟨h.1, h.2.1, TT.warm (s := U) (U := U.calling g mk _) (State.WarmedH.refl U) h.2.2.1, TI.warm (s := U) (U := U.calling g mk _) (State.WarmedH.refl U) h.2.2.2⟩
def QI (G : GG) (k : Nat) (E : Nat → va_E) : Array Value → State → Outcome → State → Prop := fun _ st o t => o = .returned none ∧ Rw G k E t.heap ∧ st.heap.size ≤ t.heap.size
def CtI (l : Launch) (y : MethodName) (bytes : ByteArray) (maxL : Nat) (rm : Room) (mc ms : Nat) (G : GG) (k : Nat) (E : Nat → va_E) (a : Nat) (k1 : Nat) (E1 : Nat → va_E) : Prop := Met l y (wsG y bytes maxL none) rm (PI G k E a) (QI G k1 E1) mc ms (frA G)
def z0 : Nat → Int32 := fun _ => 0
theorem tr_z (n : Nat) : tr n z0 = z0 := by
  funext j
  unfold tr z0
  split <;> rfl
def pE (G : GG) (E : Nat → va_E) (o : Nat) : Nat → va_E := fun a => if a < o then E a else plantC G o z0 (a - o)
theorem pE_lt (G : GG) (E : Nat → va_E) {o a : Nat} (h : a < o) : pE G E o a = E a := if_pos h
theorem pE_at (G : GG) (E : Nat → va_E) (o j : Nat) : pE G E o (o + j) = plantC G o z0 j := by
  unfold pE
  rw [if_neg (by omega), show o + j - o = j by omega]
/-- the words of a call of a constructor, of a nest mate's -/
def WI (own : String) (index : Nat) (y : MethodName) (bytes : ByteArray) (maxL : Nat) : Prop :=
  Cond.methodLink own index y ∈ lw_g ∧ Cond.instanceMethod y ∈ lw_g ∧ Cond.initialized y.cls ∈ lw_g ∧ Cond.code y bytes maxL none ∈ lw_g ∧ (y.cls ≠ "java/lang/invoke/MethodHandle" ∧ y.cls ≠ "java/lang/invoke/VarHandle") ∧ (parseMethodDescriptor y.desc).map (fun d => d.parameters.length) = some 0 ∧ y.name = "<init>"
def WN (own : String) (index : Nat) (y : MethodName) (bytes : ByteArray) (maxL : Nat) : Prop :=
  (own, index, y) ∈ nestI ∧ Cond.instanceMethod y ∈ lw_g ∧ Cond.initialized y.cls ∈ lw_g ∧ Cond.code y bytes maxL none ∈ lw_g ∧ (y.cls ≠ "java/lang/invoke/MethodHandle" ∧ y.cls ≠ "java/lang/invoke/VarHandle") ∧ (parseMethodDescriptor y.desc).map (fun d => d.parameters.length) = some 0 ∧ y.name = "<init>"
theorem CtI.of {l : Launch} {y : MethodName} {cc : ByteArray} {maxL mc ms : Nat} {rm : Room} {G : GG} {k : Nat} {E : Nat → va_E} {a k1 : Nat} {E1 : Nat → va_E} (hy : plainName y.cls = true) (hN : (lg_sl ([.ref (bb G + a)] : List Value)).length ≤ maxL)
    (body : ∀ (p : Program) (e : Env) (s : State) (m : MethodId) (below : List Frame) (meth : Method) (c : Code) (ls : Array Slot), Cx p s m ([.ref (bb G + a)] : List Value).toArray c cc y.cls maxL G → TI s → meth.name = y.name → meth.sig.returnType = none → meth.locks = false → Rw G k E s.heap → lv_has ls maxL [(0, .ref (bb G + a))] →
      W p l e rm s m ([.ref (bb G + a)] : List Value).toArray below meth c s.heap [] 0 0 (MQ below (QI G k1 E1) ([.ref (bb G + a)] : List Value).toArray s mc ms (frA G)) (F0 m 0 ls [])) : CtI l y cc maxL rm mc ms G k E a k1 E1 := by
  refine Met.ofW (cc := cc) (maxL := maxL) (ret := none) hy rfl ?_
  intro p e s m args below meth c s₁ B hml hv
  obtain ⟨rfl, hwd, hT, hI⟩ := hv
  have hl := lv_entry ([.ref (bb G + a)] : List Value) (n := maxL) hN
  rw [lg_entry_eq]
  generalize (lg_sl ([.ref (bb G + a)] : List Value) ++ List.replicate (maxL - (lg_sl ([.ref (bb G + a)] : List Value)).length) Slot.unset).toArray = ls at hl ⊢
  exact body p e s m below meth c ls ⟨B.exec, B.bytes, hml, findClass_of_methodNamed B.named, fun w hw => atoms_spec (ws := wsG y cc maxL none) B.pre w (List.mem_cons_of_mem _ hw), hT, by rw [hwd.1]; exact Nat.le_add_right _ _, hwd.2.1⟩ hI (name_of_methodNamed B.named B.method).1 B.returns B.notSynchronized hwd hl
section RAWC
variable {p : Program} {l : Launch} {e : Env} {R : Room} {s : State} {m : MethodId} {args : Array Value} {below : List Frame} {meth : Method} {c : Code} {H : Heap} {locs : List Loc} {cells slots : Nat} {Q : State → Prop}
variable {cc : ByteArray} {pc : Nat} {ls : Array Slot} {rest st0 : List Value} {own : String} {nL : Nat} {G : GG} {k : Nat} {E : Nat → va_E} {a : Array Value}
theorem LW.push (hS : LW G s H locs) {H1 : Heap} {n : Nat} (hn : H.size = n) (hz : H1.size = n + 1) (oq : ∀ q, q < n → H1[q]? = H[q]?) : LW G s H1 locs :=
  ⟨Nat.le_trans hS.1 (by omega), fun x h1 h2 => (oq x (by have := hS.1; omega)).trans (hS.2.1 x h1 h2), hS.2.2⟩
theorem rc_new (hC : Cx p s m args c cc own nL G) (hw : Rw G k E H) (hS : LW G s H locs) {Cn : String} {T : u_T} {N ci index : Nat} {fs : List Value} (hin : ∀ w ∈ u_ws Cn T N, w ∈ lw_g) {ty : Nat → FieldType} (hty : ∀ k, k < N → parseFieldDescriptor (T k).2.2.1 = some (ty k)) (hc : vwCl[ci]? = some (Cn, T, N)) (hwd : Cond.classLink own index Cn ∈ lw_g ∧ Cond.instantiable Cn N ∈ lw_g ∧ Cond.initialized Cn ∈ lw_g) (hfs : ∀ j, j < N → defaultValue (ty j) = vp_V fs j) (hcells : cells + 1 ≤ R.cells) (hslots : slots + N ≤ R.slots) (hdg : decode cc pc = .ok (.new index, 3))
    (kk : ∀ H1 : Heap, Rw G (k + 1) (ue E k (.inr (ci, fs))) H1 → LW G s H1 locs → W p l e R s m args below meth c H1 locs (cells + 1) (slots + N) Q (F0 m (pc + 3) ls (.ref (bb G + k) :: rest))) : W p l e R s m args below meth c H locs cells slots Q (F0 m pc ls rest) := by
  obtain ⟨hx, hb, -, hown, hts, hT, -⟩ := hC
  have hKn := hT.1.1 ci _ hc
  refine W.newcK hx hb hown (hts _ hwd.1) (hts _ hwd.2.1) (hts _ hwd.2.2) rfl hdg hcells hslots hKn.2.1 hw.1 fun H1 kC hkC e1 z1 o1 => ?_
  exact kk H1 (hw.push z1 o1 ⟨_, hc, (u_born ty hts hin hKn hkC e1 hty).to hfs⟩) (hS.push hw.1 z1 o1)
theorem rc_newi (hC : Cx p s m args c cc own nL G) (hw : Rw G k E H) (hS : LW G s H locs) (harr : Cond.arrayClass .int ∈ lw_g) {n : Int32} {N : Nat} (hn : ¬ n < 0) (hN : n.toNatClampNeg = N) (hbytes : N * 4 ≤ 536870912) (hcells : cells + 1 ≤ R.cells) (hslots : slots + N ≤ R.slots) (hdg : decode cc pc = .ok (.newarray .int, 2))
    (kk : ∀ H1 : Heap, Rw G (k + 1) (ue E k (.inl (G.2.1 0, N, .inl (fun _ => 0)))) H1 → LW G s H1 locs → W p l e R s m args below meth c H1 locs (cells + 1) (slots + N) Q (F0 m (pc + 2) ls (.ref (bb G + k) :: rest))) : W p l e R s m args below meth c H locs cells slots Q (F0 m pc ls (.int n :: rest)) := by
  obtain ⟨hx, hb, -, hown, hts, hT, -⟩ := hC
  refine va_newaK (atype := .int) hx hb (hts _ harr) rfl hdg rfl hn hN hbytes hcells hslots hw.1 fun H1 cA e1 z1 o1 hAr hNm => ?_
  have hcA : cA = G.2.1 0 := Option.some.inj (hNm.symm.trans (hT.1.2 0 _ rfl).2)
  subst hcA
  exact kk H1 (hw.push z1 o1 e1) (hS.push hw.1 z1 o1)
theorem rc_anew (hC : Cx p s m args c cc own nL G) (hw : Rw G k E H) (hS : LW G s H locs) {Cn : String} {index t0 : Nat} {cA : ClassId} (ht : (tysG G)[t0]? = some (cA, .object Cn)) (hover : va_AO Cn s) (hclink : Cond.classLink own index Cn ∈ lw_g) {n : Int32} {N : Nat} (hn : ¬ n < 0) (hN : n.toNatClampNeg = N) (hbytes : N * 4 ≤ 536870912) (hcells : cells + 1 ≤ R.cells) (hslots : slots + N ≤ R.slots) (hdg : decode cc pc = .ok (.anewarray index, 3))
    (kk : ∀ H1 : Heap, Rw G (k + 1) (ue E k (.inl (cA, N, .inr (.inr (.inr (.inr (fun _ => none))))))) H1 → LW G s H1 locs → W p l e R s m args below meth c H1 locs (cells + 1) (slots + N) Q (F0 m (pc + 3) ls (.ref (bb G + k) :: rest))) : W p l e R s m args below meth c H locs cells slots Q (F0 m pc ls (.int n :: rest)) := by
  obtain ⟨hx, hb, -, hown, hts, hT, -⟩ := hC
  subst hN
  refine W.anew hx hb hown (hts _ hclink) (va_AO.use hover) rfl hdg rfl hn hbytes hcells hslots fun cA1 kA comp f1 f2 f3 f4 => ?_
  obtain ⟨kA9, comp9, -, -, -, k4⟩ := (hT.1.2 t0 _ ht).2
  have hcA : cA1 = cA := Option.some.inj (f1.symm.trans k4)
  subst hcA
  have hz := hw.1
  generalize hH1 : H.push ({ cls := cA1, slots := Array.replicate n.toNatClampNeg .null, vm := .none } : Cell) = H1
  have z1 : H1.size = bb G + k + 1 := by rw [← hH1, Array.size_push, hz]
  have e1 : H1[bb G + k]? = some (arrV cA1 n.toNatClampNeg (fun _ => .null)) := by rw [← hz, ← hH1, Array.getElem?_push_size, ← arrV_new]
  have o1 : ∀ q : Nat, q < bb G + k → H1[q]? = H[q]? := fun q hq => by rw [← hH1, Array.getElem?_push, if_neg (by omega)]
  rw [hz]
  refine kk H1 (hw.push z1 o1 ?_) (hS.push hw.1 z1 o1)
  show H1[bb G + k]? = some (vp_cell _ _)
  rw [vp_cell_q]
  exact e1
theorem rc_get (hC : Cx p s m args c cc own nL G) (hw : Rw G k E H) {Cn : String} {T : u_T} {N ci index a : Nat} {fs : List Value} (hin : ∀ w ∈ u_ws Cn T N, w ∈ lw_g) (hc : vwCl[ci]? = some (Cn, T, N)) (ha : a < k) (he : E a = .inr (ci, fs)) (j : Nat) (hj : j < N) (hlink : Cond.fieldLink own index (T j).1 (T j).2.1 (T j).2.2.1 ∈ lw_g) {v : Value} (hv : fs[j]? = some v) (hdg : decode cc pc = .ok (.getfield index, 3))
    (kk : W p l e R s m args below meth c H locs cells slots Q (F0 m (pc + 3) ls (v :: rest))) : W p l e R s m args below meth c H locs cells slots Q (F0 m pc ls (.ref (bb G + a) :: rest)) :=
  va_get hC.1 hC.2.1 hC.2.2.2.2.1 hin hC.2.2.2.1 hC.2.2.2.2.2.1.1 (hw.one ha he) 0 rfl hc j hj (hC.2.2.2.2.1 _ hlink) (fun _ h => h) hv hdg kk
theorem rc_put (hC : Cx p s m args c cc own nL G) (hw : Rw G k E H) (hS : LW G s H locs) {Cn : String} {T : u_T} {N ci index a : Nat} {fs : List Value} (hin : ∀ w ∈ u_ws Cn T N, w ∈ lw_g) {ty0 : Nat → FieldType} (hty : ∀ k, k < N → parseFieldDescriptor (T k).2.2.1 = some (ty0 k)) (hnm : ∀ a, a < N → ∀ b, b < N → a ≠ b → (T a).2.1 ≠ (T b).2.1) (hc : vwCl[ci]? = some (Cn, T, N)) (ha : a < k) (he : E a = .inr (ci, fs)) (j : Nat) (hj : j < N) (hlink : Cond.fieldLink own index (T j).1 (T j).2.1 (T j).2.2.1 ∈ lw_g) (hfin : (T j).2.2.2 = false) {v : Value} (hn : narrow (ty0 j) v = v) (hfit : fits (ty0 j) v = true) (hl : j < fs.length) (hdg : decode cc pc = .ok (.putfield index, 3))
    (kk : ∀ (H1 : Heap) (locs1 : List Loc), Rw G k (ue E a (.inr (ci, fs.set j v))) H1 → LW G s H1 locs1 → W p l e R s m args below meth c H1 locs1 cells slots Q (F0 m (pc + 3) ls rest)) : W p l e R s m args below meth c H locs cells slots Q (F0 m pc ls (v :: .ref (bb G + a) :: rest)) := by
  obtain ⟨hx, hb, -, hown, hts, hT, -⟩ := hC
  have hK := hT.1
  have hap := va_apart (own := own) hts hin ty0 hty hnm hK hc
  obtain ⟨r, h1, cell, q1, q2, q3, q4⟩ := hw.one ha he 0 _ rfl
  have hr : r = (Cn, T, N) := Option.some.inj (h1.symm.trans hc)
  subst hr
  obtain ⟨hSl, hfc, kC, hkC, hkind⟩ := hK.1 ci _ hc
  obtain ⟨cf, kf, fi, f, hi, hsl⟩ := hSl j hj
  have hlay := hts _ (hin _ (u_in_lay hj))
  unfold u_lay at hlay
  rw [if_neg (by rw [hfin]; decide)] at hlay
  have hst := (u_facts hfc hkC (u_lays hts hin hj) hi).1
  have h6 := u_store hfc hkC hkind hlay hi (hty j hj) hn hfit
  refine W.putK hx hb (f := f) ⟨hown, hts _ hlink, ⟨_, _, _, hi⟩, hst⟩ (by rw [q2]; exact h6) q1 q3 (by rw [hsl]; exact k2_hasslot (q4 j hj)) rfl rfl hdg fun H' e1 e2 e3 => ?_
  rw [hsl] at e1 ⊢
  exact kk H' _ (hw.put e2 e3 ⟨_, hc, t_OB.to (V := updV (vp_V fs) j v) ⟨_, e1, q2, q3, t_set q4 hap hj v⟩ (fun i _ => vp_updV_set hl v i)⟩) (hS.put e2 e3 (Nat.le_add_right _ _))
theorem rc_putF (hC : Cx p s m args c cc own nL G) (hw : Rw G k E H) (hS : LW G s H locs) {Cn : String} {T : u_T} {N ci index a : Nat} {fs : List Value} (hin : ∀ w ∈ u_ws Cn T N, w ∈ lw_g) {ty0 : Nat → FieldType} (hty : ∀ k, k < N → parseFieldDescriptor (T k).2.2.1 = some (ty0 k)) (hnm : ∀ a, a < N → ∀ b, b < N → a ≠ b → (T a).2.1 ≠ (T b).2.1) (hc : vwCl[ci]? = some (Cn, T, N)) (ha : a < k) (he : E a = .inr (ci, fs)) (j : Nat) (hj : j < N) (hlink : Cond.fieldLink own index (T j).1 (T j).2.1 (T j).2.2.1 ∈ lw_g) (hfin : (T j).2.2.2 = true) (hin2 : meth.name = "<init>") (hdecl : (T j).1 = own) {v : Value} (hn : narrow (ty0 j) v = v) (hfit : fits (ty0 j) v = true) (hl : j < fs.length) (hdg : decode cc pc = .ok (.putfield index, 3))
    (kk : ∀ (H1 : Heap) (locs1 : List Loc), Rw G k (ue E a (.inr (ci, fs.set j v))) H1 → LW G s H1 locs1 → W p l e R s m args below meth c H1 locs1 cells slots Q (F0 m (pc + 3) ls rest)) : W p l e R s m args below meth c H locs cells slots Q (F0 m pc ls (v :: .ref (bb G + a) :: rest)) := by
  obtain ⟨hx, hb, -, hown, hts, hT, -⟩ := hC
  have hK := hT.1
  have hap := va_apart (own := own) hts hin ty0 hty hnm hK hc
  obtain ⟨r, h1, cell, q1, q2, q3, q4⟩ := hw.one ha he 0 _ rfl
  have hr : r = (Cn, T, N) := Option.some.inj (h1.symm.trans hc)
  subst hr
  obtain ⟨hSl, hfc, kC, hkC, hkind⟩ := hK.1 ci _ hc
  obtain ⟨cf, kf, fi, f, hi, hsl⟩ := hSl j hj
  have hlay := hts _ (hin _ (u_in_lay hj))
  unfold u_lay at hlay
  rw [if_pos hfin] at hlay
  have hst := (u_facts hfc hkC (u_lays hts hin hj) hi).1
  have hcf : m.cls = cf := by
    obtain ⟨_, _, c', _, _, _, -, -, hf', -, -, -, hown2, -⟩ := Cond.laysFinal_spec hlay
    have e1 : c' = cf := by have := hi.symm.trans hf'; simp at this; exact this.1.symm
    rw [hdecl] at hown2
    rw [← e1]; exact Option.some.inj (hown.symm.trans hown2)
  have h6 := u_fits hfc hkC hkind (Or.inr hlay) hi (hty j hj) hn hfit
  refine W.putFinK hx hb hown (hts _ hlink) hi hst hcf hin2 (by rw [q2]; exact h6) q1 q3 (by rw [hsl]; exact k2_hasslot (q4 j hj)) rfl rfl hdg fun H' e1 e2 e3 => ?_
  rw [hsl] at e1 ⊢
  exact kk H' _ (hw.put e2 e3 ⟨_, hc, t_OB.to (V := updV (vp_V fs) j v) ⟨_, e1, q2, q3, t_set q4 hap hj v⟩ (fun i _ => vp_updV_set hl v i)⟩) (hS.put e2 e3 (Nat.le_add_right _ _))
theorem rc_alen (hC : Cx p s m args c cc own nL G) (hw : Rw G k E H) {a t0 : Nat} {cA : ClassId} {ty : FieldType} {x : vp_A} (ha : a < k) (he : E a = .inl (cA, x)) (ht : (tysG G)[t0]? = some (cA, ty)) {v : Int32} (hv : Int32.ofNat x.1 = v) (hdg : decode cc pc = .ok (.arraylength, 1))
    (kk : W p l e R s m args below meth c H locs cells slots Q (F0 m (pc + 1) ls (.int v :: rest))) : W p l e R s m args below meth c H locs cells slots Q (F0 m pc ls (.ref (bb G + a) :: rest)) :=
  va_alen hC.1 hC.2.1 hC.2.2.2.2.2.1.1 (hw.one ha he) 0 t0 rfl ht hv hdg kk
theorem rc_iast (hC : Cx p s m args c cc own nL G) (hw : Rw G k E H) (hS : LW G s H locs) {a N : Nat} {f : Nat → Int32} (ha : a < k) (he : E a = .inl (G.2.1 0, N, .inl f)) {i x : Int32} (hin : vp_in i N) (hdg : decode cc pc = .ok (.iastore, 1))
    (kk : ∀ (H1 : Heap) (locs1 : List Loc), Rw G k (ue E a (.inl (G.2.1 0, N, .inl (upd f i.toNatClampNeg x)))) H1 → LW G s H1 locs1 → W p l e R s m args below meth c H1 locs1 cells slots Q (F0 m (pc + 1) ls rest)) : W p l e R s m args below meth c H locs cells slots Q (F0 m pc ls (.int x :: .int i :: .ref (bb G + a) :: rest)) := by
  obtain ⟨hx, hb, -, hown, hts, hT, -⟩ := hC
  refine W.iast hx hb (hw.one ha he 0 _ rfl) ((hT.1.2 0 _ rfl).1 N (fun j => .int (f j))) (fun q => by cases q) (by show ¬ (i < 0 ∨ (arrV _ _ _).slots.size ≤ _); rw [arrV_size]; exact hin) rfl rfl hdg fun H1 e1 z oq => ?_
  refine kk H1 _ (hw.put z oq ?_) (hS.put z oq (Nat.le_add_right _ _))
  show H1[_]? = some (vp_cell _ _)
  rw [e1, vp_cell_i, vp_cell_i, arrV_store]
  congr 2
  funext q
  by_cases hq : q = i.toNatClampNeg
  · subst hq
    simp [updV, upd]
  · simp [updV, upd, hq]
theorem rc_aast (hC : Cx p s m args c cc own nL G) (hw : Rw G k E H) (hS : LW G s H locs) {a N t0 ci v : Nat} {cA : ClassId} {r : vw_C} {vs : List Value} {f : Nat → Option Nat} (ha : a < k) (he : E a = .inl (cA, N, .inr (.inr (.inr (.inr f))))) (ht : (tysG G)[t0]? = some (cA, .object r.1)) (hv : v < k) (hve : E v = .inr (ci, vs)) (hc : vwCl[ci]? = some r) {i : Int32} (hin : vp_in i N) (hdg : decode cc pc = .ok (.aastore, 1))
    (kk : ∀ (H1 : Heap) (locs1 : List Loc), Rw G k (ue E a (.inl (cA, N, .inr (.inr (.inr (.inr (va_up f i.toNatClampNeg (some (bb G + v)))))))) ) H1 → LW G s H1 locs1 → W p l e R s m args below meth c H1 locs1 cells slots Q (F0 m (pc + 1) ls rest)) : W p l e R s m args below meth c H locs cells slots Q (F0 m pc ls (.ref (bb G + v) :: .int i :: .ref (bb G + a) :: rest)) := by
  obtain ⟨hx, hb, -, hown, hts, hT, -⟩ := hC
  have hlt : i.toNatClampNeg < N := Nat.not_le.mp fun q => hin (Or.inr q)
  have h0 : ¬ i < 0 := fun q => hin (Or.inl q)
  obtain ⟨r', hr', cellV, g1, g2, g3, -⟩ := hw.one hv hve 0 _ rfl
  have hcls := (hT.1.1 ci r hc).2
  obtain ⟨kA, comp, k1, k2, k3, -⟩ := (hT.1.2 t0 _ ht).2
  have hcomp : comp = G.1.1 ci := Option.some.inj (k3.symm.trans hcls.1)
  subst hcomp
  obtain ⟨kC, hkC, -⟩ := hcls.2
  refine W.aast hx hb (hw.one ha he 0 _ rfl) (fun q h => by cases h) (fun h => by cases h) k1 k2 rfl hkC ⟨h0, by show _ < (arrV _ _ _).slots.size; rw [arrV_size]; exact hlt⟩ g1 (fun q h => by rw [g3] at h; cases h) (by rw [g2]; exact hkC) (by rw [g2]; exact va_assign hcls) rfl rfl hdg fun H1 e1 z oq => ?_
  refine kk H1 _ (hw.put z oq ?_) (hS.put z oq (Nat.le_add_right _ _))
  show H1[_]? = some (vp_cell _ _)
  rw [e1, vp_cell_q, vp_cell_q, arrV_store]
  congr 2
  funext q
  by_cases hq : q = i.toNatClampNeg
  · subst hq
    simp [updV, va_up, va_rf]
  · simp [updV, va_up, hq]
variable {y : MethodName} {bytes : ByteArray} {maxL mc ms index k1 : Nat} {E1 : Nat → va_E} {rm : Room}
theorem LW.callR (hw : Rw G k E H) (hS : LW G s H locs) (hbs : bb G ≤ s.heap.size) {H1 : Heap} {L : List Loc} (h1 : Rw G k1 E1 H1) (hz : H.size ≤ H1.size) (hL : ∀ q ∈ L, frA G q.base) : LW G s H1 (locs ++ L) := by
  refine ⟨Nat.le_trans hS.1 hz, fun q hq hn => ?_, fun q hq => ?_⟩
  · have hb : q < bb G := Nat.not_le.mp hn
    rw [h1.2.1 q hb, ← hw.2.1 q hb]
    exact hS.2.1 q hq hn
  · rcases List.mem_append.mp hq with h | h
    · exact hS.2.2 q h
    · exact hL q h
theorem m_callI (hr : va_Run p l e R s m args below meth c H locs cells slots mc ms (F0 m pc ls st0) rest (QI G k1 E1 a) (frA G)) (hC : Cx p s m args c cc own nL G) (hw : Rw G k E H) (hS : LW G s H locs)
    (kk : ∀ (H1 : Heap) (locs1 : List Loc), Rw G k1 E1 H1 → LW G s H1 locs1 → W p l e R s m args below meth c H1 locs1 (cells + mc) (slots + ms) Q (F0 m (pc + 3) ls rest)) : W p l e R s m args below meth c H locs cells slots Q (F0 m pc ls st0) := by
  intro T hT X
  obtain ⟨v, st₀, t, T', L, h0, X', hL, e1, e2, ⟨hv, hwd, hz⟩, st⟩ := hr T hT X
  cases hv
  rw [h0, ← e1] at hz
  rw [← e1] at hwd
  obtain ⟨t2, a1, b1⟩ := kk T'.heap (locs ++ L) hwd (hS.callR hw hC.2.2.2.2.2.2.1 hwd hz hL) T' rfl X'
  exact ⟨t2, st t2 a1, b1⟩
theorem rc_init {a0 : Nat} (hC : Cx p s m args c cc own nL G) (hI : TI s) (hM : CtI l y bytes maxL rm mc ms G k E a0 k1 E1) (hV : WI own index y bytes maxL) (hR : rm.cells = mc ∧ rm.slots = ms ∧ rm.frames + 1 ≤ R.frames ∧ 8 + (maxL + 11) + rm.locals ≤ R.locals) (hw : Rw G k E H) (hS : LW G s H locs) (hls : ls.size = nL) (hWd : (rest.map fun v => v.category).sum ≤ 8) (hdg : decode cc pc = .ok (.invokespecial index, 3)) (hf : cells + mc ≤ R.cells ∧ slots + ms ≤ R.slots)
    (kk : ∀ (H1 : Heap) (locs1 : List Loc), Rw G k1 E1 H1 → LW G s H1 locs1 → W p l e R s m args below meth c H1 locs1 (cells + mc) (slots + ms) Q (F0 m (pc + 3) ls rest)) : W p l e R s m args below meth c H locs cells slots Q (F0 m pc ls (.ref (bb G + a0) :: rest)) := by
  obtain ⟨h1, h2, h4, h5, h6, h7, h8⟩ := hV
  have h := hC.2.2.2.2.1
  refine m_callI (va_runI (As := []) (rest := rest) ⟨hC.1, hC.2.1, hC.2.2.1, hC.2.2.2.1, h⟩ hM ⟨⟨hR.1, hR.2.1, hR.2.2.1, hR.2.2.2, fun w hw => ?_, List.mem_cons_self, h _ h5, h _ h4, h6, fun sig hs => ?_, h _ h1⟩, h8, h _ h2⟩ ⟨PI.blind, fun U hU hW => ⟨rfl, by rw [hU]; exact hw, hC.2.2.2.2.2.1.warm hW, hI.warm hW⟩⟩ rfl rfl hls rfl (lv_room hWd) hdg hf) hC hw hS kk
  · rcases List.mem_cons.mp hw with rfl | hw
    · exact lg_warm h _ h5
    · exact lg_warm h _ hw
  · rw [hs] at h7
    exact (Option.some.inj h7).symm
theorem rc_initN {a0 : Nat} (hC : Cx p s m args c cc own nL G) (hI : TI s) (hM : CtI l y bytes maxL rm mc ms G k E a0 k1 E1) (hV : WN own index y bytes maxL) (hR : rm.cells = mc ∧ rm.slots = ms ∧ rm.frames + 1 ≤ R.frames ∧ 8 + (maxL + 11) + rm.locals ≤ R.locals) (hw : Rw G k E H) (hS : LW G s H locs) (hls : ls.size = nL) (hWd : (rest.map fun v => v.category).sum ≤ 8) (hdg : decode cc pc = .ok (.invokespecial index, 3)) (hf : cells + mc ≤ R.cells ∧ slots + ms ≤ R.slots)
    (kk : ∀ (H1 : Heap) (locs1 : List Loc), Rw G k1 E1 H1 → LW G s H1 locs1 → W p l e R s m args below meth c H1 locs1 (cells + mc) (slots + ms) Q (F0 m (pc + 3) ls rest)) : W p l e R s m args below meth c H locs cells slots Q (F0 m pc ls (.ref (bb G + a0) :: rest)) := by
  obtain ⟨h1, h2, h4, h5, h6, h7, h8⟩ := hV
  have h := hC.2.2.2.2.1
  refine m_callI (va_runIN (host := RX8) (As := []) (rest := rest) ⟨hC.1, hC.2.1, hC.2.2.1, hC.2.2.2.1, h⟩ hM ⟨⟨⟨hR.1, hR.2.1, hR.2.2.1, hR.2.2.2, fun w hw => ?_, List.mem_cons_self⟩, h _ h5, h _ h4, h6, fun sig hs => ?_, va_Nw.use rfl (hI.1 _ h1)⟩, h8, h _ h2⟩ ⟨PI.blind, fun U hU hW => ⟨rfl, by rw [hU]; exact hw, hC.2.2.2.2.2.1.warm hW, hI.warm hW⟩⟩ rfl rfl hls rfl (lv_room hWd) hdg hf) hC hw hS kk
  · rcases List.mem_cons.mp hw with rfl | hw
    · exact lg_warm h _ h5
    · exact lg_warm h _ hw
  · rw [hs] at h7
    exact (Option.some.inj h7).symm
/-- a plain method called while the world is being made -/
theorem rc_callV {a0 ci N : Nat} {T : u_T} {fs : List Value} (hC : Cx p s m args c cc own nL G) (hI : TI s) (hM : CtI l y bytes maxL rm mc ms G k E a0 k1 E1) (hV : WV own index y bytes maxL none 0) (hR : rm.cells = mc ∧ rm.slots = ms ∧ rm.frames + 1 ≤ R.frames ∧ 8 + (maxL + 11) + rm.locals ≤ R.locals) (hw : Rw G k E H) (hS : LW G s H locs) (ha : a0 < k) (he : E a0 = .inr (ci, fs)) (hc : vwCl[ci]? = some (y.cls, T, N)) (hls : ls.size = nL) (hWd : (rest.map fun v => v.category).sum ≤ 8) (hdg : decode cc pc = .ok (.invokevirtual index, 3)) (hf : cells + mc ≤ R.cells ∧ slots + ms ≤ R.slots)
    (kk : ∀ (H1 : Heap) (locs1 : List Loc), Rw G k1 E1 H1 → LW G s H1 locs1 → W p l e R s m args below meth c H1 locs1 (cells + mc) (slots + ms) Q (F0 m (pc + 3) ls rest)) : W p l e R s m args below meth c H locs cells slots Q (F0 m pc ls (.ref (bb G + a0) :: rest)) := by
  have hK := va_recv hC.2.2.2.2.2.1.1 (hw.one ha he) (q0 := 0) hc rfl
  exact m_callI (va_runV (As := []) (rest := rest) ⟨hC.1, hC.2.1, hC.2.2.1, hC.2.2.2.1, hC.2.2.2.2.1⟩ hM (hV.b hC.2.2.2.2.1 hR) ⟨PI.blind, hK, fun U hU hW => ⟨rfl, by rw [hU]; exact hw, hC.2.2.2.2.2.1.warm hW, hI.warm hW⟩⟩ rfl rfl hls rfl (lv_room hWd) hdg hf) hC hw hS kk
theorem m_vretI (hC : Cx p s m args c cc own nL G) (hr : meth.sig.returnType = none) (hlocks : meth.locks = false) (hw : Rw G k E H) (hS : LW G s H locs) (hE : ∀ a, a < k → ∀ H : Heap, va_at G.1 vwCl (bb G + a, E a) H → va_at G.1 vwCl (bb G + a, E1 a) H) (hdg : decode cc pc = .ok (.return_, 1)) : W p l e R s m args below meth c H locs cells slots (MQ below (QI G k E1) args s cells slots (frA G)) (F0 m pc ls []) :=
  W.vret hC.1 hC.2.1 hr (fun t ht _ => ⟨rfl, by rw [ht]; exact hw.ext (fun a ha => hE a ha H), by rw [ht]; exact hS.1⟩) hS.2.2 hdg
def OI (own : String) (index : Nat) : Prop := Cond.methodLink own index objectInit ∈ lw_g ∧ Cond.instanceMethod objectInit ∈ lw_g ∧ Cond.code objectInit ⟨#[0xb1]⟩ 1 none ∈ lw_g
theorem rc_obj (hC : Cx p s m args c cc own nL G) (hO : OI own index) (hls : ls.size = nL) {b : Nat} (hdg : decode cc pc = .ok (.invokespecial index, 3)) (hRf : 1 ≤ R.frames) (hRl : (rest.map fun v => v.category).sum + 12 ≤ R.locals)
    (kk : W p l e R s m args below meth c H locs cells slots Q (F0 m (pc + 3) ls rest)) : W p l e R s m args below meth c H locs cells slots Q (F0 m pc ls (.ref b :: rest)) :=
  W.objInit hC.1 hC.2.1 hC.2.2.2.1 (hC.2.2.2.2.1 _ hO.1) (hC.2.2.2.2.1 _ hO.2.1) (hC.2.2.2.2.1 _ hO.2.2) rfl (hls.trans hC.2.2.1.symm) rfl hdg hRf (by show 0 + _ + 12 ≤ _; omega) kk
end RAWC
