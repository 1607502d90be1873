/-! walks of the law's own methods: one object or two, rows of numbers beside them; every call is taken over the heap of the moment, and says that all else stays -/
abbrev gP (G : GG) (H : Heap) : GG := (G.1, G.2.1, H, G.2.2.2.1, bb G)
abbrev gQ (G : GG) (H : Heap) : GG := (G.1, G.2.1, H, G.2.2.2.1, bb G + 244)
/-- what isn't an object's, from b on, stays -/
def Kp (b : Nat) (H H1 : Heap) : Prop := H.size ≤ H1.size ∧ ∀ q, q < H.size → (q < b ∨ b + 244 ≤ q) → H1[q]? = H[q]?
/-- the second object -/
def Oq (G : GG) (D : Mem) (H : Heap) : Prop := bb G + 488 ≤ H.size ∧ ∀ a, a < 244 → va_at G.1 vwCl (bb G + 244 + a, cellAt (gQ G G.2.2.1) D a) H
/-- a row of N numbers beside the objects -/
def Row (G : GG) (n ra N : Nat) (f : Nat → Int32) (H : Heap) : Prop := bb G + n ≤ ra ∧ va_P G.1 vwCl [(ra, .inl (G.2.1 0, N, .inl (tr N f)))] H
theorem plantC_b (g1 : va_G) (g2 : Nat → ClassId) (g3 h3 : Heap) (g4 : Nat → Nat) (g5 o : Nat) (y : Nat → Int32) (j : Nat) : plantC (g1, g2, g3, g4, g5) o y j = plantC (g1, g2, h3, g4, g5) o y j := by
  match j with
  | 0 => rfl
  | 1 => rfl
  | 2 => rfl
  | 3 => rfl
  | 4 => rfl
  | 5 => rfl
  | 6 => rfl
  | 7 => rfl
  | i + 8 => rfl
theorem fixA_b (g1 : va_G) (g2 : Nat → ClassId) (g3 h3 : Heap) (g4 : Nat → Nat) (g5 : Nat) (C : Mem) (j : Nat) : fixA (g1, g2, g3, g4, g5) C j = fixA (g1, g2, h3, g4, g5) C j := by
  match j with
  | 0 => rfl
  | 1 => rfl
  | 2 => rfl
  | 3 => rfl
  | 4 => rfl
  | i + 5 => rfl
theorem fixB_b (g1 : va_G) (g2 : Nat → ClassId) (g3 h3 : Heap) (g4 : Nat → Nat) (g5 : Nat) (C : Mem) (j : Nat) : fixB (g1, g2, g3, g4, g5) C j = fixB (g1, g2, h3, g4, g5) C j := by
  unfold fixB
  rfl
theorem cell_b (g1 : va_G) (g2 : Nat → ClassId) (g3 h3 : Heap) (g4 : Nat → Nat) (g5 : Nat) (C : Mem) (a : Nat) : cellAt (g1, g2, g3, g4, g5) C a = cellAt (g1, g2, h3, g4, g5) C a := by
  unfold cellAt
  simp only [plantC_b g1 g2 g3 h3 g4 g5, fixA_b g1 g2 g3 h3 g4 g5, fixB_b g1 g2 g3 h3 g4 g5]
theorem cell_gP (G : GG) (H : Heap) (C : Mem) (a : Nat) : cellAt (gP G H) C a = cellAt G C a := cell_b G.1 G.2.1 H G.2.2.1 G.2.2.2.1 (bb G) C a
theorem cell_gQ (G : GG) (H H1 : Heap) (C : Mem) (a : Nat) : cellAt (gQ G H) C a = cellAt (gQ G H1) C a := cell_b G.1 G.2.1 H H1 G.2.2.2.1 (bb G + 244) C a
theorem at_gP {G : GG} {H H0 : Heap} {C : Mem} {a : Nat} : va_at (gP G H).1 vwCl (bb (gP G H) + a, cellAt (gP G H) C a) H0 ↔ va_at G.1 vwCl (bb G + a, cellAt G C a) H0 := by
  rw [cell_gP]
theorem at_gQ {G : GG} {H H1 H0 : Heap} {C : Mem} {a : Nat} : va_at (gQ G H).1 vwCl (bb (gQ G H) + a, cellAt (gQ G H) C a) H0 ↔ va_at G.1 vwCl (bb G + 244 + a, cellAt (gQ G H1) C a) H0 := by
  rw [cell_gQ G H H1]
theorem Oq.kp {G : GG} {D : Mem} {H H1 : Heap} (h : Oq G D H) (hk : Kp (bb G) H H1) : Oq G D H1 :=
  ⟨Nat.le_trans h.1 hk.1, fun a ha => (h.2 a ha).kept (hk.2 _ (by have := h.1; simp only; omega) (Or.inr (by simp only; omega)))⟩
theorem Wd.kq {G : GG} {C : Mem} {H H1 : Heap} (h : Wd G 244 C H) (hk : Kp (bb G + 244) H H1) : Wd G 244 C H1 :=
  ⟨Nat.le_trans h.1 hk.1, fun a ha h2 => (hk.2 a (by have := h.1; omega) (Or.inl ha)).trans (h.2.1 a ha h2), fun a ha h2 => (h.2.2 a ha h2).kept (hk.2 _ (by have := h.1; simp only; omega) (Or.inl (by simp only; omega)))⟩
theorem Row.lt {G : GG} {n ra N : Nat} {f : Nat → Int32} {H : Heap} (h : Row G n ra N f H) : ra < H.size := by
  have h1 : H[ra]? = some (vp_cell _ _) := h.2 0 _ rfl
  exact (Array.getElem?_eq_some_iff.mp h1).1
theorem Row.kp {G : GG} {n ra N : Nat} {f : Nat → Int32} {H H1 : Heap} (h : Row G n ra N f H) (hn : 244 ≤ n) (hk : Kp (bb G) H H1) : Row G n ra N f H1 := by
  refine ⟨h.1, fun k q hq => ?_⟩
  have e := h.2 k q hq
  match k, hq with
  | 0, hq =>
    cases hq
    exact va_at.kept e (hk.2 _ h.lt (Or.inr (by have := h.1; simp only; omega)))
theorem Wd.p {G : GG} {n : Nat} {C : Mem} {H : Heap} (hw : Wd G n C H) (hn : 244 ≤ n) : Wd (gP G H) (H.size - bb G) C H :=
  ⟨by have := hw.1; show bb G + (H.size - bb G) ≤ H.size; omega, fun _ _ _ => rfl, fun a _ h => at_gP.mpr (hw.2.2 a (by omega) h)⟩
theorem Wd.lp {G : GG} {n : Nat} {C : Mem} {H : Heap} (hw : Wd G n C H) (hn : 244 ≤ n) : 244 ≤ H.size - bb G := by have := hw.1; omega
theorem Wd.bp {G : GG} {n : Nat} {C C1 : Mem} {H H1 : Heap} (hw : Wd G n C H) (hn : 244 ≤ n) (h1 : Wd (gP G H) (H.size - bb G) C1 H1) : Wd G n C1 H1 ∧ Kp (bb G) H H1 := by
  have hs := hw.1
  have hs1 : bb G + (H.size - bb G) ≤ H1.size := h1.1
  have out : ∀ q, q < H.size → (q < bb G ∨ bb G + 244 ≤ q) → H1[q]? = H[q]? := fun q hq h => h1.2.1 q (by show q < bb G + (H.size - bb G); omega) h
  exact ⟨⟨by omega, fun a ha h => (out a (by omega) h).trans (hw.2.1 a ha h), fun a _ h => at_gP.mp (h1.2.2 a (by omega) h)⟩, by omega, out⟩
theorem Oq.q {G : GG} {D : Mem} {H : Heap} (hq : Oq G D H) : Wd (gQ G H) (H.size - (bb G + 244)) D H :=
  ⟨by have := hq.1; show bb G + 244 + (H.size - (bb G + 244)) ≤ H.size; omega, fun _ _ _ => rfl, fun a _ h => at_gQ.mpr (hq.2 a h)⟩
theorem Oq.lq {G : GG} {D : Mem} {H : Heap} (hq : Oq G D H) : 244 ≤ H.size - (bb G + 244) := by have := hq.1; omega
theorem Oq.bq {G : GG} {D D1 : Mem} {H H1 : Heap} (hq : Oq G D H) (h1 : Wd (gQ G H) (H.size - (bb G + 244)) D1 H1) : Oq G D1 H1 ∧ Kp (bb G + 244) H H1 := by
  have hs := hq.1
  have hs1 : bb G + 244 + (H.size - (bb G + 244)) ≤ H1.size := h1.1
  exact ⟨⟨by omega, fun a h => at_gQ.mp (h1.2.2 a (by omega) h)⟩, by omega, fun q hq' h => h1.2.1 q (by show q < bb G + 244 + (H.size - (bb G + 244)); omega) h⟩
theorem stZ.re {G G' : GG} {U : State} {n : String} {i : Nat} {k : Nat → Int32} (h : stZ G U n i k) (e : G'.2.2.2.1 = G.2.2.2.1) (hb : bb G ≤ bb G') (hh : ∀ a, a < bb G → G'.2.2.1[a]? = G.2.2.1[a]?) : stZ G' U n i k := by
  have hA : ∀ q, frA G' q → frA G q := fun q hq => Nat.le_trans hb hq
  refine ⟨?_, ?_⟩
  · rw [e]
    exact va_Z.narrow (va_Z.kept h.1 (fun a _ ha => hh a (Nat.not_le.mp ha))) hA
  · rw [e]
    exact va_T.narrow (va_T.kept h.2 (fun a _ ha => hh a (Nat.not_le.mp ha))) hA
theorem TT.p {G : GG} {U : State} {H : Heap} (hT : TT G U) (hh : ∀ a, a < bb G → H[a]? = G.2.2.1[a]?) : TT (gP G H) U := by
  obtain ⟨h1, h2, h3, h4, h5, h6, hr⟩ := hT
  exact ⟨h1, h2.re rfl (Nat.le_refl _) hh, h3.re rfl (Nat.le_refl _) hh, h4.re rfl (Nat.le_refl _) hh, vx_Zq.kept h5 (fun a _ ha => hh a (Nat.not_le.mp ha)), vx_Zq.kept h6 (fun a _ ha => hh a (Nat.not_le.mp ha)), hr⟩
theorem TT.q {G : GG} {U : State} {H : Heap} (hT : TT G U) (hh : ∀ a, a < bb G → H[a]? = G.2.2.1[a]?) : TT (gQ G H) U := by
  obtain ⟨h1, h2, h3, h4, h5, h6, hr⟩ := hT
  have hA : ∀ q, frA (gQ G H) q → frA G q := fun q hq => Nat.le_trans (Nat.le_add_right (bb G) 244) hq
  exact ⟨h1, h2.re rfl (Nat.le_add_right _ _) hh, h3.re rfl (Nat.le_add_right _ _) hh, h4.re rfl (Nat.le_add_right _ _) hh, (vx_Zq.kept h5 (fun a _ ha => hh a (Nat.not_le.mp ha))).narrow hA, (vx_Zq.kept h6 (fun a _ ha => hh a (Nat.not_le.mp ha))).narrow hA, hr⟩
/-- it returns, its cells counted -/
def CtN (l : Launch) (y : MethodName) (bytes : ByteArray) (maxL : Nat) (ret : Option FieldType) (rm : Room) (mc ms : Nat) (G : GG) (n : Nat) (C : Mem) (av : List Value) (r : Option Value) (C1 : Mem) : Prop := Met l y (wsG y bytes maxL ret) rm (PC G n C av) (QR G n r C1) mc ms (frA G)
theorem CtN.of {l : Launch} {y : MethodName} {cc : ByteArray} {maxL mc ms : Nat} {ret : Option FieldType} {rm : Room} {G : GG} {n : Nat} {C C1 : Mem} {av : List Value} {r : Option Value} (hy : plainName y.cls = true) (hN : (lg_sl av).length ≤ maxL)
    (body : ∀ (p : Program) (e : Env) (s : State) (m : MethodId) (below : List Frame) (meth : Method) (c : Code) (ls : Array Slot), Cx p s m av.toArray c cc y.cls maxL G → meth.sig.returnType = ret → meth.locks = false → Wd G n C s.heap → lv_has ls maxL (lv_args 0 av) →
      W p l e rm s m av.toArray below meth c s.heap [] 0 0 (MQ below (QR G n r C1) av.toArray s mc ms (frA G)) (F0 m 0 ls [])) : CtN l y cc maxL ret rm mc ms G n C av r C1 := by
  refine Met.ofW (cc := cc) (maxL := maxL) (ret := ret) hy rfl ?_
  intro p e s m args below meth c s₁ B hml hv
  obtain ⟨rfl, hwd, hT⟩ := hv
  have hl := lv_entry av (n := maxL) hN
  rw [lg_entry_eq]
  generalize (lg_sl av ++ List.replicate (maxL - (lg_sl av).length) Slot.unset).toArray = ls at hl ⊢
  exact body p e s m below meth c ls ⟨B.exec, B.bytes, hml, findClass_of_methodNamed B.named, fun w hw => atoms_spec (ws := wsG y cc maxL ret) B.pre w (List.mem_cons_of_mem _ hw), hT, Nat.le_trans (Nat.le_add_right _ _) hwd.1, fun _ h => hwd.ah h⟩ B.returns B.notSynchronized hwd hl
/-- two objects, and the script ahead of them -/
def PC2 (G : GG) (b L : Nat) (xs : Nat → Int32) (C D : Mem) (av : List Value) : Array Value → State → Prop := fun v U => v = av.toArray ∧ Wd G 244 C U.heap ∧ Oq G D U.heap ∧ TT G U ∧ va_X b L xs U U.heap
theorem PC2.blind {G : GG} {b L : Nat} {xs : Nat → Int32} {C D : Mem} {av : List Value} : FrameBlind (PC2 G b L xs C D av) := fun _ U g mk h => ⟨h.1, h.2.1, h.2.2.1, TT.warm (s := U) (U := U.calling g mk _) (State.WarmedH.refl U) h.2.2.2.1, va_X.moved (u := U) (U := U.calling g mk _) (State.WarmedH.refl U).alike h.2.2.2.2⟩
def QR2 (G : GG) (r : Option Value) (C1 D1 : Mem) : Array Value → State → Outcome → State → Prop := fun _ st o t => o = .returned r ∧ Wd G 244 C1 t.heap ∧ Oq G D1 t.heap ∧ st.heap.size ≤ t.heap.size
def Ct2 (l : Launch) (y : MethodName) (bytes : ByteArray) (maxL : Nat) (ret : Option FieldType) (rm : Room) (mc ms : Nat) (G : GG) (b L : Nat) (xs : Nat → Int32) (C D : Mem) (av : List Value) (r : Option Value) (C1 D1 : Mem) : Prop := Met l y (wsG y bytes maxL ret) rm (PC2 G b L xs C D av) (QR2 G r C1 D1) mc ms (frA G)
theorem Ct2.of {l : Launch} {y : MethodName} {cc : ByteArray} {maxL mc ms : Nat} {ret : Option FieldType} {rm : Room} {G : GG} {b L : Nat} {xs : Nat → Int32} {C D C1 D1 : Mem} {av : List Value} {r : Option Value} (hy : plainName y.cls = true) (hN : (lg_sl av).length ≤ maxL)
    (body : ∀ (p : Program) (e : Env) (s : State) (m : MethodId) (below : List Frame) (meth : Method) (c : Code) (ls : Array Slot), Cx p s m av.toArray c cc y.cls maxL G → meth.sig.returnType = ret → meth.locks = false → va_X b L xs s s.heap → Wd G 244 C s.heap → Oq G D s.heap → lv_has ls maxL (lv_args 0 av) →
      W p l e rm s m av.toArray below meth c s.heap [] 0 0 (MQ below (QR2 G r C1 D1) av.toArray s mc ms (frA G)) (F0 m 0 ls [])) : Ct2 l y cc maxL ret rm mc ms G b L xs C D av r C1 D1 := by
  refine Met.ofW (cc := cc) (maxL := maxL) (ret := ret) hy rfl ?_
  intro p e s m args below meth c s₁ B hml hv
  obtain ⟨rfl, hwd, hq, hT, hX⟩ := hv
  have hl := lv_entry av (n := maxL) hN
  rw [lg_entry_eq]
  generalize (lg_sl av ++ List.replicate (maxL - (lg_sl av).length) Slot.unset).toArray = ls at hl ⊢
  exact body p e s m below meth c ls ⟨B.exec, B.bytes, hml, findClass_of_methodNamed B.named, fun w hw => atoms_spec (ws := wsG y cc maxL ret) B.pre w (List.mem_cons_of_mem _ hw), hT, Nat.le_trans (Nat.le_add_right _ _) hwd.1, fun _ h => hwd.ah h⟩ B.returns B.notSynchronized hX hwd hq hl
theorem arrV_congr {cI : ClassId} {N : Nat} {f g : Nat → Value} (h : ∀ j, j < N → f j = g j) : arrV cI N f = arrV cI N g := by
  unfold arrV
  congr 1
  exact congrArg _ (funext fun j => h j.val j.isLt)
section TWO
variable {p : Program} {l : Launch} {e : Env} {R : Room} {s : State} {m : MethodId} {args : Array Value} {below : List Frame} {meth : Method} {c : Code} {H : Heap} {locs : List Loc} {cells slots : Nat} {Q : State → Prop}
variable {cc : ByteArray} {pc : Nat} {ls : Array Slot} {rest st0 As : List Value} {own : String} {nL : Nat} {G : GG} {n : Nat} {C C1 D D1 : Mem} {index na mc ms maxL : Nat} {y : MethodName} {bytes : ByteArray} {ret : Option FieldType} {hh : List (Nat × Nat × Nat × Nat)} {rm : Room} {a : Array Value} {b L : Nat} {xs : Nat → Int32}
theorem Cx.lo (hC : Cx p s m args c cc own nL G) (hw : Wd G n C H) : ∀ a, a < bb G → H[a]? = G.2.2.1[a]? := fun _ h => hw.ah h
theorem LW.callE (hC : Cx p s m args c cc own nL G) (hS : LW G s H locs) {H1 : Heap} {L : List Loc} {b : Nat} (hb : bb G ≤ b) (hk : Kp b H H1) (hL : ∀ q ∈ L, bb G ≤ q.base) : LW G s H1 (locs ++ L) := by
  refine ⟨Nat.le_trans hS.1 hk.1, fun q hq hn => ?_, fun q hq => ?_⟩
  · have hb' : q < bb G := Nat.not_le.mp hn
    rw [hk.2 q (by have := hS.1; omega) (Or.inl (by omega))]
    exact hS.2.1 q hq hn
  · rcases List.mem_append.mp hq with h | h
    · exact hS.2.2 q h
    · exact hL q h
theorem m_callE {r : Option Value} (hr : va_Run p l e R s m args below meth c H locs cells slots mc ms (F0 m pc ls st0) rest (QR (gP G H) (H.size - bb G) r C1 a) (frA (gP G H))) (hC : Cx p s m args c cc own nL G) (hw : Wd G n C H) (hn : 244 ≤ n) (hS : LW G s H locs)
    (kk : ∀ (H1 : Heap) (locs1 : List Loc), Wd G n C1 H1 → LW G s H1 locs1 → Kp (bb G) H H1 → W p l e R s m args below meth c H1 locs1 (cells + mc) (slots + ms) Q (F0 m (pc + 3) ls (r.toList ++ rest))) : W p l e R s m args below meth c H locs cells slots Q (F0 m pc ls st0) := by
  intro T hT X
  obtain ⟨v, st₀, t, T', L, h0, X', hL, e1, e2, ⟨hv, hwd, hz⟩, st⟩ := hr T hT X
  cases hv
  rw [← e1] at hwd
  obtain ⟨hw1, hk⟩ := hw.bp hn hwd
  obtain ⟨t2, a1, b1⟩ := kk T'.heap (locs ++ L) hw1 (hS.callE hC (Nat.le_refl _) hk hL) hk T' rfl X'
  exact ⟨t2, st t2 a1, b1⟩
theorem m_callQ {r : Option Value} (hr : va_Run p l e R s m args below meth c H locs cells slots mc ms (F0 m pc ls st0) rest (QR (gQ G H) (H.size - (bb G + 244)) r D1 a) (frA (gQ G H))) (hC : Cx p s m args c cc own nL G) (hq : Oq G D H) (hS : LW G s H locs)
    (kk : ∀ (H1 : Heap) (locs1 : List Loc), Oq G D1 H1 → LW G s H1 locs1 → Kp (bb G + 244) H H1 → W p l e R s m args below meth c H1 locs1 (cells + mc) (slots + ms) Q (F0 m (pc + 3) ls (r.toList ++ rest))) : W p l e R s m args below meth c H locs cells slots Q (F0 m pc ls st0) := by
  intro T hT X
  obtain ⟨v, st₀, t, T', L, h0, X', hL, e1, e2, ⟨hv, hwd, hz⟩, st⟩ := hr T hT X
  cases hv
  rw [← e1] at hwd
  obtain ⟨hq1, hk⟩ := hq.bq hwd
  obtain ⟨t2, a1, b1⟩ := kk T'.heap (locs ++ L) hq1 (hS.callE hC (Nat.le_add_right _ _) hk (fun q h => Nat.le_trans (Nat.le_add_right _ _) (hL q h))) hk T' rfl X'
  exact ⟨t2, st t2 a1, b1⟩
theorem m_call2 {r : Option Value} (hr : va_Run p l e R s m args below meth c H locs cells slots mc ms (F0 m pc ls st0) rest (QR2 G r C1 D1 a) (frA G)) (hC : Cx p s m args c cc own nL G) (hw : Wd G 244 C H) (hS : LW G s H locs)
    (kk : ∀ (H1 : Heap) (locs1 : List Loc), Wd G 244 C1 H1 → Oq G D1 H1 → LW G s H1 locs1 → W p l e R s m args below meth c H1 locs1 (cells + mc) (slots + ms) Q (F0 m (pc + 3) ls (r.toList ++ rest))) : W p l e R s m args below meth c H locs cells slots Q (F0 m pc ls st0) := by
  intro T hT X
  obtain ⟨v, st₀, t, T', L, h0, X', hL, e1, e2, ⟨hv, hwd, hq, hz⟩, st⟩ := hr T hT X
  cases hv
  rw [h0, ← e1] at hz
  rw [← e1] at hwd hq
  obtain ⟨t2, a1, b1⟩ := kk T'.heap (locs ++ L) hwd hq (hS.call hw hC.2.2.2.2.2.2.1 hwd hz hL) T' rfl X'
  exact ⟨t2, st t2 a1, b1⟩
theorem m_callWE {v : Int32} (hr : vx_Run p l e R s m args below meth c H locs cells slots mc ms (F0 m pc ls st0) rest (QX (gP G H) (H.size - bb G) (fun v => some (.int v)) (.inl v) C1 a) (XX (gP G H) (H.size - bb G) (.inl v) C1) (frA (gP G H))) (hC : Cx p s m args c cc own nL G) (hw : Wd G n C H) (hn : 244 ≤ n) (hS : LW G s H locs)
    (kk : ∀ (H1 : Heap) (locs1 : List Loc), Wd G n C1 H1 → LW G s H1 locs1 → Kp (bb G) H H1 → W p l e R s m args below meth c H1 locs1 (cells + mc) (slots + ms) Q (F0 m (pc + 3) ls (.int v :: rest))) : W p l e R s m args below meth c H locs cells slots Q (F0 m pc ls st0) := by
  intro T hT X
  rcases hr T hT X with ⟨v', st₀, t, T', L, h0, X', hL, e1, e2, ⟨x, hx, hv, hwd, hz⟩, st⟩ | ⟨q, st₀, t, T', L, E, ce, h0, X', hL, e1, e2, ⟨k, hk, k1, k2, hE, hwd, hz⟩, hce, hcv, hcl, st⟩
  · cases hx
    cases hv
    rw [← e1] at hwd
    obtain ⟨hw1, hk⟩ := hw.bp hn hwd
    obtain ⟨t2, a1, b1⟩ := kk T'.heap (locs ++ L) hw1 (hS.callE hC (Nat.le_refl _) hk hL) hk T' rfl X'
    exact ⟨t2, st t2 a1, b1⟩
  · cases hk
theorem m_callWQ {v : Int32} (hr : vx_Run p l e R s m args below meth c H locs cells slots mc ms (F0 m pc ls st0) rest (QX (gQ G H) (H.size - (bb G + 244)) (fun v => some (.int v)) (.inl v) D1 a) (XX (gQ G H) (H.size - (bb G + 244)) (.inl v) D1) (frA (gQ G H))) (hC : Cx p s m args c cc own nL G) (hq : Oq G D H) (hS : LW G s H locs)
    (kk : ∀ (H1 : Heap) (locs1 : List Loc), Oq G D1 H1 → LW G s H1 locs1 → Kp (bb G + 244) H H1 → W p l e R s m args below meth c H1 locs1 (cells + mc) (slots + ms) Q (F0 m (pc + 3) ls (.int v :: rest))) : W p l e R s m args below meth c H locs cells slots Q (F0 m pc ls st0) := by
  intro T hT X
  rcases hr T hT X with ⟨v', st₀, t, T', L, h0, X', hL, e1, e2, ⟨x, hx, hv, hwd, hz⟩, st⟩ | ⟨q, st₀, t, T', L, E, ce, h0, X', hL, e1, e2, ⟨k, hk, k1, k2, hE, hwd, hz⟩, hce, hcv, hcl, st⟩
  · cases hx
    cases hv
    rw [← e1] at hwd
    obtain ⟨hq1, hk⟩ := hq.bq hwd
    obtain ⟨t2, a1, b1⟩ := kk T'.heap (locs ++ L) hq1 (hS.callE hC (Nat.le_add_right _ _) hk (fun q h => Nat.le_trans (Nat.le_add_right _ _) (hL q h))) hk T' rfl X'
    exact ⟨t2, st t2 a1, b1⟩
  · cases hk
/-! calls: of a method of the law, of one with a table of its own, of a method of the class; on the first object, on the second; of a method of two -/
theorem call_SNE (hC : Cx p s m args c cc own nL G) {v : Int32} (hM : CtN l y bytes maxL ret rm mc ms (gP G H) (H.size - bb G) C As (some (.int v)) C1) (hV : WS own index y bytes maxL ret na) (hR : rm.cells = mc ∧ rm.slots = ms ∧ rm.frames + 1 ≤ R.frames ∧ 8 + (maxL + 11) + rm.locals ≤ R.locals) (hw : Wd G n C H) (hn : 244 ≤ n) (hS : LW G s H locs) (hls : ls.size = nL) (hna : As.length = na) (hst : st0 = As.reverse ++ rest) (hWd : (rest.map fun v => v.category).sum ≤ 8) (hdg : decode cc pc = .ok (.invokestatic index, 3)) (hf : cells + mc ≤ R.cells ∧ slots + ms ≤ R.slots)
    (kk : ∀ (H1 : Heap) (locs1 : List Loc), Wd G n C1 H1 → LW G s H1 locs1 → Kp (bb G) H H1 → W p l e R s m args below meth c H1 locs1 (cells + mc) (slots + ms) Q (F0 m (pc + 3) ls (.int v :: rest))) : W p l e R s m args below meth c H locs cells slots Q (F0 m pc ls st0) := by
  subst hst
  exact m_callE (va_runS (As := As) (rest := rest) ⟨hC.1, hC.2.1, hC.2.2.1, hC.2.2.2.1, hC.2.2.2.2.1⟩ hM (hV.b hC.2.2.2.2.1 hR) ⟨PC.blind, fun U hU hW => ⟨rfl, by rw [hU]; exact hw.p hn, (hC.2.2.2.2.2.1.p (hC.lo hw)).warm hW⟩⟩ rfl hna hls rfl (lv_room hWd) hdg hf) hC hw hn hS kk
theorem call_SNQ (hC : Cx p s m args c cc own nL G) {v : Int32} (hM : CtN l y bytes maxL ret rm mc ms (gQ G H) (H.size - (bb G + 244)) D As (some (.int v)) D1) (hV : WS own index y bytes maxL ret na) (hR : rm.cells = mc ∧ rm.slots = ms ∧ rm.frames + 1 ≤ R.frames ∧ 8 + (maxL + 11) + rm.locals ≤ R.locals) (hw : Wd G n C H) (hq : Oq G D H) (hS : LW G s H locs) (hls : ls.size = nL) (hna : As.length = na) (hst : st0 = As.reverse ++ rest) (hWd : (rest.map fun v => v.category).sum ≤ 8) (hdg : decode cc pc = .ok (.invokestatic index, 3)) (hf : cells + mc ≤ R.cells ∧ slots + ms ≤ R.slots)
    (kk : ∀ (H1 : Heap) (locs1 : List Loc), Oq G D1 H1 → LW G s H1 locs1 → Kp (bb G + 244) H H1 → W p l e R s m args below meth c H1 locs1 (cells + mc) (slots + ms) Q (F0 m (pc + 3) ls (.int v :: rest))) : W p l e R s m args below meth c H locs cells slots Q (F0 m pc ls st0) := by
  subst hst
  exact m_callQ (va_runS (As := As) (rest := rest) ⟨hC.1, hC.2.1, hC.2.2.1, hC.2.2.2.1, hC.2.2.2.2.1⟩ hM (hV.b hC.2.2.2.2.1 hR) ⟨PC.blind, fun U hU hW => ⟨rfl, by rw [hU]; exact hq.q, (hC.2.2.2.2.2.1.q (hC.lo hw)).warm hW⟩⟩ rfl hna hls rfl (lv_room hWd) hdg hf) hC hq hS kk
theorem call_SWE (hC : Cx p s m args c cc own nL G) {v : Int32} (hM : CtW l y bytes maxL ret hh rm mc ms (gP G H) (H.size - bb G) C As v C1) (hV : WSW own index y bytes maxL ret hh na) (hR : rm.cells = mc ∧ rm.slots = ms ∧ rm.frames + 1 ≤ R.frames ∧ 8 + (maxL + 11) + rm.locals ≤ R.locals) (hw : Wd G n C H) (hn : 244 ≤ n) (hS : LW G s H locs) (hls : ls.size = nL) (hna : As.length = na) (hst : st0 = As.reverse ++ rest) (hWd : (rest.map fun v => v.category).sum ≤ 8) (hdg : decode cc pc = .ok (.invokestatic index, 3)) (hf : cells + mc ≤ R.cells ∧ slots + ms ≤ R.slots)
    (kk : ∀ (H1 : Heap) (locs1 : List Loc), Wd G n C1 H1 → LW G s H1 locs1 → Kp (bb G) H H1 → W p l e R s m args below meth c H1 locs1 (cells + mc) (slots + ms) Q (F0 m (pc + 3) ls (.int v :: rest))) : W p l e R s m args below meth c H locs cells slots Q (F0 m pc ls st0) := by
  subst hst
  exact m_callWE (vx_runSX (As := As) (rest := rest) ⟨hC.1, hC.2.1, hC.2.2.1, hC.2.2.2.1, hC.2.2.2.2.1⟩ hM (hV.b hC.2.2.2.2.1 hR) ⟨PC.blind, fun U hU hW => ⟨rfl, by rw [hU]; exact hw.p hn, (hC.2.2.2.2.2.1.p (hC.lo hw)).warm hW⟩⟩ rfl hna hls rfl (lv_room hWd) hdg hf) hC hw hn hS kk
theorem call_SWQ (hC : Cx p s m args c cc own nL G) {v : Int32} (hM : CtW l y bytes maxL ret hh rm mc ms (gQ G H) (H.size - (bb G + 244)) D As v D1) (hV : WSW own index y bytes maxL ret hh na) (hR : rm.cells = mc ∧ rm.slots = ms ∧ rm.frames + 1 ≤ R.frames ∧ 8 + (maxL + 11) + rm.locals ≤ R.locals) (hw : Wd G n C H) (hq : Oq G D H) (hS : LW G s H locs) (hls : ls.size = nL) (hna : As.length = na) (hst : st0 = As.reverse ++ rest) (hWd : (rest.map fun v => v.category).sum ≤ 8) (hdg : decode cc pc = .ok (.invokestatic index, 3)) (hf : cells + mc ≤ R.cells ∧ slots + ms ≤ R.slots)
    (kk : ∀ (H1 : Heap) (locs1 : List Loc), Oq G D1 H1 → LW G s H1 locs1 → Kp (bb G + 244) H H1 → W p l e R s m args below meth c H1 locs1 (cells + mc) (slots + ms) Q (F0 m (pc + 3) ls (.int v :: rest))) : W p l e R s m args below meth c H locs cells slots Q (F0 m pc ls st0) := by
  subst hst
  exact m_callWQ (vx_runSX (As := As) (rest := rest) ⟨hC.1, hC.2.1, hC.2.2.1, hC.2.2.2.1, hC.2.2.2.2.1⟩ hM (hV.b hC.2.2.2.2.1 hR) ⟨PC.blind, fun U hU hW => ⟨rfl, by rw [hU]; exact hq.q, (hC.2.2.2.2.2.1.q (hC.lo hw)).warm hW⟩⟩ rfl hna hls rfl (lv_room hWd) hdg hf) hC hq hS kk
theorem call_VNE (hC : Cx p s m args c cc own nL G) {v : Int32} (hM : CtN l y bytes maxL ret rm 0 0 (gP G H) (H.size - bb G) C (.ref (bb G + 0) :: As) (some (.int v)) C1) (hV : WV own index y bytes maxL ret na) (hR : rm.cells = 0 ∧ rm.slots = 0 ∧ rm.frames + 1 ≤ R.frames ∧ 8 + (maxL + 11) + rm.locals ≤ R.locals) (hw : Wd G n C H) (hn : 244 ≤ n) (hS : LW G s H locs) (hc : y.cls = RX8) (hls : ls.size = nL) (hna : As.length = na) (hst : st0 = As.reverse ++ .ref (bb G + 0) :: rest) (hWd : (rest.map fun v => v.category).sum ≤ 8) (hdg : decode cc pc = .ok (.invokevirtual index, 3)) (hf : cells + 0 ≤ R.cells ∧ slots + 0 ≤ R.slots)
    (kk : ∀ (H1 : Heap) (locs1 : List Loc), Wd G n C1 H1 → LW G s H1 locs1 → Kp (bb G) H H1 → W p l e R s m args below meth c H1 locs1 (cells + 0) (slots + 0) Q (F0 m (pc + 3) ls (.int v :: rest))) : W p l e R s m args below meth c H locs cells slots Q (F0 m pc ls st0) := by
  subst hst
  have hK := va_recv hC.2.2.2.2.2.1.1 (hw.one (a := 0) (by omega) ca_casc) (q0 := 0) (show vwCl[8]? = some (y.cls, TX8, 6) by rw [hc]; rfl) rfl
  exact m_callE (va_runV (As := As) (rest := rest) ⟨hC.1, hC.2.1, hC.2.2.1, hC.2.2.2.1, hC.2.2.2.2.1⟩ hM (hV.b hC.2.2.2.2.1 hR) ⟨PC.blind, hK, fun U hU hW => ⟨rfl, by rw [hU]; exact hw.p hn, (hC.2.2.2.2.2.1.p (hC.lo hw)).warm hW⟩⟩ rfl hna hls rfl (lv_room hWd) hdg hf) hC hw hn hS kk
theorem call_VNQ (hC : Cx p s m args c cc own nL G) {v : Int32} (hM : CtN l y bytes maxL ret rm 0 0 (gQ G H) (H.size - (bb G + 244)) D (.ref (bb G + 244) :: As) (some (.int v)) D1) (hV : WV own index y bytes maxL ret na) (hR : rm.cells = 0 ∧ rm.slots = 0 ∧ rm.frames + 1 ≤ R.frames ∧ 8 + (maxL + 11) + rm.locals ≤ R.locals) (hw : Wd G n C H) (hq : Oq G D H) (hS : LW G s H locs) (hc : y.cls = RX8) (hls : ls.size = nL) (hna : As.length = na) (hst : st0 = As.reverse ++ .ref (bb G + 244) :: rest) (hWd : (rest.map fun v => v.category).sum ≤ 8) (hdg : decode cc pc = .ok (.invokevirtual index, 3)) (hf : cells + 0 ≤ R.cells ∧ slots + 0 ≤ R.slots)
    (kk : ∀ (H1 : Heap) (locs1 : List Loc), Oq G D1 H1 → LW G s H1 locs1 → Kp (bb G + 244) H H1 → W p l e R s m args below meth c H1 locs1 (cells + 0) (slots + 0) Q (F0 m (pc + 3) ls (.int v :: rest))) : W p l e R s m args below meth c H locs cells slots Q (F0 m pc ls st0) := by
  subst hst
  have hK := va_recv hC.2.2.2.2.2.1.1 (hq.q.one (a := 0) (by have := hq.1; omega) ca_casc) (q0 := 0) (show vwCl[8]? = some (y.cls, TX8, 6) by rw [hc]; rfl) rfl
  exact m_callQ (va_runV (As := As) (rest := rest) ⟨hC.1, hC.2.1, hC.2.2.1, hC.2.2.2.1, hC.2.2.2.2.1⟩ hM (hV.b hC.2.2.2.2.1 hR) ⟨PC.blind, hK, fun U hU hW => ⟨rfl, by rw [hU]; exact hq.q, (hC.2.2.2.2.2.1.q (hC.lo hw)).warm hW⟩⟩ rfl hna hls rfl (lv_room hWd) hdg hf) hC hq hS kk
theorem call_S2 (hC : Cx p s m args c cc own nL G) {v : Int32} (hM : Ct2 l y bytes maxL ret rm mc ms G b L xs C D As (some (.int v)) C1 D1) (hV : WS own index y bytes maxL ret na) (hR : rm.cells = mc ∧ rm.slots = ms ∧ rm.frames + 1 ≤ R.frames ∧ 8 + (maxL + 11) + rm.locals ≤ R.locals) (hX : va_X b L xs s s.heap) (hbl : b < bb G) (hw : Wd G 244 C H) (hq : Oq G D H) (hS : LW G s H locs) (hls : ls.size = nL) (hna : As.length = na) (hst : st0 = As.reverse ++ rest) (hWd : (rest.map fun v => v.category).sum ≤ 8) (hdg : decode cc pc = .ok (.invokestatic index, 3)) (hf : cells + mc ≤ R.cells ∧ slots + ms ≤ R.slots)
    (kk : ∀ (H1 : Heap) (locs1 : List Loc), Wd G 244 C1 H1 → Oq G D1 H1 → LW G s H1 locs1 → W p l e R s m args below meth c H1 locs1 (cells + mc) (slots + ms) Q (F0 m (pc + 3) ls (.int v :: rest))) : W p l e R s m args below meth c H locs cells slots Q (F0 m pc ls st0) := by
  subst hst
  have hX1 : va_X b L xs s H := hX.kept (hS.2.1 b (Nat.lt_of_lt_of_le hbl hC.2.2.2.2.2.2.1) (Nat.not_le.mpr hbl))
  exact m_call2 (va_runS (As := As) (rest := rest) ⟨hC.1, hC.2.1, hC.2.2.1, hC.2.2.2.1, hC.2.2.2.2.1⟩ hM (hV.b hC.2.2.2.2.1 hR) ⟨PC2.blind, fun U hU hW => ⟨rfl, by rw [hU]; exact hw, by rw [hU]; exact hq, hC.2.2.2.2.2.1.warm hW, by rw [hU]; exact hX1.moved hW.alike⟩⟩ rfl hna hls rfl (lv_room hWd) hdg hf) hC hw hS kk
/-! ends -/
theorem m_iretN (hC : Cx p s m args c cc own nL G) (hr : meth.sig.returnType = some .int) (hlocks : meth.locks = false) (hw : Wd G n C H) (hS : LW G s H locs) {v r1 : Int32} (hc : cells ≤ mc) (hs : slots ≤ ms) (hdg : decode cc pc = .ok (.ireturn, 1)) (hF : some (v, C) = some (r1, C1)) : W p l e R s m args below meth c H locs cells slots (MQ below (QR G n (some (.int r1)) C1) args s mc ms (frA G)) (F0 m pc ls [.int v]) :=
  W.widen hc hs (m_iret hC hr hlocks hw hS hdg hF)
theorem m_zretN (hC : Cx p s m args c cc own nL G) (hr : meth.sig.returnType = some .boolean) (hlocks : meth.locks = false) (hw : Wd G n C H) (hS : LW G s H locs) {v r1 : Int32} (hc : cells ≤ mc) (hs : slots ≤ ms) (hdg : decode cc pc = .ok (.ireturn, 1)) (hv : v = 0 ∨ v = 1) (hF : some (v, C) = some (r1, C1)) : W p l e R s m args below meth c H locs cells slots (MQ below (QR G n (some (.int r1)) C1) args s mc ms (frA G)) (F0 m pc ls [.int v]) :=
  W.widen hc hs (m_zret hC hr hlocks hw hS hdg hv hF)
theorem m_iret2 (hC : Cx p s m args c cc own nL G) (hr : meth.sig.returnType = some .int) (hlocks : meth.locks = false) (hw : Wd G 244 C H) (hq : Oq G D H) (hS : LW G s H locs) {v r1 : Int32} (hc : cells ≤ mc) (hs : slots ≤ ms) (hdg : decode cc pc = .ok (.ireturn, 1)) (hF : some (v, C, D) = some (r1, C1, D1)) : W p l e R s m args below meth c H locs cells slots (MQ below (QR2 G (some (.int r1)) C1 D1) args s mc ms (frA G)) (F0 m pc ls [.int v]) := by
  cases hF
  exact W.widen hc hs (W.iret hC.1 hC.2.1 hr (fun t ht _ => ⟨rfl, by rw [ht]; exact hw, by rw [ht]; exact hq, by rw [ht]; exact hS.1⟩) hS.2.2 hdg)
theorem m_zret2 (hC : Cx p s m args c cc own nL G) (hr : meth.sig.returnType = some .boolean) (hlocks : meth.locks = false) (hw : Wd G 244 C H) (hq : Oq G D H) (hS : LW G s H locs) {v r1 : Int32} (hc : cells ≤ mc) (hs : slots ≤ ms) (hdg : decode cc pc = .ok (.ireturn, 1)) (hv : v = 0 ∨ v = 1) (hF : some (v, C, D) = some (r1, C1, D1)) : W p l e R s m args below meth c H locs cells slots (MQ below (QR2 G (some (.int r1)) C1 D1) args s mc ms (frA G)) (F0 m pc ls [.int v]) := by
  cases hF
  exact W.widen hc hs (W.zret hC.1 hC.2.1 hr (z_nar hv) (fun t ht _ => ⟨rfl, by rw [ht]; exact hw, by rw [ht]; exact hq, by rw [ht]; exact hS.1⟩) hS.2.2 hdg)
/-! rows of the law's own -/
theorem m_newi (hC : Cx p s m args c cc own nL G) (hw : Wd G n C H) (hn : 244 ≤ n) (hS : LW G s H locs) (harr : Cond.arrayClass .int ∈ lw_g) {v : Int32} {N : Nat} (hv : ¬ v < 0) (hN : v.toNatClampNeg = N) (hbytes : N * 4 ≤ 536870912) (hcells : cells + 1 ≤ R.cells) (hslots : slots + N ≤ R.slots) (hdg : decode cc pc = .ok (.newarray .int, 2))
    (kk : ∀ (H1 : Heap) (ra : Nat), Wd G n C H1 → LW G s H1 locs → Kp (bb G) H H1 → Row G n ra N (fun _ => 0) H1 → W p l e R s m args below meth c H1 locs (cells + 1) (slots + N) Q (F0 m (pc + 2) ls (.ref ra :: rest))) : W p l e R s m args below meth c H locs cells slots Q (F0 m pc ls (.int v :: rest)) := by
  obtain ⟨hx, hb, -, hown, hts, hT, -⟩ := hC
  refine va_newaK (atype := .int) (h := H.size) hx hb (hts _ harr) rfl hdg rfl hv hN hbytes hcells hslots rfl fun H1 cA e1 z1 o1 hAr hNm => ?_
  have hcA : cA = G.2.1 0 := Option.some.inj (hNm.symm.trans (hT.1.2 0 _ rfl).2)
  subst hcA
  refine kk H1 H.size (hw.grow (by omega) o1) ⟨by have := hS.1; omega, fun q hq hn => (o1 q (by have := hS.1; omega)).trans (hS.2.1 q hq hn), hS.2.2⟩ ⟨by omega, fun q hq _ => o1 q hq⟩ ⟨hw.1, fun k q hk => ?_⟩
  match k, hk with
  | 0, hk =>
    cases hk
    refine e1.trans ?_
    rw [vp_cell_i]
    refine congrArg some (arrV_congr (fun j hj => ?_))
    rw [tr_lt _ hj]
    rfl
theorem r_iald (hC : Cx p s m args c cc own nL G) {ra N : Nat} {f : Nat → Int32} (hr : Row G n ra N f H) {i : Int32} (hin : vp_in i N) (hdg : decode cc pc = .ok (.iaload, 1))
    (kk : W p l e R s m args below meth c H locs cells slots Q (F0 m (pc + 1) ls (.int (f i.toNatClampNeg) :: rest))) : W p l e R s m args below meth c H locs cells slots Q (F0 m pc ls (.int i :: .ref ra :: rest)) :=
  va_iald hC.1 hC.2.1 hC.2.2.2.2.2.1.1 hr.2 0 0 rfl rfl hin hdg (by rw [tr_lt f (vp_lt hin)]; exact kk)
theorem r_iast (hC : Cx p s m args c cc own nL G) (hw : Wd G n C H) (hn : 244 ≤ n) (hS : LW G s H locs) {ra N : Nat} {f : Nat → Int32} (hr : Row G n ra N f H) {i x : Int32} (hin : vp_in i N) (hdg : decode cc pc = .ok (.iastore, 1))
    (kk : ∀ (H1 : Heap) (locs1 : List Loc), Wd G n C H1 → LW G s H1 locs1 → Row G n ra N (up f i.toNatClampNeg x) H1 → W p l e R s m args below meth c H1 locs1 cells slots Q (F0 m (pc + 1) ls rest)) : W p l e R s m args below meth c H locs cells slots Q (F0 m pc ls (.int x :: .int i :: .ref ra :: rest)) := by
  obtain ⟨hx, hb, -, hown, hts, hT, -⟩ := hC
  refine W.iast hx hb (hr.2 0 _ rfl) ((hT.1.2 0 _ rfl).1 N (fun j => .int (tr N f j))) (fun q => by cases q) (by show ¬ (i < 0 ∨ (arrV _ _ _).slots.size ≤ _); rw [arrV_size]; exact hin) rfl rfl hdg fun H1 e1 z oq => ?_
  have hle : bb G ≤ ra := Nat.le_trans (Nat.le_add_right _ _) hr.1
  refine kk H1 _ ⟨by rw [z]; exact hw.1, fun a ha h => (oq a (show a ≠ ra by have := hr.1; omega)).trans (hw.2.1 a ha h), fun a ha h => (hw.2.2 a ha h).kept (oq _ (show bb G + a ≠ ra by have := hr.1; omega))⟩ (hS.put z oq hle) ⟨hr.1, fun k q hk => ?_⟩
  match k, hk with
  | 0, hk =>
    cases hk
    show H1[_]? = some (vp_cell _ _)
    rw [e1, vp_cell_i, vp_cell_i, arrV_store]
    congr 2
    funext q
    rw [← tr_upd f x (vp_lt hin)]
    by_cases hq : q = i.toNatClampNeg
    · subst hq
      simp [updV, upd]
    · simp [updV, upd, hq]
end TWO
/-! loops that count what they make -/
theorem iter_soundN {σ ρ : Type} {step : σ → Option (σ ⊕ ρ)} {P : Nat → σ → Prop} {X : ρ → Prop} (hb : ∀ n x o, step x = some o → (∀ x', o = .inl x' → P n x') → (∀ r, o = .inr r → X r) → P (n + 1) x) : ∀ (n : Nat) (x : σ) (r : ρ), iter step n x = some r → X r → P n x
  | 0, _, _, h, _ => by cases h
  | n + 1, x, r, h, hX => by
    obtain ⟨o, h1, h2⟩ := ob h
    refine hb n x o h1 (fun x' e => ?_) (fun r' e => ?_)
    · subst e
      exact iter_soundN hb n x' r h2 hX
    · subst e
      cases h2
      exact hX
def b3 {A B D γ : Type} (x : Option (A × B × D)) (k : A → B → D → Option γ) : Option γ := x.bind fun o => k o.1 o.2.1 o.2.2
theorem b3_t {A B D γ : Type} {x : Option (A × B × D)} {k : A → B → D → Option γ} {r : γ} (h : b3 x k = some r) : ∃ a b d, x = some (a, b, d) ∧ k a b d = some r := by
  obtain ⟨⟨a, b, d⟩, h1, h2⟩ := ob h
  exact ⟨a, b, d, h1, h2⟩
theorem b3_s {A B D γ : Type} (a : A) (b : B) (d : D) (k : A → B → D → Option γ) : b3 (some (a, b, d)) k = k a b d := rfl
def u7 {A0 A1 A2 A3 A4 A5 A6 γ : Type} (f : A0 → A1 → A2 → A3 → A4 → A5 → A6 → γ) (x : A0 × A1 × A2 × A3 × A4 × A5 × A6) : γ := f x.1 x.2.1 x.2.2.1 x.2.2.2.1 x.2.2.2.2.1 x.2.2.2.2.2.1 x.2.2.2.2.2.2
theorem u7_t {A0 A1 A2 A3 A4 A5 A6 γ : Type} {f : A0 → A1 → A2 → A3 → A4 → A5 → A6 → γ} {a0 : A0} {a1 : A1} {a2 : A2} {a3 : A3} {a4 : A4} {a5 : A5} {a6 : A6} {r : γ} (h : u7 f (a0, a1, a2, a3, a4, a5, a6) = r) : f a0 a1 a2 a3 a4 a5 a6 = r := h
theorem u7_s {A0 A1 A2 A3 A4 A5 A6 γ : Type} (f : A0 → A1 → A2 → A3 → A4 → A5 → A6 → γ) (a0 : A0) (a1 : A1) (a2 : A2) (a3 : A3) (a4 : A4) (a5 : A5) (a6 : A6) : u7 f (a0, a1, a2, a3, a4, a5, a6) = f a0 a1 a2 a3 a4 a5 a6 := rfl
def u8 {A0 A1 A2 A3 A4 A5 A6 A7 γ : Type} (f : A0 → A1 → A2 → A3 → A4 → A5 → A6 → A7 → γ) (x : A0 × A1 × A2 × A3 × A4 × A5 × A6 × A7) : γ := f x.1 x.2.1 x.2.2.1 x.2.2.2.1 x.2.2.2.2.1 x.2.2.2.2.2.1 x.2.2.2.2.2.2.1 x.2.2.2.2.2.2.2
theorem u8_t {A0 A1 A2 A3 A4 A5 A6 A7 γ : Type} {f : A0 → A1 → A2 → A3 → A4 → A5 → A6 → A7 → γ} {a0 : A0} {a1 : A1} {a2 : A2} {a3 : A3} {a4 : A4} {a5 : A5} {a6 : A6} {a7 : A7} {r : γ} (h : u8 f (a0, a1, a2, a3, a4, a5, a6, a7) = r) : f a0 a1 a2 a3 a4 a5 a6 a7 = r := h
theorem u8_s {A0 A1 A2 A3 A4 A5 A6 A7 γ : Type} (f : A0 → A1 → A2 → A3 → A4 → A5 → A6 → A7 → γ) (a0 : A0) (a1 : A1) (a2 : A2) (a3 : A3) (a4 : A4) (a5 : A5) (a6 : A6) (a7 : A7) : u8 f (a0, a1, a2, a3, a4, a5, a6, a7) = f a0 a1 a2 a3 a4 a5 a6 a7 := rfl
def u9 {A0 A1 A2 A3 A4 A5 A6 A7 A8 γ : Type} (f : A0 → A1 → A2 → A3 → A4 → A5 → A6 → A7 → A8 → γ) (x : A0 × A1 × A2 × A3 × A4 × A5 × A6 × A7 × A8) : γ := f x.1 x.2.1 x.2.2.1 x.2.2.2.1 x.2.2.2.2.1 x.2.2.2.2.2.1 x.2.2.2.2.2.2.1 x.2.2.2.2.2.2.2.1 x.2.2.2.2.2.2.2.2
theorem u9_t {A0 A1 A2 A3 A4 A5 A6 A7 A8 γ : Type} {f : A0 → A1 → A2 → A3 → A4 → A5 → A6 → A7 → A8 → γ} {a0 : A0} {a1 : A1} {a2 : A2} {a3 : A3} {a4 : A4} {a5 : A5} {a6 : A6} {a7 : A7} {a8 : A8} {r : γ} (h : u9 f (a0, a1, a2, a3, a4, a5, a6, a7, a8) = r) : f a0 a1 a2 a3 a4 a5 a6 a7 a8 = r := h
theorem u9_s {A0 A1 A2 A3 A4 A5 A6 A7 A8 γ : Type} (f : A0 → A1 → A2 → A3 → A4 → A5 → A6 → A7 → A8 → γ) (a0 : A0) (a1 : A1) (a2 : A2) (a3 : A3) (a4 : A4) (a5 : A5) (a6 : A6) (a7 : A7) (a8 : A8) : u9 f (a0, a1, a2, a3, a4, a5, a6, a7, a8) = f a0 a1 a2 a3 a4 a5 a6 a7 a8 := rfl
