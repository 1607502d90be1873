/-! what the tables and the cells ahead of the world give, at any state of the run; the rows of the machine over the world -/
theorem inX0g : ∀ w ∈ u_ws RX0 TX0 7, w ∈ lw_g := by decide +kernel
theorem inX1g : ∀ w ∈ u_ws RX1 TX1 2, w ∈ lw_g := by decide +kernel
theorem inX2g : ∀ w ∈ u_ws RX2 TX2 3, w ∈ lw_g := by decide +kernel
theorem inX3g : ∀ w ∈ u_ws RX3 TX3 5, w ∈ lw_g := by decide +kernel
theorem inX4g : ∀ w ∈ u_ws RX4 TX4 11, w ∈ lw_g := by decide +kernel
theorem inX5g : ∀ w ∈ u_ws RX5 TX5 9, w ∈ lw_g := by decide +kernel
theorem inX6g : ∀ w ∈ u_ws RX6 TX6 2, w ∈ lw_g := by decide +kernel
theorem inX7g : ∀ w ∈ u_ws RX7 TX7 7, w ∈ lw_g := by decide +kernel
theorem inX8g : ∀ w ∈ u_ws RX8 TX8 6, w ∈ lw_g := by decide +kernel
abbrev tysG (G : GG) : List (ClassId × FieldType) := [(G.2.1 0, .int), (G.2.1 0, .int), (G.2.1 2, .object RX0), (G.2.1 3, .object RX5)]
def kLeast : Nat → Int32
  | 0 => 40
  | 1 => 1
  | 2 => 1
  | 3 => 60
  | 4 => 1
  | _ => 0
def kMost : Nat → Int32
  | 0 => 80
  | 1 => 9
  | 2 => 5
  | 3 => 90
  | 4 => 9
  | _ => 23
def kFirst : Nat → Int32
  | 0 => 60
  | 1 => 3
  | 2 => 2
  | 3 => 70
  | 4 => 2
  | _ => 2
def xN (e : Nat) : String := if e = 1 then "java/lang/IllegalArgumentException" else if e = 2 then "java/lang/IllegalStateException" else "java/lang/IndexOutOfBoundsException"
def xS (X : String) : MethodName := ⟨X, "<init>", "(Ljava/lang/String;)V"⟩
def strs : List (Nat × String) := [(315, "an argument is out of its range"), (57, "the text is full"), (70, "the text tells no cascade"), (324, "there is no such boiler"), (317, "there is no such flue"), (187, "there is no such layer"), (230, "no such setting, or not in its range"), (237, "the boiler is locked already"), (242, "the boiler is not locked"), (244, "the boiler is not on standby"), (250, "no state is remembered"), (295, "the script is negative or too long"), (319, "there is no such save slot"), (313, "nothing is saved in this slot")]
def stZ (G : GG) (U : State) (n : String) (i : Nat) (k : Nat → Int32) : Prop := va_Z RX8 n "[I" (.ref (G.2.2.2.1 i)) (frA G) U G.2.2.1 ∧ va_T .int (G.2.2.2.1 i) 6 (fun j => .int (k j)) (frA G) U G.2.2.1
def TT (G : GG) (U : State) : Prop :=
  va_K G.1 vwCl (tysG G) U ∧ stZ G U "LEAST_SETTING" 0 kLeast ∧ stZ G U "MOST_SETTING" 1 kMost ∧ stZ G U "FIRST_SETTING" 2 kFirst ∧
  vx_Zq Bundle.tN "UNASSIGNED_STACK" Bundle.steD (frA G) U G.2.2.1 ∧ vx_Zq Bundle.tN "SUPPRESSED_SENTINEL" Bundle.listD (frA G) U G.2.2.1 ∧
  (∀ q ∈ strs, ∃ a, vk_R RX8 q.1 q.2 a U) ∧ (∀ e : Nat, va_Nw (.castable (xN e) (xN e)) U) ∧ (∀ e f : Nat, 1 ≤ e → e ≤ 3 → 1 ≤ f → f ≤ 3 → e ≠ f → va_Nc (xN e) (xN f) U) ∧
  va_Nw (.fieldLinkNest RX5 79 RX8 "FIRST_SETTING" "[I" RX8) U ∧ (va_Nw (.declares (xS "java/lang/RuntimeException")) U ∧ va_Nw (.declares (xS "java/lang/Exception")) U ∧ va_Nw (.declares (xS "java/lang/Throwable")) U)
theorem stZ.moved {G : GG} {n : String} {i : Nat} {k : Nat → Int32} {u U : State} (h : u.vm.Alike U.vm) (z : stZ G u n i k) : stZ G U n i k := ⟨va_Z.moved h z.1, va_T.moved h z.2⟩
theorem TT.warm {G : GG} {s U : State} (hW : s.WarmedH U.vm) (h : TT G s) : TT G U := by
  obtain ⟨h1, h2, h3, h4, h5, h6, h7, h8, h9, h10, h11, h12, h13⟩ := h
  refine ⟨va_K.moved hW.alike h1, h2.moved hW.alike, h3.moved hW.alike, h4.moved hW.alike, vx_Zq.moved hW.alike h5, vx_Zq.moved hW.alike h6, fun q hq => ?_, fun e => va_Nw.warmC hW (h8 e), fun e f a1 a2 a3 a4 a5 => va_Nc.moved hW.alike (h9 e f a1 a2 a3 a4 a5), va_Nw.warmF hW h10, va_Nw.warmD hW h11, va_Nw.warmD hW h12, va_Nw.warmD hW h13⟩
  obtain ⟨a, ha⟩ := h7 q hq
  exact ⟨a, vk_R.warm hW ha⟩
/-- the object's cells stand; all else below base + n is as in G's heap -/
def Wd (G : GG) (n : Nat) (C : Mem) (H : Heap) : Prop := bb G + n ≤ H.size ∧ (∀ a, a < bb G + n → (a < bb G ∨ bb G + 244 ≤ a) → H[a]? = G.2.2.1[a]?) ∧ ∀ a, a < n → a < 244 → va_at G.1 vwCl (bb G + a, cellAt G C a) H
theorem Wd.ah {G : GG} {n : Nat} {C : Mem} {H : Heap} (hw : Wd G n C H) {a : Nat} (h : a < bb G) : H[a]? = G.2.2.1[a]? := hw.2.1 a (by omega) (Or.inl h)
theorem Wd.one {G : GG} {n : Nat} {C : Mem} {H : Heap} (hw : Wd G n C H) {a : Nat} {e : va_E} (ha : a < n ∧ a < 244) (he : cellAt G C a = e) : va_P G.1 vwCl [(bb G + a, e)] H := by
  intro k q hk
  match k, hk with
  | 0, hk =>
    cases hk
    rw [← he]
    exact hw.2.2 a ha.1 ha.2
theorem Wd.put {G : GG} {n : Nat} {C C1 : Mem} {H H1 : Heap} (hw : Wd G n C H) {a : Nat} (ha : a < 244) (hz : H1.size = H.size) (oq : ∀ q, q ≠ bb G + a → H1[q]? = H[q]?) (hs : va_at G.1 vwCl (bb G + a, cellAt G C1 a) H1) (ho : ∀ q, q < 244 → q ≠ a → cellAt G C1 q = cellAt G C q) : Wd G n C1 H1 := by
  refine ⟨by rw [hz]; exact hw.1, fun q hq h => ?_, fun q hq h => ?_⟩
  · rw [oq q (by omega)]
    exact hw.2.1 q hq h
  · by_cases e : q = a
    · rw [e]; exact hs
    · rw [ho q h e]
      exact (hw.2.2 q hq h).kept (oq _ (by simp only; omega))
/-- nothing ahead of the world was written; what the frame says of it -/
abbrev LW (G : GG) (s : State) (H : Heap) (locs : List Loc) : Prop := va_S (frA G) s.heap H locs
/-- the context of a walk -/
def Cx (p : Program) (s : State) (m : MethodId) (args : Array Value) (c : Code) (cc : ByteArray) (own : String) (nL : Nat) (G : GG) : Prop :=
  p.tables.exec = Jvm.exec ∧ c.code = cc ∧ c.maxLocals = nL ∧ s.vm.findClass own = some m.cls ∧ (∀ w ∈ lw_g, w.before args s = true) ∧ TT G s ∧ bb G ≤ s.heap.size ∧ ∀ a, a < bb G → s.heap[a]? = G.2.2.1[a]?
section ROWS
variable {p : Program} {l : Launch} {e : Env} {R : Room} {s : State} {m : MethodId} {args : Array Value} {below : List Frame} {meth : Method} {c : Code} {H : Heap} {locs : List Loc} {cells slots : Nat} {Q : State → Prop}
variable {cc : ByteArray} {pc : Nat} {ls : Array Slot} {rest : List Value} {own : String} {nL : Nat} {G : GG} {n : Nat} {C : Mem}
theorem m_get (hC : Cx p s m args c cc own nL G) (hw : Wd G n C H) {Cn : String} {T : u_T} {N ci index a : Nat} {fs : List Value} (hin : ∀ w ∈ u_ws Cn T N, w ∈ lw_g) (hc : vwCl[ci]? = some (Cn, T, N)) (ha : a < n ∧ a < 244) (he : cellAt G C a = .inr (ci, fs)) (k : Nat) (hk : k < N) (hlink : Cond.fieldLink own index (T k).1 (T k).2.1 (T k).2.2.1 ∈ lw_g) {v : Value} (hv : fs[k]? = some v) (hdg : decode cc pc = .ok (.getfield index, 3))
    (kk : W p l e R s m args below meth c H locs cells slots Q (F0 m (pc + 3) ls (v :: rest))) : W p l e R s m args below meth c H locs cells slots Q (F0 m pc ls (.ref (bb G + a) :: rest)) :=
  va_get hC.1 hC.2.1 hC.2.2.2.2.1 hin hC.2.2.2.1 hC.2.2.2.2.2.1.1 (hw.one ha he) 0 rfl hc k hk (hC.2.2.2.2.1 _ hlink) (fun _ h => h) hv hdg kk
theorem m_put (hC : Cx p s m args c cc own nL G) (hw : Wd G n C H) (hS : LW G s H locs) {Cn : String} {T : u_T} {N ci index a : Nat} {fs : List Value} (hin : ∀ w ∈ u_ws Cn T N, w ∈ lw_g) {ty0 : Nat → FieldType} (hty : ∀ k, k < N → parseFieldDescriptor (T k).2.2.1 = some (ty0 k)) (hnm : ∀ a, a < N → ∀ b, b < N → a ≠ b → (T a).2.1 ≠ (T b).2.1) (hc : vwCl[ci]? = some (Cn, T, N)) (ha : a < n ∧ a < 244) (he : cellAt G C a = .inr (ci, fs)) (k : Nat) (hk : k < N) (hlink : Cond.fieldLink own index (T k).1 (T k).2.1 (T k).2.2.1 ∈ lw_g) (hfin : (T k).2.2.2 = false) {v : Value} (hn : narrow (ty0 k) v = v) (hfit : fits (ty0 k) v = true) (hl : k < fs.length)
    {C1 : Mem} (hs : cellAt G C1 a = .inr (ci, fs.set k v)) (ho : ∀ q, q < 244 → q ≠ a → cellAt G C1 q = cellAt G C q) (hdg : decode cc pc = .ok (.putfield index, 3))
    (kk : ∀ (H1 : Heap) (locs1 : List Loc), Wd G n C1 H1 → LW G s H1 locs1 → H1.size = H.size → W p l e R s m args below meth c H1 locs1 cells slots Q (F0 m (pc + 3) ls rest)) : W p l e R s m args below meth c H locs cells slots Q (F0 m pc ls (v :: .ref (bb G + a) :: rest)) := by
  obtain ⟨hx, hb, -, hown, hts, hT, -⟩ := hC
  have hK := hT.1
  have hap := va_apart (own := own) hts hin ty0 hty hnm hK hc
  obtain ⟨r, h1, cell, q1, q2, q3, q4⟩ := hw.one ha he 0 _ rfl
  have hr : r = (Cn, T, N) := Option.some.inj (h1.symm.trans hc)
  subst hr
  obtain ⟨hSl, hfc, kC, hkC, hkind⟩ := hK.1 ci _ hc
  obtain ⟨cf, kf, fi, f, hi, hsl⟩ := hSl k hk
  have hlay := hts _ (hin _ (u_in_lay hk))
  unfold u_lay at hlay
  rw [if_neg (by rw [hfin]; decide)] at hlay
  have hst := (u_facts hfc hkC (u_lays hts hin hk) hi).1
  have h6 := u_store hfc hkC hkind hlay hi (hty k hk) hn hfit
  refine W.putK hx hb (f := f) ⟨hown, hts _ hlink, ⟨_, _, _, hi⟩, hst⟩ (by rw [q2]; exact h6) q1 q3 (by rw [hsl]; exact k2_hasslot (q4 k hk)) rfl rfl hdg fun H' e1 e2 e3 => ?_
  rw [hsl] at e1 ⊢
  refine kk H' _ (hw.put ha.2 e2 e3 ?_ ho) (hS.put e2 e3 (Nat.le_add_right _ _)) e2
  rw [hs]
  exact ⟨_, hc, t_OB.to (V := updV (vp_V fs) k v) ⟨_, e1, q2, q3, t_set q4 hap hk v⟩ (fun j _ => vp_updV_set hl v j)⟩
theorem m_iald (hC : Cx p s m args c cc own nL G) (hw : Wd G n C H) {a N : Nat} {f : Nat → Int32} (ha : a < n ∧ a < 244) (he : cellAt G C a = .inl (G.2.1 0, N, .inl f)) {i : Int32} (hin : vp_in i N) (hdg : decode cc pc = .ok (.iaload, 1))
    (kk : W p l e R s m args below meth c H locs cells slots Q (F0 m (pc + 1) ls (.int (f i.toNatClampNeg) :: rest))) : W p l e R s m args below meth c H locs cells slots Q (F0 m pc ls (.int i :: .ref (bb G + a) :: rest)) :=
  va_iald hC.1 hC.2.1 hC.2.2.2.2.2.1.1 (hw.one ha he) 0 0 rfl rfl hin hdg kk
theorem m_alen (hC : Cx p s m args c cc own nL G) (hw : Wd G n C H) {a t0 : Nat} {cA : ClassId} {ty : FieldType} {x : vp_A} (ha : a < n ∧ a < 244) (he : cellAt G C a = .inl (cA, x)) (ht : (tysG G)[t0]? = some (cA, ty)) {v : Int32} (hv : Int32.ofNat x.1 = v) (hdg : decode cc pc = .ok (.arraylength, 1))
    (kk : W p l e R s m args below meth c H locs cells slots Q (F0 m (pc + 1) ls (.int v :: rest))) : W p l e R s m args below meth c H locs cells slots Q (F0 m pc ls (.ref (bb G + a) :: rest)) :=
  va_alen hC.1 hC.2.1 hC.2.2.2.2.2.1.1 (hw.one ha he) 0 t0 rfl ht hv hdg kk
theorem m_aald (hC : Cx p s m args c cc own nL G) (hw : Wd G n C H) {a N t0 : Nat} {cA : ClassId} {Cn : String} {f : Nat → Nat} (ha : a < n ∧ a < 244) (he : cellAt G C a = .inl (cA, N, .inr (.inr (.inr (.inr (fun j => some (f j))))))) (ht : (tysG G)[t0]? = some (cA, .object Cn)) {i : Int32} (hin : vp_in i N) (hdg : decode cc pc = .ok (.aaload, 1))
    (kk : W p l e R s m args below meth c H locs cells slots Q (F0 m (pc + 1) ls (.ref (f i.toNatClampNeg) :: rest))) : W p l e R s m args below meth c H locs cells slots Q (F0 m pc ls (.int i :: .ref (bb G + a) :: rest)) :=
  va_aldq hC.1 hC.2.1 hC.2.2.2.2.2.1.1 (hw.one ha he) 0 t0 rfl ht hin hdg kk
theorem vp_lt {i : Int32} {N : Nat} (h : vp_in i N) : i.toNatClampNeg < N := Nat.not_le.mp fun q => h (Or.inr q)
theorem m_iast (hC : Cx p s m args c cc own nL G) (hw : Wd G n C H) (hS : LW G s H locs) {a N : Nat} {f : Nat → Int32} (ha : a < n ∧ a < 244) (he : cellAt G C a = .inl (G.2.1 0, N, .inl f)) {i x : Int32} (hin : vp_in i N) {C1 : Mem} (hs : cellAt G C1 a = .inl (G.2.1 0, N, .inl (upd f i.toNatClampNeg x))) (ho : ∀ q, q < 244 → q ≠ a → cellAt G C1 q = cellAt G C q) (hdg : decode cc pc = .ok (.iastore, 1))
    (kk : ∀ (H1 : Heap) (locs1 : List Loc), Wd G n C1 H1 → LW G s H1 locs1 → H1.size = H.size → W p l e R s m args below meth c H1 locs1 cells slots Q (F0 m (pc + 1) ls rest)) : W p l e R s m args below meth c H locs cells slots Q (F0 m pc ls (.int x :: .int i :: .ref (bb G + a) :: rest)) := by
  obtain ⟨hx, hb, -, hown, hts, hT, -⟩ := hC
  refine W.iast hx hb (hw.one ha he 0 _ rfl) ((hT.1.2 0 _ rfl).1 N (fun j => .int (f j))) (fun q => by cases q) (by show ¬ (i < 0 ∨ (arrV _ _ _).slots.size ≤ _); rw [arrV_size]; exact hin) rfl rfl hdg fun H1 e1 z oq => ?_
  refine kk H1 _ (hw.put ha.2 z oq ?_ ho) (hS.put z oq (Nat.le_add_right _ _)) z
  rw [hs]
  show H1[_]? = some (vp_cell _ _)
  rw [e1, vp_cell_i, vp_cell_i, arrV_store]
  congr 2
  funext q
  by_cases hq : q = i.toNatClampNeg
  · subst hq
    simp [updV, upd]
  · simp [updV, upd, hq]
/-- a static row of settings, read -/
theorem m_sald (hC : Cx p s m args c cc own nL G) (hS : LW G s H locs) {t N : Nat} {f : Nat → Int32} (hT : va_T .int t N (fun j => .int (f j)) (frA G) s G.2.2.1) {i : Int32} (hin : vp_in i N) (hdg : decode cc pc = .ok (.iaload, 1))
    (kk : W p l e R s m args below meth c H locs cells slots Q (F0 m (pc + 1) ls (.int (f i.toNatClampNeg) :: rest))) : W p l e R s m args below meth c H locs cells slots Q (F0 m pc ls (.int i :: .ref t :: rest)) :=
  va_ti hC.1 hC.2.1 (va_T.kept hT (fun a _ h => hC.2.2.2.2.2.2.2 a (Nat.not_le.mp h))) hS hin rfl hdg kk
theorem m_gets (hC : Cx p s m args c cc own nL G) (hS : LW G s H locs) {nm : String} {t index : Nat} (hZ : va_Z RX8 nm "[I" (.ref t) (frA G) s G.2.2.1) (hlink : Cond.fieldLink own index RX8 nm "[I" ∈ lw_g) (hdg : decode cc pc = .ok (.getstatic index, 3))
    (kk : W p l e R s m args below meth c H locs cells slots Q (F0 m (pc + 3) ls (.ref t :: rest))) : W p l e R s m args below meth c H locs cells slots Q (F0 m pc ls rest) :=
  va_gets hC.1 hC.2.1 (va_Z.kept hZ (fun a _ h => hC.2.2.2.2.2.2.2 a (Nat.not_le.mp h))) hS hC.2.2.2.1 (hC.2.2.2.2.1 _ hlink) (fun _ h => h) hdg kk
theorem m_getsN (hC : Cx p s m args c cc RX5 nL G) (hS : LW G s H locs) (hdg : decode cc pc = .ok (.getstatic 79, 3))
    (kk : W p l e R s m args below meth c H locs cells slots Q (F0 m (pc + 3) ls (.ref (G.2.2.2.1 2) :: rest))) : W p l e R s m args below meth c H locs cells slots Q (F0 m pc ls rest) :=
  va_getsN hC.1 hC.2.1 (va_Z.kept hC.2.2.2.2.2.1.2.2.2.1.1 (fun a _ h => hC.2.2.2.2.2.2.2 a (Nat.not_le.mp h))) hS hC.2.2.2.1 (va_Nw.use rfl hC.2.2.2.2.2.1.2.2.2.2.2.2.2.2.2.1) (fun _ h => h) hdg kk
end ROWS
