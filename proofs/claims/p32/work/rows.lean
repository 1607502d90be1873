section
-- ===== PART A: goes FIRST, ahead of the names: the tables' words, and 'selects' of the private methods out of them =====
/-- a private method of a class that the tables say can be made, by its rows of tables_1 -/
def lw_okq (q : MethodName × Nat) : Prop := (q.1.cls ≠ "java/lang/invoke/MethodHandle" ∧ q.1.cls ≠ "java/lang/invoke/VarHandle") ∧ Cond.instantiable q.1.cls q.2 ∈ tables_1 ∧ Cond.privateMethod q.1 ∈ tables_1 ∧ Cond.instanceMethod q.1 ∈ tables_1
theorem lw_p0 : lw_okq (⟨"BoilerCascade$Plan", "fillTemperatures", "()V"⟩, 11) := ⟨⟨by decide +kernel, by decide +kernel⟩, List.mem_of_getElem? (i := 27) (by decide +kernel), List.mem_of_getElem? (i := 33) (by decide +kernel), List.mem_of_getElem? (i := 34) (by decide +kernel)⟩
theorem lw_p1 : lw_okq (⟨"BoilerCascade$Plan", "readSign", "(I)V"⟩, 11) := ⟨⟨by decide +kernel, by decide +kernel⟩, List.mem_of_getElem? (i := 27) (by decide +kernel), List.mem_of_getElem? (i := 336) (by decide +kernel), List.mem_of_getElem? (i := 337) (by decide +kernel)⟩
theorem lw_p2 : lw_okq (⟨"BoilerCascade$Plan", "sees", "(I)Z"⟩, 11) := ⟨⟨by decide +kernel, by decide +kernel⟩, List.mem_of_getElem? (i := 27) (by decide +kernel), List.mem_of_getElem? (i := 340) (by decide +kernel), List.mem_of_getElem? (i := 341) (by decide +kernel)⟩
theorem lw_p3 : lw_okq (⟨"BoilerCascade$Plan", "hasMore", "()Z"⟩, 11) := ⟨⟨by decide +kernel, by decide +kernel⟩, List.mem_of_getElem? (i := 27) (by decide +kernel), List.mem_of_getElem? (i := 344) (by decide +kernel), List.mem_of_getElem? (i := 345) (by decide +kernel)⟩
theorem lw_p4 : lw_okq (⟨"BoilerCascade$Plan", "readDigit", "(II)I"⟩, 11) := ⟨⟨by decide +kernel, by decide +kernel⟩, List.mem_of_getElem? (i := 27) (by decide +kernel), List.mem_of_getElem? (i := 348) (by decide +kernel), List.mem_of_getElem? (i := 349) (by decide +kernel)⟩
theorem lw_p5 : lw_okq (⟨"BoilerCascade$Plan", "readNumber", "(II)I"⟩, 11) := ⟨⟨by decide +kernel, by decide +kernel⟩, List.mem_of_getElem? (i := 27) (by decide +kernel), List.mem_of_getElem? (i := 352) (by decide +kernel), List.mem_of_getElem? (i := 353) (by decide +kernel)⟩
theorem lw_p6 : lw_okq (⟨"BoilerCascade$Plan", "readBoiler", "(I)V"⟩, 11) := ⟨⟨by decide +kernel, by decide +kernel⟩, List.mem_of_getElem? (i := 27) (by decide +kernel), List.mem_of_getElem? (i := 356) (by decide +kernel), List.mem_of_getElem? (i := 357) (by decide +kernel)⟩
theorem lw_p7 : lw_okq (⟨"BoilerCascade$Plan", "readTemperatures", "()V"⟩, 11) := ⟨⟨by decide +kernel, by decide +kernel⟩, List.mem_of_getElem? (i := 27) (by decide +kernel), List.mem_of_getElem? (i := 360) (by decide +kernel), List.mem_of_getElem? (i := 361) (by decide +kernel)⟩
theorem lw_p8 : lw_okq (⟨"java/lang/Throwable", "fillInStackTrace", "(I)Ljava/lang/Throwable;"⟩, 6) := ⟨⟨by decide +kernel, by decide +kernel⟩, List.mem_of_getElem? (i := 413) (by decide +kernel), List.mem_of_getElem? (i := 411) (by decide +kernel), List.mem_of_getElem? (i := 412) (by decide +kernel)⟩
theorem lw_p9 : lw_okq (⟨"BoilerCascade", "requireBoiler", "(I)V"⟩, 6) := ⟨⟨by decide +kernel, by decide +kernel⟩, List.mem_of_getElem? (i := 19) (by decide +kernel), List.mem_of_getElem? (i := 647) (by decide +kernel), List.mem_of_getElem? (i := 648) (by decide +kernel)⟩
theorem lw_p10 : lw_okq (⟨"BoilerCascade$Plant", "control", "(I)V"⟩, 9) := ⟨⟨by decide +kernel, by decide +kernel⟩, List.mem_of_getElem? (i := 80) (by decide +kernel), List.mem_of_getElem? (i := 687) (by decide +kernel), List.mem_of_getElem? (i := 688) (by decide +kernel)⟩
theorem lw_p11 : lw_okq (⟨"BoilerCascade$Plant", "whyNoneStarts", "()I"⟩, 9) := ⟨⟨by decide +kernel, by decide +kernel⟩, List.mem_of_getElem? (i := 80) (by decide +kernel), List.mem_of_getElem? (i := 698) (by decide +kernel), List.mem_of_getElem? (i := 699) (by decide +kernel)⟩
theorem lw_p12 : lw_okq (⟨"BoilerCascade$Plant", "powerAt", "(II)I"⟩, 9) := ⟨⟨by decide +kernel, by decide +kernel⟩, List.mem_of_getElem? (i := 80) (by decide +kernel), List.mem_of_getElem? (i := 821) (by decide +kernel), List.mem_of_getElem? (i := 822) (by decide +kernel)⟩
theorem lw_p13 : lw_okq (⟨"BoilerCascade", "staysHot", "(III)Z"⟩, 6) := ⟨⟨by decide +kernel, by decide +kernel⟩, List.mem_of_getElem? (i := 19) (by decide +kernel), List.mem_of_getElem? (i := 867) (by decide +kernel), List.mem_of_getElem? (i := 868) (by decide +kernel)⟩
theorem lw_p14 : lw_okq (⟨"BoilerCascade", "isAllowed", "(III)Z"⟩, 6) := ⟨⟨by decide +kernel, by decide +kernel⟩, List.mem_of_getElem? (i := 19) (by decide +kernel), List.mem_of_getElem? (i := 887) (by decide +kernel), List.mem_of_getElem? (i := 888) (by decide +kernel)⟩
theorem lw_p15 : lw_okq (⟨"BoilerCascade", "carryOut", "(III)V"⟩, 6) := ⟨⟨by decide +kernel, by decide +kernel⟩, List.mem_of_getElem? (i := 19) (by decide +kernel), List.mem_of_getElem? (i := 891) (by decide +kernel), List.mem_of_getElem? (i := 892) (by decide +kernel)⟩
def lw_privs_1 : List (MethodName × Nat) := [(⟨"BoilerCascade$Plan", "fillTemperatures", "()V"⟩, 11), (⟨"BoilerCascade$Plan", "readSign", "(I)V"⟩, 11), (⟨"BoilerCascade$Plan", "sees", "(I)Z"⟩, 11), (⟨"BoilerCascade$Plan", "hasMore", "()Z"⟩, 11), (⟨"BoilerCascade$Plan", "readDigit", "(II)I"⟩, 11), (⟨"BoilerCascade$Plan", "readNumber", "(II)I"⟩, 11), (⟨"BoilerCascade$Plan", "readBoiler", "(I)V"⟩, 11), (⟨"BoilerCascade$Plan", "readTemperatures", "()V"⟩, 11), (⟨"java/lang/Throwable", "fillInStackTrace", "(I)Ljava/lang/Throwable;"⟩, 6), (⟨"BoilerCascade", "requireBoiler", "(I)V"⟩, 6), (⟨"BoilerCascade$Plant", "control", "(I)V"⟩, 9), (⟨"BoilerCascade$Plant", "whyNoneStarts", "()I"⟩, 9), (⟨"BoilerCascade$Plant", "powerAt", "(II)I"⟩, 9), (⟨"BoilerCascade", "staysHot", "(III)Z"⟩, 6), (⟨"BoilerCascade", "isAllowed", "(III)Z"⟩, 6), (⟨"BoilerCascade", "carryOut", "(III)V"⟩, 6)]
theorem lw_r1 : ∀ q ∈ lw_privs_1, lw_okq q := List.forall_mem_cons.mpr ⟨lw_p0, List.forall_mem_cons.mpr ⟨lw_p1, List.forall_mem_cons.mpr ⟨lw_p2, List.forall_mem_cons.mpr ⟨lw_p3, List.forall_mem_cons.mpr ⟨lw_p4, List.forall_mem_cons.mpr ⟨lw_p5, List.forall_mem_cons.mpr ⟨lw_p6, List.forall_mem_cons.mpr ⟨lw_p7, List.forall_mem_cons.mpr ⟨lw_p8, List.forall_mem_cons.mpr ⟨lw_p9, List.forall_mem_cons.mpr ⟨lw_p10, List.forall_mem_cons.mpr ⟨lw_p11, List.forall_mem_cons.mpr ⟨lw_p12, List.forall_mem_cons.mpr ⟨lw_p13, List.forall_mem_cons.mpr ⟨lw_p14, List.forall_mem_cons.mpr ⟨lw_p15, fun _ h => absurd h List.not_mem_nil⟩⟩⟩⟩⟩⟩⟩⟩⟩⟩⟩⟩⟩⟩⟩⟩
def lw_privs : List (MethodName × Nat) := lw_privs_1
def lw_tbl : List Cond := k2_sels lw_privs ++ tables_1
theorem lw_privs_ok : ∀ q ∈ lw_privs, lw_okq q := lw_r1

/-! ===== BEGIN words of one list among another's, by their places ===== -/
theorem goodIn_r {big : List Cond} (ws : List Cond) (ps : List Nat) (hp : ws = ps.filterMap (fun i => big[i]?)) (h : ws.all goodWord = true) : GoodIn big ws := by
  intro w hw
  have h1 := List.all_eq_true.mp h w hw
  rw [hp] at hw
  obtain ⟨i, -, hi⟩ := List.mem_filterMap.mp hw
  have hm : w ∈ big := by first | exact List.mem_of_getElem? hi | exact List.getElem?_mem hi
  exact ⟨hm, good_of_word h1⟩
theorem goodIn_app {big a b : List Cond} (ha : GoodIn big a) (hb : GoodIn big b) : GoodIn big (a ++ b) := fun w h => (List.mem_append.mp h).elim (ha w) (hb w)
theorem goodIn_ca {big a b : List Cond} {c : Cond} (ha : GoodIn big (c :: a)) (hb : GoodIn big b) : GoodIn big (c :: (a ++ b)) := fun w h => (List.mem_cons.mp h).elim (fun e => ha w (List.mem_cons.mpr (Or.inl e))) (fun h => (List.mem_append.mp h).elim (fun h => ha w (List.mem_cons.mpr (Or.inr h))) (hb w))
theorem goodIn_sub {big ws : List Cond} (hm : ∀ w ∈ ws, w ∈ big) (h : ws.all goodWord = true) : GoodIn big ws := fun w hw => ⟨hm w hw, good_of_word (List.all_eq_true.mp h w hw)⟩
/-! ===== END ===== -/

/-! ===== BEGIN exceptions that leave a method, and their catching by the caller (launches without stack traces) ===== -/
section VXA
/-! The laws vx_back, vx_callV, vx_callS, vx_callSW, vx_throw0, vx_throwS follow proofs of the library, with one case more: JvmDerived/Free/Laws.lean (Back.of_free), Shelf42/LK1.lean (callV, callS), Shelf/KitTraced.lean (throwNew0V, throwNewS). -/
/-- where a method has thrown q: the class by its name, the cell, what was written, the world -/
def vx_T (XC : String → State → State → Prop) (st : State) (q : Addr) (t : State) (mc ms : Nat) (free : Addr → Prop) : Prop :=
  ∃ (E : String) (ce : Cell) (L : List Loc), XC E st t ∧ t.heap[q]? = some ce ∧ ce.vm = .none ∧ st.vm.findClass E = some ce.cls ∧ st.WarmedH t.vm ∧ st.sameButNew ({ t with vm := st.vm } : State) L mc ms ∧ ∀ z ∈ L, free z.base
def vx_Q (Qc : Array Value → State → Outcome → State → Prop) (XC : String → State → State → Prop) (mc ms : Nat) (free : Addr → Prop) : Array Value → State → Outcome → State → Prop := fun a st o t =>
  (Qc a st o t ∧ ∃ L, FrameEnd st o t L mc ms ∧ ∀ q ∈ L, free q.base) ∨ ∃ q, o = .threw q ∧ vx_T XC st q t mc ms free
/-- a callee that returns or throws -/
def vx_Met (l : Launch) (y : MethodName) (ws : List Cond) (rm : Room) (Pc : Array Value → State → Prop) (Qc : Array Value → State → Outcome → State → Prop) (XC : String → State → State → Prop) (mc ms : Nat) (free : Addr → Prop) : Prop :=
  MetFree l y (headSpec ws rm) Pc (fun _ _ _ _ _ => True) (vx_Q Qc XC mc ms free)
def vx_Post (XC : String → State → State → Prop) (mc ms : Nat) (free : Addr → Prop) : Pt → Array Value → Addr → Pt → Prop := fun A a q B =>
  ∃ (g : JFrame) (mk : MethodId) (t : State) (L : List Loc) (E : String) (ce : Cell), B.U.heap = t.heap ∧ B.U.vm = t.vm ∧ XC E (A.U.calling g mk a) t ∧ t.heap[q]? = some ce ∧ ce.vm = .none ∧ A.U.vm.findClass E = some ce.cls ∧ B.locs = A.locs ++ L ∧ (∀ z ∈ L, free z.base) ∧ B.cells = A.cells + mc ∧ B.slots = A.slots + ms
def vx_Back (l : Launch) (R : Room) (p : Program) (e : Env) (below : List Frame) (s : State) (sargs : Array Value) (y : MethodName) (len W9 : Nat)
    (Pre : Pt → Array Value → Prop) (Post : Pt → Array Value → Option Value → Pt → Prop) (PostX : Pt → Array Value → Addr → Pt → Prop) : Prop :=
  ∀ (m : MethodId) (meth : Method) (c : Code) (A : Pt) (g : JFrame) (ig : Instr) (mk : MethodId) (a : Array Value),
    Stand p l e R s m sargs below meth c A.U A.locs A.cells A.slots → g.method = m → g.locals.size = c.maxLocals → decode c.code g.pc = .ok (ig, len) →
    2 * g.monitorRoom + (g.stack.map fun v => v.category).sum ≤ W9 → A.U.methodNamed? y = some mk → Pre A a →
    (∃ (v : Option Value) (B : Pt), Stand p l e R s m sargs below meth c B.U B.locs B.cells B.slots ∧ Post A a v B ∧
      Steps p.tables e below (doInvoke e (A.U.setTop g) [] mk a).1 (B.U.setTop { g with pc := g.pc + len, stack := v.toList ++ g.stack })) ∨
    (∃ (q : Addr) (B : Pt), Stand p l e R s m sargs below meth c B.U B.locs B.cells B.slots ∧ PostX A a q B ∧
      Steps p.tables e below (doInvoke e (A.U.setTop g) [] mk a).1 ((B.U.setTop g).pushFrame (.throwing q)))
section Payer
variable {l : Launch} {R : Room} {p : Program} {e : Env} {below : List Frame} {s : State} {sargs : Array Value} {y : MethodName} {len W9 : Nat}
theorem vx_back {ws : List Cond} {rm : Room} {Pc : Array Value → State → Prop} {Qc : Array Value → State → Outcome → State → Prop} {XC : String → State → State → Prop} {mc ms : Nat} {free : Addr → Prop} {bytes : ByteArray} {maxL : Nat} {ret : Option FieldType}
    (hM : vx_Met l y ws rm Pc Qc XC mc ms free) (hblind : FrameBlind Pc) (hrc : rm.cells = mc) (hrs : rm.slots = ms)
    (hframes : rm.frames + 1 ≤ R.frames) (hlocals : W9 + (maxL + 11) + rm.locals ≤ R.locals)
    (hws : ∀ w ∈ ws, ∀ a' U, s.WarmedH U.vm → w.before a' U = true) (hcode : Cond.code y bytes maxL ret ∈ ws) (hinit : ∀ a' U, s.WarmedH U.vm → (Cond.initialized y.cls).before a' U = true) :
    vx_Back l R p e below s sargs y len W9 (PreOf R mc ms Pc) (PostOf Qc mc ms free) (vx_Post XC mc ms free) := by
  intro m meth c A g ig mk a X hg hsize hdg hW hn hp
  have h1 : (headSpec ws rm).pre.before a A.U = true := atoms_intro fun w hw => hws w hw _ _ X.warmed
  have h2 : (Cond.code y bytes maxL ret).before a A.U = true := hws _ hcode _ _ X.warmed
  have h3 : (Cond.initialized y.cls).before a A.U = true := hinit _ _ X.warmed
  have h4 : A.cells + (headSpec ws rm).room.cells ≤ R.cells := by rw [show (headSpec ws rm).room.cells = mc from hrc]; exact hp.1
  have h5 : A.slots + (headSpec ws rm).room.slots ≤ R.slots := by rw [show (headSpec ws rm).room.slots = ms from hrs]; exact hp.2.1
  have hPc : Pc a (A.U.calling g mk a) := hblind _ _ _ _ hp.2.2
  obtain ⟨U, Ls, c0, s0⟩ := A
  dsimp only [Pt.U, Pt.locs, Pt.cells, Pt.slots] at h1 h2 h3 h4 h5 X hn hPc ⊢
  obtain ⟨methY, cY, hmY, hcY, -, hlY, -, -, -, -⟩ := Cond.code_spec hn h2
  obtain ⟨kY, hkY, -⟩ := className_of_methodNamed hn
  have hinitY : kY.init = .initialized := Cond.initialized_spec (findClass_of_methodNamed hn) hkY h3
  have h : At U g.method c below := by rw [hg]; exact X.here
  have hlocals9 : W9 + (maxL + 11) + (headSpec ws rm).room.locals ≤ R.locals := hlocals
  have happ : (headSpec ws rm).appliesLoose y e.platform (U.calling g mk a) = true :=
    Spec.appliesLoose_calling (g := g) h hdg hn hkY hinitY
      (X.room_calling (g := g) (R' := (headSpec ws rm).room) hsize hmY hcY hframes (by rw [hlY]; omega) h4 h5) h1
  obtain ⟨mid, hmid⟩ := h.above
  have hfr : (U.setTop g).frames = (.java g :: mid) ++ below := by rw [State.frames_setTop' g h.top, hmid]; rfl
  obtain ⟨o, s₂, hsteps, -, hend, hq⟩ := Steps.callFree hM p X.admits X.cas X.clock (acts := []) hfr happ hPc trivial
  have hq' : vx_Q Qc XC mc ms free a (U.calling g mk a) o s₂ := hq
  rw [State.frames_setTop' g h.top] at hend
  obtain ⟨g₀, hg0⟩ := Option.isSome_iff_exists.mp h.top
  obtain ⟨r, hr⟩ := State.topJava?_eq_some.mp hg0
  have hr' : (({ U with heap := s₂.heap, slotsUsed := s₂.slotsUsed } : State).setVm s₂.vm).frames = .java g₀ :: r := hr
  rcases hq' with ⟨hqc, L, hfe, hL⟩ | ⟨q, rfl, E, ce, L, hx, hce, hcv, hcl, hW₂, hsm, hL⟩
  · obtain ⟨⟨v, rfl⟩, hW₂, e2, q2, q3, q4, q5, q6⟩ := id hfe
    have e3 : s₂ = ({ (U.calling g mk a).setFrames s₂.frames with heap := s₂.heap, slotsUsed := s₂.slotsUsed } : State).setVm s₂.vm := by
      have : s₂ = ({ s₂ with vm := (U.calling g mk a).vm } : State).setVm s₂.vm := rfl
      rw [e2] at this
      exact this
    obtain ⟨c₂, i₂, len₂, hc₂, hd₂, hf₂⟩ := hend
    have hW' : U.WarmedH s₂.vm := hW₂
    have hcc : c₂ = c := by
      have h1 : s₂.code? g.method = U.code? g.method := by
        rw [State.code?_eq, State.code?_eq, hW'.alike.method?]
      exact Option.some.inj (hc₂.symm.trans (h1.trans h.code))
    subst hcc
    have hlen : len₂ = len := by rw [hdg] at hd₂; cases hd₂; rfl
    subst hlen
    have hs₂ : s₂ = (({ U with heap := s₂.heap, slotsUsed := s₂.slotsUsed } : State).setVm s₂.vm).setTop { g with pc := g.pc + len₂, stack := v.toList ++ g.stack } := by
      refine e3.trans ?_
      rw [hf₂, State.calling_eq h.top, State.setFrames_setFrames, State.setTop_of_frames _ hr', hr]
      rfl
    have hsame : U.sameButNew ({ U with heap := s₂.heap, slotsUsed := s₂.slotsUsed } : State) L mc ms := by
      refine ⟨?_, q2, q3, q4, q5, q6⟩
      obtain ⟨t, ht, -⟩ := State.frames_cons hr
      show ({ U with heap := s₂.heap, slotsUsed := s₂.slotsUsed } : State) = { U.setFrames U.frames with heap := s₂.heap, slotsUsed := s₂.slotsUsed }
      rw [State.setFrames_self ht]
    subst hg
    refine Or.inl ⟨v, ⟨(({ U with heap := s₂.heap, slotsUsed := s₂.slotsUsed } : State).setVm s₂.vm), Ls ++ L, c0 + mc, s0 + ms⟩,
      ⟨X.admits, X.cas, X.clock, X.frames, X.room, X.hears, X.method, X.code, (X.here.setHeapUsed s₂.heap s₂.slotsUsed).setVm hW'.alike, X.tail, State.WarmedH.trans X.warmed hW', X.limits, X.bytes, X.same.trans (hsame.setVm s.vm)⟩,
      ⟨g, mk, s₂, L, rfl, rfl, hqc, rfl, hL, rfl, rfl⟩, ?_⟩
    show Steps p.tables e below _ ((({ U with heap := s₂.heap, slotsUsed := s₂.slotsUsed } : State).setVm s₂.vm).setTop { g with pc := g.pc + len₂, stack := v.toList ++ g.stack })
    rw [← hs₂]
    exact hsteps
  · obtain ⟨e2, q2, q3, q4, q5, q6⟩ := id hsm
    have e3 : s₂ = ({ (U.calling g mk a).setFrames s₂.frames with heap := s₂.heap, slotsUsed := s₂.slotsUsed } : State).setVm s₂.vm := by
      have : s₂ = ({ s₂ with vm := (U.calling g mk a).vm } : State).setVm s₂.vm := rfl
      rw [e2] at this
      exact this
    have hf₂ : s₂.frames = .throwing q :: .java g :: U.frames.tail := hend
    have hW' : U.WarmedH s₂.vm := hW₂
    have hs₂ : s₂ = ((({ U with heap := s₂.heap, slotsUsed := s₂.slotsUsed } : State).setVm s₂.vm).setTop g).pushFrame (.throwing q) := by
      refine e3.trans ?_
      rw [hf₂, State.calling_eq h.top, State.setFrames_setFrames, State.pushFrame, State.frames_setTop _ hr', State.setTop_of_frames _ hr', State.setFrames_setFrames, hr]
      rfl
    have hsame : U.sameButNew ({ U with heap := s₂.heap, slotsUsed := s₂.slotsUsed } : State) L mc ms := by
      refine ⟨?_, q2, q3, q4, q5, q6⟩
      obtain ⟨t, ht, -⟩ := State.frames_cons hr
      show ({ U with heap := s₂.heap, slotsUsed := s₂.slotsUsed } : State) = { U.setFrames U.frames with heap := s₂.heap, slotsUsed := s₂.slotsUsed }
      rw [State.setFrames_self ht]
    subst hg
    refine Or.inr ⟨q, ⟨(({ U with heap := s₂.heap, slotsUsed := s₂.slotsUsed } : State).setVm s₂.vm), Ls ++ L, c0 + mc, s0 + ms⟩,
      ⟨X.admits, X.cas, X.clock, X.frames, X.room, X.hears, X.method, X.code, (X.here.setHeapUsed s₂.heap s₂.slotsUsed).setVm hW'.alike, X.tail, State.WarmedH.trans X.warmed hW', X.limits, X.bytes, X.same.trans (hsame.setVm s.vm)⟩,
      ⟨g, mk, s₂, L, E, ce, rfl, rfl, hx, hce, hcv, hcl, rfl, hL, rfl, rfl⟩, ?_⟩
    show Steps p.tables e below _ (((({ U with heap := s₂.heap, slotsUsed := s₂.slotsUsed } : State).setVm s₂.vm).setTop g).pushFrame (.throwing q))
    rw [← hs₂]
    exact hsteps
end Payer
section Calls
variable {p : Program} {l : Launch} {e : Env} {R : Room} {s : State} {m : MethodId} {args : Array Value} {below : List Frame} {meth : Method} {c : Code} {T : State} {locs : List Loc} {cells slots : Nat}
theorem vx_callV (X : Stand p l e R s m args below meth c T locs cells slots) (hexec : p.tables.exec = Jvm.exec) {own C : String} {index : Nat} {y : MethodName} {bytes : ByteArray} {maxL : Nat} {ret : Option FieldType}
    (hown : s.vm.findClass own = some m.cls) (hlink : (Cond.methodLink own index y).before args s = true) (hinst : (Cond.instanceMethod y).before args s = true) (hsel : (Cond.selects C y y).before args s = true)
    (hcode : (Cond.code y bytes maxL ret).before args s = true) (hy : y.cls ≠ "java/lang/invoke/MethodHandle" ∧ y.cls ≠ "java/lang/invoke/VarHandle")
    {W9 : Nat} {Pre : Pt → Array Value → Prop} {Post : Pt → Array Value → Option Value → Pt → Prop} {PostX : Pt → Array Value → Addr → Pt → Prop} (hK : vx_Back l R p e below s args y 3 W9 Pre Post PostX)
    {b : Addr} {cellB : Cell} (hcell : T.heap[b]? = some cellB) (hobj : cellB.vm.isStatics = false) (hcls : s.vm.findClass C = some cellB.cls)
    {g : JFrame} (hg : g.method = m) (hsize : g.locals.size = c.maxLocals) {argsL rest : List Value} (hlen : ∀ sig, parseMethodDescriptor y.desc = some sig → argsL.length = sig.parameters.length)
    (hstack : g.stack = argsL.reverse ++ .ref b :: rest) (hW : 2 * g.monitorRoom + (rest.map fun v => v.category).sum ≤ W9) (hdg : decode c.code g.pc = .ok (.invokevirtual index, 3))
    (hpre : ∀ vm₁, s.WarmedH vm₁ → Pre ⟨T.setVm vm₁, locs, cells, slots⟩ (Value.ref b :: argsL).toArray) :
    (∃ (v : Option Value) (vm₁ : Vm) (B : Pt), s.WarmedH vm₁ ∧ Stand p l e R s m args below meth c B.U B.locs B.cells B.slots ∧ Post ⟨T.setVm vm₁, locs, cells, slots⟩ (Value.ref b :: argsL).toArray v B ∧
      ∀ target, Steps p.tables e below (B.U.setTop { g with pc := g.pc + 3, stack := v.toList ++ rest }) target → Steps p.tables e below (T.setTop g) target) ∨
    (∃ (q : Addr) (vm₁ : Vm) (B : Pt), s.WarmedH vm₁ ∧ Stand p l e R s m args below meth c B.U B.locs B.cells B.slots ∧ PostX ⟨T.setVm vm₁, locs, cells, slots⟩ (Value.ref b :: argsL).toArray q B ∧
      Steps p.tables e below (T.setTop g) ((B.U.setTop { g with stack := rest }).pushFrame (.throwing q))) := by
  obtain ⟨mk, methM, hnamed, hmethM, hstM, habM⟩ := Cond.instanceMethod_spec hinst
  obtain ⟨methM', cM, hmethM', -, -, -, -, -, -, hsigM⟩ := Cond.code_spec hnamed hcode
  cases hmethM.symm.trans hmethM'
  obtain ⟨c2, r2, m2, q1, q2, q3, q4, kP, hkP, hkPi⟩ := Cond.selects_spec hsel
  cases hcls.symm.trans q1
  cases (State.methodFound?_of_named hnamed hy).symm.trans q2
  cases hnamed.symm.trans q3
  have hselP : selectMethod e.platform s.vm cellB.cls mk = .method mk := by rw [Launch.admits_selectMethod X.admits]; exact q4
  obtain ⟨vm₁, X₁, hstep₁⟩ := X.invokevirtual hexec hown hlink hnamed hmethM hstM hkP hkPi hy (a := b) (cell := cellB) hcell
    (fun z h => by rw [h] at hobj; cases hobj) hselP hmethM habM hkP hkPi (g := g) hg (argsL := argsL) (rest := rest) (hlen _ hsigM) hstack hdg
  rcases hK m meth c ⟨T.setVm vm₁, locs, cells, slots⟩ { g with stack := rest } (.invokevirtual index) mk (Value.ref b :: argsL).toArray X₁ hg hsize hdg hW (X₁.named hnamed) (hpre vm₁ X₁.warmed) with ⟨v, B, X', hpost, hsteps⟩ | ⟨q, B, X', hpost, hsteps⟩
  · exact Or.inl ⟨v, vm₁, B, X₁.warmed, X', hpost, fun target h => hstep₁ _ fun acts => by rw [doInvoke_state]; exact hsteps.trans h⟩
  · exact Or.inr ⟨q, vm₁, B, X₁.warmed, X', hpost, hstep₁ _ fun acts => by rw [doInvoke_state]; exact hsteps⟩
theorem vx_callS (X : Stand p l e R s m args below meth c T locs cells slots) (hexec : p.tables.exec = Jvm.exec) {own : String} {index : Nat} {y : MethodName} {bytes : ByteArray} {maxL : Nat} {ret : Option FieldType}
    (hown : s.vm.findClass own = some m.cls) (hlink : (Cond.methodLink own index y).before args s = true) (hstat : (Cond.static y).before args s = true) (hinit : (Cond.initialized y.cls).before args s = true)
    (hcode : (Cond.code y bytes maxL ret).before args s = true) (hy : y.cls ≠ "java/lang/invoke/MethodHandle" ∧ y.cls ≠ "java/lang/invoke/VarHandle")
    {W9 : Nat} {Pre : Pt → Array Value → Prop} {Post : Pt → Array Value → Option Value → Pt → Prop} {PostX : Pt → Array Value → Addr → Pt → Prop} (hK : vx_Back l R p e below s args y 3 W9 Pre Post PostX)
    {g : JFrame} (hg : g.method = m) (hsize : g.locals.size = c.maxLocals) {argsL rest : List Value} (hlen : ∀ sig, parseMethodDescriptor y.desc = some sig → argsL.length = sig.parameters.length)
    (hstack : g.stack = argsL.reverse ++ rest) (hW : 2 * g.monitorRoom + (rest.map fun v => v.category).sum ≤ W9) (hdg : decode c.code g.pc = .ok (.invokestatic index, 3))
    (hpre : ∀ vm₁, s.WarmedH vm₁ → Pre ⟨T.setVm vm₁, locs, cells, slots⟩ argsL.toArray) :
    (∃ (v : Option Value) (vm₁ : Vm) (B : Pt), s.WarmedH vm₁ ∧ Stand p l e R s m args below meth c B.U B.locs B.cells B.slots ∧ Post ⟨T.setVm vm₁, locs, cells, slots⟩ argsL.toArray v B ∧
      ∀ target, Steps p.tables e below (B.U.setTop { g with pc := g.pc + 3, stack := v.toList ++ rest }) target → Steps p.tables e below (T.setTop g) target) ∨
    (∃ (q : Addr) (vm₁ : Vm) (B : Pt), s.WarmedH vm₁ ∧ Stand p l e R s m args below meth c B.U B.locs B.cells B.slots ∧ PostX ⟨T.setVm vm₁, locs, cells, slots⟩ argsL.toArray q B ∧
      Steps p.tables e below (T.setTop g) ((B.U.setTop { g with stack := rest }).pushFrame (.throwing q))) := by
  obtain ⟨mk, hnamed⟩ := Cond.code_named hcode
  obtain ⟨methM, cM, hmethM, -, -, -, -, -, -, hsigM⟩ := Cond.code_spec hnamed hcode
  have hstatic : methM.isStatic = true := Cond.static_spec hnamed hmethM hstat
  obtain ⟨kP, hkP, -⟩ := className_of_methodNamed hnamed
  have hinitP : kP.init = .initialized := Cond.initialized_spec (findClass_of_methodNamed hnamed) hkP hinit
  obtain ⟨vm₁, X₁, hstep₁⟩ := X.invokestatic hexec hown hlink hnamed hmethM hstatic hkP hinitP hy (g := g) hg (argsL := argsL) (rest := rest) (hlen _ hsigM) hstack hdg
  rcases hK m meth c ⟨T.setVm vm₁, locs, cells, slots⟩ { g with stack := rest } (.invokestatic index) mk argsL.toArray X₁ hg hsize hdg hW (X₁.named hnamed) (hpre vm₁ X₁.warmed) with ⟨v, B, X', hpost, hsteps⟩ | ⟨q, B, X', hpost, hsteps⟩
  · exact Or.inl ⟨v, vm₁, B, X₁.warmed, X', hpost, fun target h => hstep₁ _ fun acts => by rw [doInvoke_state]; exact hsteps.trans h⟩
  · exact Or.inr ⟨q, vm₁, B, X₁.warmed, X', hpost, hstep₁ _ fun acts => by rw [doInvoke_state]; exact hsteps⟩
end Calls
theorem vx_cls {s : State} {T : State} {vm₁ : Vm} {E : String} {k : ClassId} (hW : s.WarmedH vm₁) (h : (T.setVm vm₁).vm.findClass E = some k) : s.vm.findClass E = some k := by
  have h1 : vm₁.findClass E = some k := h
  rw [hW.alike.findClass] at h1
  exact h1
/-- the method's frame g, with q thrown over it -/
def vx_W (p : Program) (l : Launch) (e : Env) (R : Room) (s : State) (m : MethodId) (args : Array Value) (below : List Frame) (meth : Method) (c : Code) (H : Heap) (locs : List Loc) (cells slots : Nat) (Q : State → Prop) (g : JFrame) (q : Addr) : Prop :=
  ∀ T : State, T.heap = H → Stand p l e R s m args below meth c T locs cells slots → ∃ t, Steps p.tables e below ((T.setTop g).pushFrame (.throwing q)) t ∧ Q t
def vx_Run (p : Program) (l : Launch) (e : Env) (R : Room) (s : State) (m : MethodId) (args : Array Value) (below : List Frame) (meth : Method) (c : Code) (H : Heap) (locs : List Loc) (cells slots mc ms : Nat) (g : JFrame) (rest : List Value) (Qa : State → Outcome → State → Prop) (XC : String → State → State → Prop) (free : Addr → Prop) : Prop :=
  ∀ T : State, T.heap = H → Stand p l e R s m args below meth c T locs cells slots →
    (∃ (v : Option Value) (st₀ t T' : State) (L : List Loc), st₀.heap = H ∧ Stand p l e R s m args below meth c T' (locs ++ L) (cells + mc) (slots + ms) ∧ (∀ q ∈ L, free q.base) ∧ T'.heap = t.heap ∧ T'.vm = t.vm ∧ Qa st₀ (.returned v) t ∧
      Goes p e below T g T' { g with pc := g.pc + 3, stack := v.toList ++ rest }) ∨
    (∃ (q : Addr) (st₀ t T' : State) (L : List Loc) (E : String) (ce : Cell), st₀.heap = H ∧ Stand p l e R s m args below meth c T' (locs ++ L) (cells + mc) (slots + ms) ∧ (∀ z ∈ L, free z.base) ∧ T'.heap = t.heap ∧ T'.vm = t.vm ∧ XC E st₀ t ∧ t.heap[q]? = some ce ∧ ce.vm = .none ∧ s.vm.findClass E = some ce.cls ∧
      Steps p.tables e below (T.setTop g) ((T'.setTop { g with stack := rest }).pushFrame (.throwing q)))
def vx_X {S : Type} (px : S → Prop) (B : String → S → State → Prop) (A : Nat → Prop) : String → State → State → Prop := fun E st t => ∃ u : S, px u ∧ B E u t ∧ va_F A st t
section Runs
variable {p : Program} {l : Launch} {e : Env} {R : Room} {s : State} {m : MethodId} {args : Array Value} {below : List Frame} {meth : Method} {c : Code} {H : Heap} {locs : List Loc} {cells slots : Nat}
variable {y : MethodName} {bytes cc : ByteArray} {maxL nL mc ms n index : Nat} {ret : Option FieldType} {ws : List Cond} {rm : Room} {Pc : Array Value → State → Prop} {Qc : Array Value → State → Outcome → State → Prop} {XC : String → State → State → Prop} {free : Addr → Prop} {Ts : List Cond} {own C : String} {b : Addr} {As rest : List Value} {g : JFrame}
theorem vx_callBack (cb : CallB R s args own index y bytes maxL ret ws rm mc ms n) (hM : vx_Met l y ws rm Pc Qc XC mc ms free) (hbl : FrameBlind Pc) : vx_Back l R p e below s args y 3 8 (PreOf R mc ms Pc) (PostOf Qc mc ms free) (vx_Post XC mc ms free) := by
  obtain ⟨hrc, hrs, hfr, hlo, hws, hcw, -, hini, -⟩ := cb
  exact vx_back (bytes := bytes) (maxL := maxL) (ret := ret) hM hbl hrc hrs hfr hlo hws hcw (fun a' U hW => word_at hW (Or.inl (by first | rfl | simp [Cond.onTables, Cond.keeps, Cond.steady])) hini)
theorem vx_runV (S : CallFix p m c cc nL s args Ts own) (hM : vx_Met l y ws rm Pc Qc XC mc ms free) (cw : CallW R s args own C index y bytes maxL ret ws rm mc ms n) (hp : PreV s H C b Pc As)
    (hg : g.method = m) (hn : As.length = n) (hsize : g.locals.size = nL) (hstack : g.stack = As.reverse ++ .ref b :: rest) (hW : 2 * g.monitorRoom + (rest.map fun v => v.category).sum ≤ 8) (hdg : decode cc g.pc = .ok (.invokevirtual index, 3)) (hf : cells + mc ≤ R.cells ∧ slots + ms ≤ R.slots) :
    vx_Run p l e R s m args below meth c H locs cells slots mc ms g rest (Qc (Value.ref b :: As).toArray) XC free := by
  have hK : vx_Back l R p e below s args y 3 8 (PreOf R mc ms Pc) (PostOf Qc mc ms free) (vx_Post XC mc ms free) := vx_callBack cw.1 hM hp.1
  obtain ⟨⟨-, -, -, -, -, -, hcode, -, hy, hlen, hl⟩, hin, hse⟩ := cw
  obtain ⟨hx, hb, hml, ho, -⟩ := S
  obtain ⟨-, ⟨cellB, hcB, hoB, hclB⟩, hPc⟩ := hp
  intro T hT X
  rcases vx_callV X hx (C := C) (bytes := bytes) (maxL := maxL) (ret := ret) ho hl hin hse hcode hy hK (by rw [hT]; exact hcB) hoB hclB hg (hsize.trans hml.symm) (argsL := As) (rest := rest) (fun sig h => hn.trans (hlen sig h)) hstack hW (by rw [hb]; exact hdg)
    (fun vm₁ hW₁ => ⟨hf.1, hf.2, hPc (T.setVm vm₁) hT hW₁⟩) with ⟨v, vm₁, ⟨U', l2, c2, s2⟩, hW₁, X', ⟨g', mk, t, L, e1, e2, hq, h1, hL, h2, h3⟩, st⟩ | ⟨q, vm₁, ⟨U', l2, c2, s2⟩, hW₁, X', ⟨g', mk, t, L, E, ce, e1, e2, hq, hce, hcv, hcl, h1, hL, h2, h3⟩, st⟩
  · dsimp only [Pt.U, Pt.locs, Pt.cells, Pt.slots] at X' e1 e2 h1 h2 h3 st
    subst h1; subst h2; subst h3
    exact Or.inl ⟨v, (T.setVm vm₁).calling g' mk (Value.ref b :: As).toArray, t, U', L, hT, X', hL, e1, e2, hq, st⟩
  · dsimp only [Pt.U, Pt.locs, Pt.cells, Pt.slots] at X' e1 e2 h1 h2 h3 st hcl
    subst h1; subst h2; subst h3
    exact Or.inr ⟨q, (T.setVm vm₁).calling g' mk (Value.ref b :: As).toArray, t, U', L, E, ce, hT, X', hL, e1, e2, hq, hce, hcv, vx_cls hW₁ hcl, st⟩
theorem vx_runS (S : CallFix p m c cc nL s args Ts own) (hM : vx_Met l y ws rm Pc Qc XC mc ms free) (cw : CallB R s args own index y bytes maxL ret ws rm mc ms n ∧ (Cond.static y).before args s = true) (hp : PreS s H Pc As)
    (hg : g.method = m) (hn : As.length = n) (hsize : g.locals.size = nL) (hstack : g.stack = As.reverse ++ rest) (hW : 2 * g.monitorRoom + (rest.map fun v => v.category).sum ≤ 8) (hdg : decode cc g.pc = .ok (.invokestatic index, 3)) (hf : cells + mc ≤ R.cells ∧ slots + ms ≤ R.slots) :
    vx_Run p l e R s m args below meth c H locs cells slots mc ms g rest (Qc As.toArray) XC free := by
  have hK : vx_Back l R p e below s args y 3 8 (PreOf R mc ms Pc) (PostOf Qc mc ms free) (vx_Post XC mc ms free) := vx_callBack cw.1 hM hp.1
  obtain ⟨⟨-, -, -, -, -, -, hcode, hini, hy, hlen, hl⟩, hstt⟩ := cw
  obtain ⟨hx, hb, hml, ho, -⟩ := S
  intro T hT X
  rcases vx_callS X hx (bytes := bytes) (maxL := maxL) (ret := ret) ho hl hstt hini hcode hy hK hg (hsize.trans hml.symm) (argsL := As) (rest := rest) (fun sig h => hn.trans (hlen sig h)) hstack hW (by rw [hb]; exact hdg)
    (fun vm₁ hW₁ => ⟨hf.1, hf.2, hp.2 (T.setVm vm₁) hT hW₁⟩) with ⟨v, vm₁, ⟨U', l2, c2, s2⟩, hW₁, X', ⟨g', mk, t, L, e1, e2, hq, h1, hL, h2, h3⟩, st⟩ | ⟨q, vm₁, ⟨U', l2, c2, s2⟩, hW₁, X', ⟨g', mk, t, L, E, ce, e1, e2, hq, hce, hcv, hcl, h1, hL, h2, h3⟩, st⟩
  · dsimp only [Pt.U, Pt.locs, Pt.cells, Pt.slots] at X' e1 e2 h1 h2 h3 st
    subst h1; subst h2; subst h3
    exact Or.inl ⟨v, (T.setVm vm₁).calling g' mk As.toArray, t, U', L, hT, X', hL, e1, e2, hq, st⟩
  · dsimp only [Pt.U, Pt.locs, Pt.cells, Pt.slots] at X' e1 e2 h1 h2 h3 st hcl
    subst h1; subst h2; subst h3
    exact Or.inr ⟨q, (T.setVm vm₁).calling g' mk As.toArray, t, U', L, E, ce, hT, X', hL, e1, e2, hq, hce, hcv, vx_cls hW₁ hcl, st⟩
end Runs
section Rows
variable {p : Program} {l : Launch} {e : Env} {R : Room} {s : State} {m : MethodId} {args : Array Value} {below : List Frame} {meth : Method} {c : Code} {H : Heap} {locs : List Loc} {cells slots : Nat} {Q : State → Prop}
variable {mc ms : Nat} {free : Addr → Prop} {A0 A1 : Nat → Prop} {H0 : Heap} {a : Array Value} {pc : Nat} {ls : Array Slot} {st0 rest : List Value}
theorem vx_keep {st₀ t T' : State} {L : List Loc} (h0 : st₀.heap = H) (e1 : T'.heap = t.heap) (hS : va_S A0 H0 H locs) (hA : ∀ q, q < H.size → A1 q → A0 q) (hf : ∀ q, free q → A0 q) (hL : ∀ q ∈ L, free q.base) (hF : va_F A1 st₀ t) :
    H.size ≤ T'.heap.size ∧ (∀ q : Nat, q < H.size → ¬ A1 q → T'.heap[q]? = H[q]?) ∧ va_S A0 H0 T'.heap (locs ++ L) := by
  obtain ⟨hz, hk⟩ := hF
  rw [h0] at hz hk
  exact ⟨by rw [e1]; exact hz, fun q h1 h2 => by rw [e1]; exact hk q h1 h2,
    ⟨Nat.le_trans hS.1 (by rw [e1]; exact hz), fun q h1 h2 => by rw [e1, hk q (Nat.lt_of_lt_of_le h1 hS.1) (fun z => h2 (hA q (Nat.lt_of_lt_of_le h1 hS.1) z))]; exact hS.2.1 q h1 h2, fun q hq => by
      rcases List.mem_append.mp hq with h | h
      · exact hS.2.2 q h
      · exact hf _ (hL q h)⟩⟩
theorem vx_calli {S SX : Type} {post : Int32 → S → Prop} {px : SX → Prop} {B : S → State → Prop} {BX : String → SX → State → Prop} {AX : Nat → Prop} (hr : vx_Run p l e R s m args below meth c H locs cells slots mc ms (F0 m pc ls st0) rest (va_Qi post B A1 a) (vx_X px BX AX) free) (hS : va_S A0 H0 H locs) (hA : ∀ q, q < H.size → A1 q → A0 q) (hf : ∀ q, free q → A0 q) (hAX : ∀ q, q < H.size → AX q → A0 q)
    (kx : ∀ (E : String) (ce : Cell) (q9 : Addr) (u : SX) (t : State) (H1 : Heap) (locs1 : List Loc), t.heap = H1 → s.vm.Alike t.vm → px u → BX E u t → H.size ≤ H1.size → (∀ q : Nat, q < H.size → ¬ AX q → H1[q]? = H[q]?) → va_S A0 H0 H1 locs1 → H1[q9]? = some ce → ce.vm = .none → s.vm.findClass E = some ce.cls → vx_W p l e R s m args below meth c H1 locs1 (cells + mc) (slots + ms) Q (F0 m pc ls rest) q9)
    (kk : ∀ (r : Int32) (u : S) (t : State) (H1 : Heap) (locs1 : List Loc), t.heap = H1 → s.vm.Alike t.vm → post r u → B u t → H.size ≤ H1.size → (∀ q : Nat, q < H.size → ¬ A1 q → H1[q]? = H[q]?) → va_S A0 H0 H1 locs1 → W p l e R s m args below meth c H1 locs1 (cells + mc) (slots + ms) Q (F0 m (pc + 3) ls (.int r :: rest))) : W p l e R s m args below meth c H locs cells slots Q (F0 m pc ls st0) := by
  intro T hT X
  rcases hr T hT X with ⟨v, st₀, t, T', L, h0, X', hL, e1, e2, ⟨⟨r, u, hv, hp, hb⟩, hF⟩, st⟩ | ⟨q, st₀, t, T', L, E, ce, h0, X', hL, e1, e2, ⟨u, hp, hb, hF⟩, hce, hcv, hcl, st⟩
  · cases hv
    obtain ⟨k1, k2, k3⟩ := vx_keep h0 e1 hS hA hf hL hF
    obtain ⟨t2, a1, b1⟩ := kk r u t T'.heap (locs ++ L) e1.symm (by rw [← e2]; exact X'.warmed.alike) hp hb k1 k2 k3 T' rfl X'
    exact ⟨t2, st t2 a1, b1⟩
  · obtain ⟨k1, k2, k3⟩ := vx_keep h0 e1 hS hAX hf hL hF
    obtain ⟨t2, a1, b1⟩ := kx E ce q u t T'.heap (locs ++ L) e1.symm (by rw [← e2]; exact X'.warmed.alike) hp hb k1 k2 k3 (by rw [e1]; exact hce) hcv hcl T' rfl X'
    exact ⟨t2, st.trans a1, b1⟩
theorem vx_calll {S SX : Type} {post : Int64 → S → Prop} {px : SX → Prop} {B : S → State → Prop} {BX : String → SX → State → Prop} {AX : Nat → Prop} (hr : vx_Run p l e R s m args below meth c H locs cells slots mc ms (F0 m pc ls st0) rest (va_Ql post B A1 a) (vx_X px BX AX) free) (hS : va_S A0 H0 H locs) (hA : ∀ q, q < H.size → A1 q → A0 q) (hf : ∀ q, free q → A0 q) (hAX : ∀ q, q < H.size → AX q → A0 q)
    (kx : ∀ (E : String) (ce : Cell) (q9 : Addr) (u : SX) (t : State) (H1 : Heap) (locs1 : List Loc), t.heap = H1 → s.vm.Alike t.vm → px u → BX E u t → H.size ≤ H1.size → (∀ q : Nat, q < H.size → ¬ AX q → H1[q]? = H[q]?) → va_S A0 H0 H1 locs1 → H1[q9]? = some ce → ce.vm = .none → s.vm.findClass E = some ce.cls → vx_W p l e R s m args below meth c H1 locs1 (cells + mc) (slots + ms) Q (F0 m pc ls rest) q9)
    (kk : ∀ (r : Int64) (u : S) (t : State) (H1 : Heap) (locs1 : List Loc), t.heap = H1 → s.vm.Alike t.vm → post r u → B u t → H.size ≤ H1.size → (∀ q : Nat, q < H.size → ¬ A1 q → H1[q]? = H[q]?) → va_S A0 H0 H1 locs1 → W p l e R s m args below meth c H1 locs1 (cells + mc) (slots + ms) Q (F0 m (pc + 3) ls (.long r :: rest))) : W p l e R s m args below meth c H locs cells slots Q (F0 m pc ls st0) := by
  intro T hT X
  rcases hr T hT X with ⟨v, st₀, t, T', L, h0, X', hL, e1, e2, ⟨⟨r, u, hv, hp, hb⟩, hF⟩, st⟩ | ⟨q, st₀, t, T', L, E, ce, h0, X', hL, e1, e2, ⟨u, hp, hb, hF⟩, hce, hcv, hcl, st⟩
  · cases hv
    obtain ⟨k1, k2, k3⟩ := vx_keep h0 e1 hS hA hf hL hF
    obtain ⟨t2, a1, b1⟩ := kk r u t T'.heap (locs ++ L) e1.symm (by rw [← e2]; exact X'.warmed.alike) hp hb k1 k2 k3 T' rfl X'
    exact ⟨t2, st t2 a1, b1⟩
  · obtain ⟨k1, k2, k3⟩ := vx_keep h0 e1 hS hAX hf hL hF
    obtain ⟨t2, a1, b1⟩ := kx E ce q u t T'.heap (locs ++ L) e1.symm (by rw [← e2]; exact X'.warmed.alike) hp hb k1 k2 k3 (by rw [e1]; exact hce) hcv hcl T' rfl X'
    exact ⟨t2, st.trans a1, b1⟩
theorem vx_callf {S SX : Type} {post : UInt32 → S → Prop} {px : SX → Prop} {B : S → State → Prop} {BX : String → SX → State → Prop} {AX : Nat → Prop} (hr : vx_Run p l e R s m args below meth c H locs cells slots mc ms (F0 m pc ls st0) rest (va_Qf post B A1 a) (vx_X px BX AX) free) (hS : va_S A0 H0 H locs) (hA : ∀ q, q < H.size → A1 q → A0 q) (hf : ∀ q, free q → A0 q) (hAX : ∀ q, q < H.size → AX q → A0 q)
    (kx : ∀ (E : String) (ce : Cell) (q9 : Addr) (u : SX) (t : State) (H1 : Heap) (locs1 : List Loc), t.heap = H1 → s.vm.Alike t.vm → px u → BX E u t → H.size ≤ H1.size → (∀ q : Nat, q < H.size → ¬ AX q → H1[q]? = H[q]?) → va_S A0 H0 H1 locs1 → H1[q9]? = some ce → ce.vm = .none → s.vm.findClass E = some ce.cls → vx_W p l e R s m args below meth c H1 locs1 (cells + mc) (slots + ms) Q (F0 m pc ls rest) q9)
    (kk : ∀ (r : UInt32) (u : S) (t : State) (H1 : Heap) (locs1 : List Loc), t.heap = H1 → s.vm.Alike t.vm → post r u → B u t → H.size ≤ H1.size → (∀ q : Nat, q < H.size → ¬ A1 q → H1[q]? = H[q]?) → va_S A0 H0 H1 locs1 → W p l e R s m args below meth c H1 locs1 (cells + mc) (slots + ms) Q (F0 m (pc + 3) ls (.float r :: rest))) : W p l e R s m args below meth c H locs cells slots Q (F0 m pc ls st0) := by
  intro T hT X
  rcases hr T hT X with ⟨v, st₀, t, T', L, h0, X', hL, e1, e2, ⟨⟨r, u, hv, hp, hb⟩, hF⟩, st⟩ | ⟨q, st₀, t, T', L, E, ce, h0, X', hL, e1, e2, ⟨u, hp, hb, hF⟩, hce, hcv, hcl, st⟩
  · cases hv
    obtain ⟨k1, k2, k3⟩ := vx_keep h0 e1 hS hA hf hL hF
    obtain ⟨t2, a1, b1⟩ := kk r u t T'.heap (locs ++ L) e1.symm (by rw [← e2]; exact X'.warmed.alike) hp hb k1 k2 k3 T' rfl X'
    exact ⟨t2, st t2 a1, b1⟩
  · obtain ⟨k1, k2, k3⟩ := vx_keep h0 e1 hS hAX hf hL hF
    obtain ⟨t2, a1, b1⟩ := kx E ce q u t T'.heap (locs ++ L) e1.symm (by rw [← e2]; exact X'.warmed.alike) hp hb k1 k2 k3 (by rw [e1]; exact hce) hcv hcl T' rfl X'
    exact ⟨t2, st.trans a1, b1⟩
theorem vx_calld {S SX : Type} {post : UInt64 → S → Prop} {px : SX → Prop} {B : S → State → Prop} {BX : String → SX → State → Prop} {AX : Nat → Prop} (hr : vx_Run p l e R s m args below meth c H locs cells slots mc ms (F0 m pc ls st0) rest (va_Qd post B A1 a) (vx_X px BX AX) free) (hS : va_S A0 H0 H locs) (hA : ∀ q, q < H.size → A1 q → A0 q) (hf : ∀ q, free q → A0 q) (hAX : ∀ q, q < H.size → AX q → A0 q)
    (kx : ∀ (E : String) (ce : Cell) (q9 : Addr) (u : SX) (t : State) (H1 : Heap) (locs1 : List Loc), t.heap = H1 → s.vm.Alike t.vm → px u → BX E u t → H.size ≤ H1.size → (∀ q : Nat, q < H.size → ¬ AX q → H1[q]? = H[q]?) → va_S A0 H0 H1 locs1 → H1[q9]? = some ce → ce.vm = .none → s.vm.findClass E = some ce.cls → vx_W p l e R s m args below meth c H1 locs1 (cells + mc) (slots + ms) Q (F0 m pc ls rest) q9)
    (kk : ∀ (r : UInt64) (u : S) (t : State) (H1 : Heap) (locs1 : List Loc), t.heap = H1 → s.vm.Alike t.vm → post r u → B u t → H.size ≤ H1.size → (∀ q : Nat, q < H.size → ¬ A1 q → H1[q]? = H[q]?) → va_S A0 H0 H1 locs1 → W p l e R s m args below meth c H1 locs1 (cells + mc) (slots + ms) Q (F0 m (pc + 3) ls (.double r :: rest))) : W p l e R s m args below meth c H locs cells slots Q (F0 m pc ls st0) := by
  intro T hT X
  rcases hr T hT X with ⟨v, st₀, t, T', L, h0, X', hL, e1, e2, ⟨⟨r, u, hv, hp, hb⟩, hF⟩, st⟩ | ⟨q, st₀, t, T', L, E, ce, h0, X', hL, e1, e2, ⟨u, hp, hb, hF⟩, hce, hcv, hcl, st⟩
  · cases hv
    obtain ⟨k1, k2, k3⟩ := vx_keep h0 e1 hS hA hf hL hF
    obtain ⟨t2, a1, b1⟩ := kk r u t T'.heap (locs ++ L) e1.symm (by rw [← e2]; exact X'.warmed.alike) hp hb k1 k2 k3 T' rfl X'
    exact ⟨t2, st t2 a1, b1⟩
  · obtain ⟨k1, k2, k3⟩ := vx_keep h0 e1 hS hAX hf hL hF
    obtain ⟨t2, a1, b1⟩ := kx E ce q u t T'.heap (locs ++ L) e1.symm (by rw [← e2]; exact X'.warmed.alike) hp hb k1 k2 k3 (by rw [e1]; exact hce) hcv hcl T' rfl X'
    exact ⟨t2, st.trans a1, b1⟩
theorem vx_callv {S SX : Type} {post : S → Prop} {px : SX → Prop} {B : S → State → Prop} {BX : String → SX → State → Prop} {AX : Nat → Prop} (hr : vx_Run p l e R s m args below meth c H locs cells slots mc ms (F0 m pc ls st0) rest (va_Qv post B A1 a) (vx_X px BX AX) free) (hS : va_S A0 H0 H locs) (hA : ∀ q, q < H.size → A1 q → A0 q) (hf : ∀ q, free q → A0 q) (hAX : ∀ q, q < H.size → AX q → A0 q)
    (kx : ∀ (E : String) (ce : Cell) (q9 : Addr) (u : SX) (t : State) (H1 : Heap) (locs1 : List Loc), t.heap = H1 → s.vm.Alike t.vm → px u → BX E u t → H.size ≤ H1.size → (∀ q : Nat, q < H.size → ¬ AX q → H1[q]? = H[q]?) → va_S A0 H0 H1 locs1 → H1[q9]? = some ce → ce.vm = .none → s.vm.findClass E = some ce.cls → vx_W p l e R s m args below meth c H1 locs1 (cells + mc) (slots + ms) Q (F0 m pc ls rest) q9)
    (kk : ∀ (u : S) (t : State) (H1 : Heap) (locs1 : List Loc), t.heap = H1 → s.vm.Alike t.vm → post u → B u t → H.size ≤ H1.size → (∀ q : Nat, q < H.size → ¬ A1 q → H1[q]? = H[q]?) → va_S A0 H0 H1 locs1 → W p l e R s m args below meth c H1 locs1 (cells + mc) (slots + ms) Q (F0 m (pc + 3) ls (rest))) : W p l e R s m args below meth c H locs cells slots Q (F0 m pc ls st0) := by
  intro T hT X
  rcases hr T hT X with ⟨v, st₀, t, T', L, h0, X', hL, e1, e2, ⟨⟨u, hv, hp, hb⟩, hF⟩, st⟩ | ⟨q, st₀, t, T', L, E, ce, h0, X', hL, e1, e2, ⟨u, hp, hb, hF⟩, hce, hcv, hcl, st⟩
  · cases hv
    obtain ⟨k1, k2, k3⟩ := vx_keep h0 e1 hS hA hf hL hF
    obtain ⟨t2, a1, b1⟩ := kk u t T'.heap (locs ++ L) e1.symm (by rw [← e2]; exact X'.warmed.alike) hp hb k1 k2 k3 T' rfl X'
    exact ⟨t2, st t2 a1, b1⟩
  · obtain ⟨k1, k2, k3⟩ := vx_keep h0 e1 hS hAX hf hL hF
    obtain ⟨t2, a1, b1⟩ := kx E ce q u t T'.heap (locs ++ L) e1.symm (by rw [← e2]; exact X'.warmed.alike) hp hb k1 k2 k3 (by rw [e1]; exact hce) hcv hcl T' rfl X'
    exact ⟨t2, st.trans a1, b1⟩
/-- caught by the row x of this method's table; the rows ahead don't take it -/
theorem vx_catch {own name : String} {E : String} {ce : Cell} {q : Addr} (hown : s.vm.findClass own = some m.cls) (pre : List ExceptionTableEntry) (x : ExceptionTableEntry) (suf : List ExceptionTableEntry) (hsplit : c.exceptionTable.toList = pre ++ x :: suf)
    (hpass : ∀ z ∈ pre, covers z pc = false ∨ (z.catchType ≠ 0 ∧ ∃ nm : String, (Cond.classLink own z.catchType nm).before args s = true ∧ va_Nc E nm s)) (hx : covers x pc = true) (h0 : x.catchType ≠ 0)
    (hlink : (Cond.classLink own x.catchType name).before args s = true) (hcast : (Cond.castable E name).before args s = true) (hcell : H[q]? = some ce) (hv : ce.vm = .none) (hcl : s.vm.findClass E = some ce.cls)
    (kk : W p l e R s m args below meth c H locs cells slots Q (F0 m x.handlerPc ls [.ref q])) : vx_W p l e R s m args below meth c H locs cells slots Q (F0 m pc ls rest) q := by
  intro T hT X
  have hpl : e.platform.magicAccessors = ({} : Platform).magicAccessors := by rw [X.admits.platform]
  obtain ⟨c3, c4, hc3, hc4, hasg⟩ := Cond.castable_spec hcast
  cases Option.some.inj (hc3.symm.trans hcl)
  obtain ⟨c5, hc5, hcl5⟩ := Cond.classLink_spec hown hlink e.platform hpl
  cases Option.some.inj (hc4.symm.trans hc5)
  obtain ⟨vm', X', st⟩ := X.thenCaughtThrough q (g := F0 m pc ls rest) rfl (Steps.refl _) (by rw [hT]; exact hcell) (by rw [hv]; rfl) (by obtain ⟨k9, h9, -⟩ := Vm.findClass_spec hcl; exact ⟨k9, h9⟩) pre x suf hsplit
    (fun z hz => by
      rcases hpass z hz with h | ⟨hz0, nm, hl1, hn1⟩
      · exact Or.inl h
      · obtain ⟨c6, hc6, hcl6⟩ := Cond.classLink_spec hown hl1 e.platform hpl
        obtain ⟨a8, b8, h1, h2, h3⟩ := hn1
        cases Option.some.inj (h1.symm.trans hcl)
        cases Option.some.inj (h2.symm.trans hc6)
        exact Or.inr ⟨hz0, _, hcl6, h3⟩) hx (Or.inr ⟨h0, c4, hcl5, hasg⟩)
  obtain ⟨t, a1, b1⟩ := kk (T.setVm vm') hT X'
  exact ⟨t, st.trans a1, b1⟩
end Rows
section Ends
variable {p : Program} {l : Launch} {e : Env} {R : Room} {s : State} {m : MethodId} {args : Array Value} {below : List Frame} {meth : Method} {c : Code} {H : Heap} {locs : List Loc} {cells slots : Nat} {Q : State → Prop}
variable {mc ms : Nat} {free : Addr → Prop} {A0 A1 : Nat → Prop} {H0 : Heap} {a : Array Value} {ls : Array Slot} {st0 rest : List Value}
variable {Qc : Array Value → State → Outcome → State → Prop} {XC : String → State → State → Prop}
/-- what a body that may throw owes at its end -/
def vx_MQ (below : List Frame) (Qc : Array Value → State → Outcome → State → Prop) (XC : String → State → State → Prop) (a : Array Value) (s : State) (mc ms : Nat) (free : Addr → Prop) : State → Prop := fun t =>
  ∃ o, t.status = .running ∧ Ended t below o ∧ vx_Q Qc XC mc ms free a s o t
theorem vx_ret {g : JFrame} {mc ms : Nat} (k : W p l e R s m args below meth c H locs cells slots (MQ below Qc args s mc ms free) g) : W p l e R s m args below meth c H locs cells slots (vx_MQ below Qc XC args s mc ms free) g := by
  intro T hT X
  obtain ⟨t, a1, o, b1, b2, b3, b4⟩ := k T hT X
  exact ⟨t, a1, o, b1, b2, Or.inl ⟨b3, b4⟩⟩
/-- not caught here: it goes on to the caller -/
theorem vx_widen {g : JFrame} {q : Addr} {k n : Nat} (h1 : cells ≤ k) (h2 : slots ≤ n) (kk : vx_W p l e R s m args below meth c H locs k n Q g q) : vx_W p l e R s m args below meth c H locs cells slots Q g q := fun T hT X => kk T hT (stand_widen X h1 h2)
theorem vx_out {pc : Nat} {E : String} {ce : Cell} {q : Addr} {mc ms : Nat} (hout : ∀ x ∈ c.exceptionTable.toList, covers x pc = false) (hlocks : meth.locks = false) (hcell : H[q]? = some ce) (hv : ce.vm = .none) (hcl : s.vm.findClass E = some ce.cls)
    (hx : ∀ t : State, t.heap = H → s.vm.Alike t.vm → XC E s t) (hf : ∀ z ∈ locs, free z.base) (hc : cells ≤ mc) (hs : slots ≤ ms) :
    vx_W p l e R s m args below meth c H locs cells slots (vx_MQ below Qc XC args s mc ms free) (F0 m pc ls rest) q := by
  intro T hT X
  obtain ⟨st1, hrun, hend, hW, hsm⟩ := X.leaveThrown q (g := F0 m pc ls rest) rfl rfl rfl hout hlocks
  have hcell9 : (T.setFrames (.throwing q :: below)).heap[q]? = some ce := by
    show T.heap[q]? = some ce
    rw [hT]; exact hcell
  exact ⟨_, st1, .threw q, hrun, hend, Or.inr ⟨q, rfl, E, ce, locs, hx _ hT hW.alike, hcell9, hv, hcl, hW, hsm.mono hc hs, hf⟩⟩
theorem vx_frame {U : State} {k n : Nat} (h : s.sameButNew ({ U with vm := s.vm } : State) locs k n) : s.heap.size ≤ U.heap.size ∧ ∀ q : Nat, q < s.heap.size → (∀ z ∈ locs, z.base ≠ q) → U.heap[q]? = s.heap[q]? := by
  obtain ⟨-, h2, -, -, -, h6⟩ := h
  refine ⟨h2, fun q hq hz => ?_⟩
  obtain ⟨c9, e1, e2, e3, e4⟩ := h6 q _ (Array.getElem?_eq_getElem hq)
  have hs : c9.slots = (s.heap[q]).slots := Array.ext_getElem? fun i => e4 i fun hm => hz _ hm rfl
  have h9 : c9 = s.heap[q] := by
    rw [hs] at e2
    exact e2
  have e5 : U.heap[q]? = some c9 := e1
  rw [e5, h9, Array.getElem?_eq_getElem hq]
/-- the words of a throw but the four that speak of the heap -/
def vx_no (w : Cond) : Bool := decide (w ≠ .isRef (.static Bundle.tN "UNASSIGNED_STACK" Bundle.steD)) && decide (w ≠ .isRef (.static Bundle.tN "SUPPRESSED_SENTINEL" Bundle.listD)) && decide (w ≠ .laysStatic Bundle.tN "UNASSIGNED_STACK" Bundle.steD) && decide (w ≠ .laysStatic Bundle.tN "SUPPRESSED_SENTINEL" Bundle.listD)
def vx_at0 (own : String) (ic : Nat) (X : String) (names : List String) : List Cond := (Bundle.ownAtoms0 own ic X names).filter vx_no
def vx_atS (own : String) (ic : Nat) (X : String) (names : List String) : List Cond := (Bundle.ownAtoms own ic X names).filter vx_no
/-- a word that the tables alone decide, or a good one -/
def vx_ot (w : Cond) : Bool := w.onTables || goodWord w
theorem vx_ot_at {args a' : Array Value} {s U : State} {w : Cond} (hW : s.WarmedH U.vm) (hvm : s.vm = U.vm) (hg : vx_ot w = true) (h : w.before args s = true) : w.before a' U = true := by
  simp only [vx_ot, Bool.or_eq_true] at hg
  rcases hg with hg | hg
  · exact va_tabs hg hvm h
  · exact word_at hW (good_of_word hg) h
/-- a list's words: the good ones out of the method's own list, the others by premises of their own -/
theorem vx_hat {args : Array Value} {s : State} {L B : List Cond} (h1 : ∀ w ∈ L.filter goodWord, w.before args s = true) (h2 : ∀ w ∈ L.filter (fun w => !goodWord w), w ∈ B) (h3 : ∀ w ∈ B, w.before args s = true) : ∀ w ∈ L, w.before args s = true := by
  intro w hw
  by_cases g : goodWord w = true
  · exact h1 w (List.mem_filter.mpr ⟨hw, g⟩)
  · refine h3 w (h2 w (List.mem_filter.mpr ⟨hw, ?_⟩))
    show (!goodWord w) = true
    cases hgw : goodWord w
    · rfl
    · exact absurd hgw g
theorem vx_c {args : Array Value} {s : State} {w : Cond} {B : List Cond} (h : w.before args s = true) (t : ∀ w ∈ B, w.before args s = true) : ∀ w' ∈ w :: B, w'.before args s = true := fun w' h' => (List.mem_cons.mp h').elim (fun e => by rw [e]; exact h) (t w')
theorem vx_n {args : Array Value} {s : State} : ∀ w ∈ ([] : List Cond), w.before args s = true := fun _ h => nomatch h
theorem vx_own {args : Array Value} {s : State} {L : List Cond} (h1 : ∀ w ∈ L.filter vx_no, w.before args s = true)
    (hU : (Cond.isRef (.static Bundle.tN "UNASSIGNED_STACK" Bundle.steD)).before args s = true) (hN : (Cond.isRef (.static Bundle.tN "SUPPRESSED_SENTINEL" Bundle.listD)).before args s = true)
    (lU : (Cond.laysStatic Bundle.tN "UNASSIGNED_STACK" Bundle.steD).before args s = true) (lN : (Cond.laysStatic Bundle.tN "SUPPRESSED_SENTINEL" Bundle.listD).before args s = true) : ∀ w ∈ L, w.before args s = true := by
  intro w hw
  by_cases e1 : w = .isRef (.static Bundle.tN "UNASSIGNED_STACK" Bundle.steD)
  · rw [e1]; exact hU
  · by_cases e2 : w = .isRef (.static Bundle.tN "SUPPRESSED_SENTINEL" Bundle.listD)
    · rw [e2]; exact hN
    · by_cases e3 : w = .laysStatic Bundle.tN "UNASSIGNED_STACK" Bundle.steD
      · rw [e3]; exact lU
      · by_cases e4 : w = .laysStatic Bundle.tN "SUPPRESSED_SENTINEL" Bundle.listD
        · rw [e4]; exact lN
        · exact h1 w (List.mem_filter.mpr ⟨hw, by unfold vx_no; rw [decide_eq_true e1, decide_eq_true e2, decide_eq_true e3, decide_eq_true e4]; rfl⟩)
/-- where a static field lies, its class's statics cell in H -/
def vx_L (C n d : String) (A : Nat → Prop) (U : State) (H : Heap) : Prop := ∃ (c : ClassId) (k : Class) (i : Nat) (f : Field) (a : Nat) (cell : Cell), U.vm.findClass C = some c ∧ U.fieldFound? C n d = some (c, k, i, f) ∧ f.isStatic = true ∧ k.statics = some a ∧ H[a]? = some cell ∧ cell.vm.isStatics = true ∧ cell.cls = c ∧ f.slot < cell.slots.size ∧ k.staticTypes[f.slot]? = some f.type ∧ ¬ A a
theorem vx_L.moved {C n d : String} {A : Nat → Prop} {u U : State} {H : Heap} (hvm : u.vm.Alike U.vm) (h : vx_L C n d A u H) : vx_L C n d A U H := by
  obtain ⟨c, k, i, f, a, cell, h1, h2, h3, h4, h5, h6, h7, h8, h9, h10⟩ := h
  obtain ⟨k', hi', he⟩ := State.fieldFound?_setVm hvm h2
  exact ⟨c, k', i, f, a, cell, by rw [hvm.findClass]; exact h1, hi', h3, by rw [he]; exact h4, h5, h6, h7, h8, by rw [he]; exact h9, h10⟩
theorem vx_L.kept {C n d : String} {A : Nat → Prop} {U : State} {H H1 : Heap} (h : vx_L C n d A U H) (hq : ∀ a : Nat, a < H.size → ¬ A a → H1[a]? = H[a]?) : vx_L C n d A U H1 := by
  obtain ⟨c, k, i, f, a, cell, h1, h2, h3, h4, h5, h6, h7, h8, h9, h10⟩ := h
  exact ⟨c, k, i, f, a, cell, h1, h2, h3, h4, by rw [hq a (Array.getElem?_eq_some_iff.mp h5).1 h10]; exact h5, h6, h7, h8, h9, h10⟩
theorem vx_L.narrow {C n d : String} {A B : Nat → Prop} {U : State} {H : Heap} (h : vx_L C n d A U H) (hAB : ∀ q, B q → A q) : vx_L C n d B U H := by
  obtain ⟨c, k, i, f, a, cell, h1, h2, h3, h4, h5, h6, h7, h8, h9, h10⟩ := h
  exact ⟨c, k, i, f, a, cell, h1, h2, h3, h4, h5, h6, h7, h8, h9, fun z => h10 (hAB _ z)⟩
theorem vx_L.word {C n d : String} {A : Nat → Prop} {s : State} {args : Array Value} (h : vx_L C n d A s s.heap) : (Cond.laysStatic C n d).before args s = true := by
  obtain ⟨c, k, i, f, a, cell, h1, h2, h3, h4, h5, h6, h7, h8, h9, -⟩ := h
  show (Cond.laysStatic C n d).holds args s none s [] = true
  exact Cond.laysStatic_of h1 h2 h3 h4 h5 h6 h7 h8 h9
/-- .. and what it holds: null or some reference -/
def vx_Zq (C n d : String) (A : Nat → Prop) (U : State) (H : Heap) : Prop := va_Zq C n d A U H ∧ vx_L C n d A U H
theorem vx_Zq.moved {C n d : String} {A : Nat → Prop} {u U : State} {H : Heap} (hvm : u.vm.Alike U.vm) (h : vx_Zq C n d A u H) : vx_Zq C n d A U H := ⟨va_Zq.moved hvm h.1, vx_L.moved hvm h.2⟩
theorem vx_Zq.kept {C n d : String} {A : Nat → Prop} {U : State} {H H1 : Heap} (h : vx_Zq C n d A U H) (hq : ∀ a : Nat, a < H.size → ¬ A a → H1[a]? = H[a]?) : vx_Zq C n d A U H1 := ⟨va_Zq.kept h.1 hq, vx_L.kept h.2 hq⟩
theorem vx_Zq.narrow {C n d : String} {A B : Nat → Prop} {U : State} {H : Heap} (h : vx_Zq C n d A U H) (hAB : ∀ q, B q → A q) : vx_Zq C n d B U H := ⟨va_Zq.narrow h.1 hAB, vx_L.narrow h.2 hAB⟩
theorem vx_Zqof {args : Array Value} {s : State} {C n d : String} {A : Nat → Prop} (hl : (Cond.laysStatic C n d).before args s = true) (hini : (Cond.initialized C).before args s = true) (h : (Cond.isRef (.static C n d)).before args s = true) (hA : ∀ a : Nat, a < s.heap.size → ¬ A a) : vx_Zq C n d A s s.heap := by
  refine ⟨va_Zqof hl hini h hA, ?_⟩
  obtain ⟨c, k, i, f, a, cell, h1, h2, h3, h4, h5, h6, h7, h8, h9⟩ := Cond.laysStatic_spec hl
  exact ⟨c, k, i, f, a, cell, h1, h2, h3, h4, h5, h6, h7, h8, h9, hA a (Array.getElem?_eq_some_iff.mp h5).1⟩
theorem vx_isRef {C n d : String} {v : Value} {A : Nat → Prop} {s : State} {args : Array Value} (h : va_Z C n d v A s s.heap) (hv : v.isRef = true) : (Cond.isRef (.static C n d)).before args s = true := by
  obtain ⟨cf, kf, fi, f, a, cell, h1, h2, h3, h4, h5, h6, h7, -⟩ := h
  have he : (Term.static C n d).eval args s none [] s = some v := by
    simp [Term.eval, State.fieldNamed?, h1, h2, h4, h5, h6, h7]
  simp only [Cond.before, Cond.holds, Cond.value, he]
  cases v <;> simp_all [Value.isRef]
theorem vx_isRefq {C n d : String} {A : Nat → Prop} {s : State} {args : Array Value} (h : va_Zq C n d A s s.heap) : (Cond.isRef (.static C n d)).before args s = true := by
  rcases h with h | ⟨t, h⟩
  · exact vx_isRef h rfl
  · exact vx_isRef h rfl
/-- the same frame, seen from here: as if the method were called anew in this heap -/
theorem vx_rebase {T : State} (X : Stand p l e R s m args below meth c T locs cells slots) {R' : Room} (hf : R'.frames ≤ R.frames) (hl : R'.locals ≤ R.locals) (hc : cells + R'.cells ≤ R.cells) (hs : slots + R'.slots ≤ R.slots) :
    Stand p l e R' ((T.setVm s.vm).setFrames (.invoking m args :: below)) m args below meth c T [] 0 0 := by
  have htop : (T.setVm s.vm).topJava?.isSome := X.here.top
  have hF : ((T.setVm s.vm).setFrames (.invoking m args :: below)).frames = .invoking m args :: below := State.frames_setFrames _ (State.cur_lt_of_top htop)
  obtain ⟨g₀, hg0⟩ := Option.isSome_iff_exists.mp htop
  obtain ⟨r, hr⟩ := State.topJava?_eq_some.mp hg0
  have hl9 : e.platform.stackLimits (T.setVm s.vm).me = e.platform.stackLimits s.me := X.limits
  have hb9 : (T.setVm s.vm).me.stackBytes = s.me.stackBytes := X.bytes
  refine ⟨X.admits, X.cas, X.clock, hF, ?_, X.hears, X.method, X.code, X.here, X.tail, X.warmed, ?_, ?_, ?_⟩
  · have h := X.room
    have hU : ((T.setVm s.vm).setFrames (.invoking m args :: below)).localsInUse = s.localsInUse := by
      rw [State.localsInUse_invoking hF (meth := meth) (c := c) X.method X.code, State.localsInUse_invoking X.frames X.method X.code]
    simp only [State.hasRoom, Bool.and_eq_true, decide_eq_true_eq] at h ⊢
    obtain ⟨⟨⟨⟨h1, h2, h3, h4, h5, h6⟩, h7⟩, h8⟩, h9⟩ := h
    rw [X.frames, List.length_cons] at h2 h3
    have q1 := X.heapSize
    have q2 := X.used
    simp only [hF, hU, List.length_cons, State.stackLimits_setFrames, State.stackBytes_setFrames, hl9, hb9]
    refine ⟨⟨⟨⟨by omega, by omega, by omega, by omega, by omega, h6⟩, ?_⟩, ?_⟩, X.book⟩
    · show T.heap.size + R'.cells ≤ e.platform.maxCells
      omega
    · show T.slotsUsed + R'.slots ≤ e.platform.maxSlots
      omega
  · rw [State.stackLimits_setFrames]; rfl
  · rw [State.stackBytes_setFrames]; rfl
  · refine ⟨?_, Nat.le_refl _, Nat.le_refl _, ?_, ?_, fun a c9 h9 => ⟨c9, h9, rfl, rfl, fun _ _ => rfl⟩⟩
    · obtain ⟨t, ht, -⟩ := State.frames_cons hr
      show T.setVm s.vm = { ((T.setVm s.vm).setFrames (.invoking m args :: below)).setFrames (T.setVm s.vm).frames with heap := T.heap, slotsUsed := T.slotsUsed }
      rw [State.setFrames_setFrames, State.setFrames_self ht]
      rfl
    · show T.slotsUsed = T.slotsUsed + ((T.heap.toList.drop T.heap.size).map (·.slots.size)).sum
      rw [List.drop_eq_nil_of_le (Nat.le_of_eq Array.length_toList)]
      rfl
    · show ((T.heap.toList.drop T.heap.size).map (·.slots.size)).sum ≤ 0
      rw [List.drop_eq_nil_of_le (Nat.le_of_eq Array.length_toList)]
      exact Nat.le_refl _
/-- 'throw new E()': new; dup; invokespecial; athrow -/
theorem vx_throw0 {cc : ByteArray} {pc : Nat} (hexec : p.tables.exec = Jvm.exec) (hb : c.code = cc) (hl : l.stackTraces = false) {own cls : String} {names : List String} {ik ic mc ms : Nat} {A : Nat → Prop}
    (hown : s.vm.findClass own = some m.cls) (hcls : Bundle.fit cls = true) (hnames : ∀ n ∈ names, Bundle.fit n = true)
    (hk : (Cond.classLink own ik cls).before args s = true) (hini : (Cond.initialized cls).before args s = true) (hat : ∀ w ∈ vx_at0 own ic cls names, w.before args s = true)
    (hgood : ∀ w ∈ Cond.classLink own ik cls :: Cond.initialized cls :: vx_at0 own ic cls names, vx_ot w = true)
    (hU : vx_Zq Bundle.tN "UNASSIGNED_STACK" Bundle.steD A s s.heap) (hN : vx_Zq Bundle.tN "SUPPRESSED_SENTINEL" Bundle.listD A s s.heap) (hS : va_S A s.heap H locs) (hsize : ls.size = c.maxLocals)
    (d0 : decode cc pc = .ok (.new ik, 3)) (d3 : decode cc (pc + 3) = .ok (.dup, 1)) (d4 : decode cc (pc + 4) = .ok (.invokespecial ic, 3)) (d7 : decode cc (pc + 7) = .ok (.athrow, 1))
    (hout : ∀ x ∈ c.exceptionTable.toList, covers x (pc + 7) = false)
    (hRframes : names.length + 3 < R.frames) (hRlocals : (rest.map fun v => v.category).sum + (13 * (names.length + 1) + 42) ≤ R.locals) (hRcells : cells + 1 ≤ R.cells) (hRslots : slots + 6 ≤ R.slots) (hlocks : meth.locks = false)
    (hx : ∀ t : State, s.vm.Alike t.vm → H.size ≤ t.heap.size → (∀ q : Nat, q < H.size → t.heap[q]? = H[q]?) → XC cls s t)
    (hf : ∀ z ∈ locs, free z.base) (hc : cells + 1 ≤ mc) (hs : slots + 6 ≤ ms) :
    W p l e R s m args below meth c H locs cells slots (vx_MQ below Qc XC args s mc ms free) (F0 m pc ls rest) := by
  intro T hT X
  have htr : e.platform.stackTraces = false := (show e.platform.stackTraces = l.stackTraces by rw [X.admits.platform]).trans hl
  have Y := vx_rebase X (R' := { frames := R.frames, locals := R.locals, cells := 1, slots := 6 }) (Nat.le_refl _) (Nat.le_refl _) hRcells hRslots
  obtain ⟨s', hA⟩ : ∃ z, z = (T.setVm s.vm).setFrames (.invoking m args :: below) := ⟨_, rfl⟩
  rw [← hA] at Y
  have hvm : s'.vm = s.vm := by rw [hA]; rfl
  have hhp : s'.heap = H := by rw [hA]; exact hT
  have hW0 : s.WarmedH s'.vm := by rw [hvm]; exact State.WarmedH.refl s
  have hat' : ∀ w ∈ vx_at0 own ic cls names, w.before args s' = true := fun w hw => vx_ot_at hW0 hvm.symm (hgood w (List.mem_cons_of_mem _ (List.mem_cons_of_mem _ hw))) (hat w hw)
  have hk' : (Cond.classLink own ik cls).before args s' = true := vx_ot_at hW0 hvm.symm (hgood _ List.mem_cons_self) hk
  have hini' : (Cond.initialized cls).before args s' = true := vx_ot_at hW0 hvm.symm (hgood _ (List.mem_cons_of_mem _ List.mem_cons_self)) hini
  have hU' : vx_Zq Bundle.tN "UNASSIGNED_STACK" Bundle.steD A s' s'.heap := by rw [hhp]; exact vx_Zq.moved hW0.alike (hU.kept hS.2.1)
  have hN' : vx_Zq Bundle.tN "SUPPRESSED_SENTINEL" Bundle.listD A s' s'.heap := by rw [hhp]; exact vx_Zq.moved hW0.alike (hN.kept hS.2.1)
  have h : ∀ w ∈ Bundle.ownAtoms0 own ic cls names, w.before args s' = true := vx_own hat' (vx_isRefq hU'.1) (vx_isRefq hN'.1) hU'.2.word hN'.2.word
  have hown' : s'.vm.findClass own = some m.cls := by rw [hvm]; exact hown
  have hins : (Cond.instantiable cls 6).before args s' = true := h _ (by simp [Bundle.ownAtoms0])
  obtain ⟨vm₁, cX, kX, hfX, hkX, -, -, X₁, st1⟩ := Y.newCold hexec (own := own) (C := cls) (index := ik) (n := 6) hown' hk' hins hini'
    (g := F0 m pc ls rest) rfl (by rw [hb]; exact d0) (Nat.le_refl _) (Nat.le_refl _)
  generalize hT1 : (T.setVm vm₁).pushCell { cls := cX, slots := kX.instanceTypes.map defaultValue, vm := .none } = T1 at X₁ st1
  have hcat : (Value.ref T.heap.size).category = 1 := rfl
  have hcellA : T1.heap[T.heap.size]? = some (freshCell cX kX) := by rw [← hT1]; exact State.heap_pushCell_size _ _
  have d3' : decode c.code (pc + 3) = .ok (.dup, 1) := by rw [hb]; exact d3
  obtain ⟨U, hsteps, hrun, hend, hW, hsame, ce, hce, hO⟩ := X₁.ctorThrow0 hexec htr (own := own) (cls := cls) (names := names) (ic := ic) hown' hcls hnames h (fun x hx => nomatch hx) hfX hkX hcellA (by rw [hhp, hT]; exact Nat.le_refl _)
    (g := { method := m, pc := pc + 4, locals := ls, stack := .ref T.heap.size :: .ref T.heap.size :: rest, locked := none }) rfl hsize rfl rfl (rest := rest) rfl
    (by rw [hb]; exact d4) (by rw [hb]; exact d7) hout hRframes (by simp only [List.map_cons, List.sum_cons, hcat]; omega) hlocks
  obtain ⟨f1, f2⟩ := vx_frame hsame
  rw [hhp] at f1 f2
  have hWs : s.WarmedH U.vm := State.WarmedH.trans hW0 hW
  have hcl : s.vm.findClass cls = some ce.cls := by
    have h9 := hO.cls
    rw [hvm] at h9
    exact h9
  have hall : s.sameButNew ({ U with vm := s.vm } : State) locs mc ms := by
    subst hA
    obtain ⟨e1, e2⟩ := hsame
    rw [State.setFrames_setFrames] at e1
    have h2 : (T.setVm s.vm).sameButNew ({ U with vm := s.vm } : State) [] (0 + 1) (0 + 6) := ⟨e1, e2⟩
    have h3 := X.same.trans h2
    rw [List.append_nil] at h3
    exact h3.mono hc hs
  refine ⟨U, ?_, .threw T.heap.size, hrun, hend, Or.inr ⟨T.heap.size, rfl, cls, ce, locs, hx U hWs.alike f1 (fun q hq => f2 q hq (fun z hz => nomatch hz)), hce, hO.vm, hcl, hWs, hall, hf⟩⟩
  refine st1 _ ?_
  show Steps p.tables e below (T1.setTop { method := m, pc := pc + 3, locals := ls, stack := .ref T.heap.size :: rest, locked := none }) _
  jvm_step X₁.here [X₁.here.top, hexec, d3', Value.category]
  exact hsteps
/-- 'throw new E("text")': new; dup; ldc; invokespecial; athrow -/
theorem vx_throwS {cc : ByteArray} {pc : Nat} (hexec : p.tables.exec = Jvm.exec) (hb : c.code = cc) (hl : l.stackTraces = false) {own cls text : String} {names : List String} {ik is ic mc ms sa : Nat} {A : Nat → Prop}
    (hown : s.vm.findClass own = some m.cls) (hcls : Bundle.fit cls = true) (hnames : ∀ n ∈ names, Bundle.fit n = true)
    (hk : (Cond.classLink own ik cls).before args s = true) (hini : (Cond.initialized cls).before args s = true) (hstr : vk_R own is text sa s) (hat : ∀ w ∈ vx_atS own ic cls names, w.before args s = true)
    (hgood : ∀ w ∈ Cond.classLink own ik cls :: Cond.initialized cls :: vx_atS own ic cls names, vx_ot w = true)
    (hU : vx_Zq Bundle.tN "UNASSIGNED_STACK" Bundle.steD A s s.heap) (hN : vx_Zq Bundle.tN "SUPPRESSED_SENTINEL" Bundle.listD A s s.heap) (hS : va_S A s.heap H locs) (hsize : ls.size = c.maxLocals)
    (d0 : decode cc pc = .ok (.new ik, 3)) (d3 : decode cc (pc + 3) = .ok (.dup, 1)) (d4 : decode cc (pc + 4) = .ok (.ldc is, 2)) (d6 : decode cc (pc + 6) = .ok (.invokespecial ic, 3)) (d9 : decode cc (pc + 9) = .ok (.athrow, 1))
    (hout : ∀ x ∈ c.exceptionTable.toList, covers x (pc + 9) = false)
    (hRframes : names.length + 3 < R.frames) (hRlocals : (rest.map fun v => v.category).sum + (13 * (names.length + 1) + 43) ≤ R.locals) (hRcells : cells + 1 ≤ R.cells) (hRslots : slots + 6 ≤ R.slots) (hlocks : meth.locks = false)
    (hx : ∀ t : State, s.vm.Alike t.vm → H.size ≤ t.heap.size → (∀ q : Nat, q < H.size → t.heap[q]? = H[q]?) → XC cls s t)
    (hf : ∀ z ∈ locs, free z.base) (hc : cells + 1 ≤ mc) (hs : slots + 6 ≤ ms) :
    W p l e R s m args below meth c H locs cells slots (vx_MQ below Qc XC args s mc ms free) (F0 m pc ls rest) := by
  intro T hT X
  have htr : e.platform.stackTraces = false := (show e.platform.stackTraces = l.stackTraces by rw [X.admits.platform]).trans hl
  have Y := vx_rebase X (R' := { frames := R.frames, locals := R.locals, cells := 1, slots := 6 }) (Nat.le_refl _) (Nat.le_refl _) hRcells hRslots
  obtain ⟨s', hA⟩ : ∃ z, z = (T.setVm s.vm).setFrames (.invoking m args :: below) := ⟨_, rfl⟩
  rw [← hA] at Y
  have hvm : s'.vm = s.vm := by rw [hA]; rfl
  have hhp : s'.heap = H := by rw [hA]; exact hT
  have hW0 : s.WarmedH s'.vm := by rw [hvm]; exact State.WarmedH.refl s
  have hat' : ∀ w ∈ vx_atS own ic cls names, w.before args s' = true := fun w hw => vx_ot_at hW0 hvm.symm (hgood w (List.mem_cons_of_mem _ (List.mem_cons_of_mem _ hw))) (hat w hw)
  have hk' : (Cond.classLink own ik cls).before args s' = true := vx_ot_at hW0 hvm.symm (hgood _ List.mem_cons_self) hk
  have hini' : (Cond.initialized cls).before args s' = true := vx_ot_at hW0 hvm.symm (hgood _ (List.mem_cons_of_mem _ List.mem_cons_self)) hini
  have hU' : vx_Zq Bundle.tN "UNASSIGNED_STACK" Bundle.steD A s' s'.heap := by rw [hhp]; exact vx_Zq.moved hW0.alike (hU.kept hS.2.1)
  have hN' : vx_Zq Bundle.tN "SUPPRESSED_SENTINEL" Bundle.listD A s' s'.heap := by rw [hhp]; exact vx_Zq.moved hW0.alike (hN.kept hS.2.1)
  have h : ∀ w ∈ Bundle.ownAtoms own ic cls names, w.before args s' = true := vx_own hat' (vx_isRefq hU'.1) (vx_isRefq hN'.1) hU'.2.word hN'.2.word
  have hown' : s'.vm.findClass own = some m.cls := by rw [hvm]; exact hown
  have hins : (Cond.instantiable cls 6).before args s' = true := h _ (by simp [Bundle.ownAtoms])
  obtain ⟨vm₁, cX, kX, hfX, hkX, -, -, X₁, st1⟩ := Y.newCold hexec (own := own) (C := cls) (index := ik) (n := 6) hown' hk' hins hini'
    (g := F0 m pc ls rest) rfl (by rw [hb]; exact d0) (Nat.le_refl _) (Nat.le_refl _)
  generalize hT1 : (T.setVm vm₁).pushCell { cls := cX, slots := kX.instanceTypes.map defaultValue, vm := .none } = T1 at X₁ st1
  have hcat : (Value.ref T.heap.size).category = 1 := rfl
  have hcellA : T1.heap[T.heap.size]? = some (freshCell cX kX) := by rw [← hT1]; exact State.heap_pushCell_size _ _
  have d3' : decode c.code (pc + 3) = .ok (.dup, 1) := by rw [hb]; exact d3
  have d4' : decode c.code (pc + 4) = .ok (.ldc is, 2) := by rw [hb]; exact d4
  have hstr' : vk_R own is text sa s' := vk_R.warm hW0 hstr
  obtain ⟨U, hsteps, hrun, hend, hW, hsame, ce, hce, hO⟩ := X₁.ctorThrowS hexec htr (own := own) (cls := cls) (names := names) (ic := ic) hown' hcls hnames h (fun x hx => nomatch hx) hfX hkX hcellA (by rw [hhp, hT]; exact Nat.le_refl _) (msg := .ref sa) rfl
    (g := { method := m, pc := pc + 6, locals := ls, stack := .ref sa :: .ref T.heap.size :: .ref T.heap.size :: rest, locked := none }) rfl hsize rfl rfl (rest := rest) rfl
    (by rw [hb]; exact d6) (by rw [hb]; exact d9) hout hRframes (by simp only [List.map_cons, List.sum_cons, hcat]; omega) hlocks
  obtain ⟨f1, f2⟩ := vx_frame hsame
  rw [hhp] at f1 f2
  have hWs : s.WarmedH U.vm := State.WarmedH.trans hW0 hW
  have hcl : s.vm.findClass cls = some ce.cls := by
    have h9 := hO.cls
    rw [hvm] at h9
    exact h9
  have hall : s.sameButNew ({ U with vm := s.vm } : State) locs mc ms := by
    subst hA
    obtain ⟨e1, e2⟩ := hsame
    rw [State.setFrames_setFrames] at e1
    have h2 : (T.setVm s.vm).sameButNew ({ U with vm := s.vm } : State) [] (0 + 1) (0 + 6) := ⟨e1, e2⟩
    have h3 := X.same.trans h2
    rw [List.append_nil] at h3
    exact h3.mono hc hs
  refine ⟨U, ?_, .threw T.heap.size, hrun, hend, Or.inr ⟨T.heap.size, rfl, cls, ce, locs, hx U hWs.alike f1 (fun q hq => f2 q hq (fun z hz => nomatch hz)), hce, hO.vm, hcl, hWs, hall, hf⟩⟩
  refine st1 _ ?_
  show Steps p.tables e below (T1.setTop { method := m, pc := pc + 3, locals := ls, stack := .ref T.heap.size :: rest, locked := none }) _
  jvm_step X₁.here [X₁.here.top, hexec, d3', Value.category]
  exact X₁.ldcString hexec (own := own) (text := text) (index := is) (a := sa) hown' hstr'.1 hstr'.2
    (g := { method := m, pc := pc + 4, locals := ls, stack := .ref T.heap.size :: .ref T.heap.size :: rest, locked := none }) rfl d4' _ hsteps
/-- 'throw new E("text")', the text by a wide index -/
theorem vx_throwSW {cc : ByteArray} {pc : Nat} (hexec : p.tables.exec = Jvm.exec) (hb : c.code = cc) (hl : l.stackTraces = false) {own cls text : String} {names : List String} {ik is ic mc ms sa : Nat} {A : Nat → Prop}
    (hown : s.vm.findClass own = some m.cls) (hcls : Bundle.fit cls = true) (hnames : ∀ n ∈ names, Bundle.fit n = true)
    (hk : (Cond.classLink own ik cls).before args s = true) (hini : (Cond.initialized cls).before args s = true) (hstr : vk_R own is text sa s) (hat : ∀ w ∈ vx_atS own ic cls names, w.before args s = true)
    (hgood : ∀ w ∈ Cond.classLink own ik cls :: Cond.initialized cls :: vx_atS own ic cls names, vx_ot w = true)
    (hU : vx_Zq Bundle.tN "UNASSIGNED_STACK" Bundle.steD A s s.heap) (hN : vx_Zq Bundle.tN "SUPPRESSED_SENTINEL" Bundle.listD A s s.heap) (hS : va_S A s.heap H locs) (hsize : ls.size = c.maxLocals)
    (d0 : decode cc pc = .ok (.new ik, 3)) (d3 : decode cc (pc + 3) = .ok (.dup, 1)) (d4 : decode cc (pc + 4) = .ok (.ldc_w is, 3)) (d7 : decode cc (pc + 7) = .ok (.invokespecial ic, 3)) (d10 : decode cc (pc + 10) = .ok (.athrow, 1))
    (hout : ∀ x ∈ c.exceptionTable.toList, covers x (pc + 10) = false)
    (hRframes : names.length + 3 < R.frames) (hRlocals : (rest.map fun v => v.category).sum + (13 * (names.length + 1) + 43) ≤ R.locals) (hRcells : cells + 1 ≤ R.cells) (hRslots : slots + 6 ≤ R.slots) (hlocks : meth.locks = false)
    (hx : ∀ t : State, s.vm.Alike t.vm → H.size ≤ t.heap.size → (∀ q : Nat, q < H.size → t.heap[q]? = H[q]?) → XC cls s t)
    (hf : ∀ z ∈ locs, free z.base) (hc : cells + 1 ≤ mc) (hs : slots + 6 ≤ ms) :
    W p l e R s m args below meth c H locs cells slots (vx_MQ below Qc XC args s mc ms free) (F0 m pc ls rest) := by
  intro T hT X
  have htr : e.platform.stackTraces = false := (show e.platform.stackTraces = l.stackTraces by rw [X.admits.platform]).trans hl
  have Y := vx_rebase X (R' := { frames := R.frames, locals := R.locals, cells := 1, slots := 6 }) (Nat.le_refl _) (Nat.le_refl _) hRcells hRslots
  obtain ⟨s', hA⟩ : ∃ z, z = (T.setVm s.vm).setFrames (.invoking m args :: below) := ⟨_, rfl⟩
  rw [← hA] at Y
  have hvm : s'.vm = s.vm := by rw [hA]; rfl
  have hhp : s'.heap = H := by rw [hA]; exact hT
  have hW0 : s.WarmedH s'.vm := by rw [hvm]; exact State.WarmedH.refl s
  have hat' : ∀ w ∈ vx_atS own ic cls names, w.before args s' = true := fun w hw => vx_ot_at hW0 hvm.symm (hgood w (List.mem_cons_of_mem _ (List.mem_cons_of_mem _ hw))) (hat w hw)
  have hk' : (Cond.classLink own ik cls).before args s' = true := vx_ot_at hW0 hvm.symm (hgood _ List.mem_cons_self) hk
  have hini' : (Cond.initialized cls).before args s' = true := vx_ot_at hW0 hvm.symm (hgood _ (List.mem_cons_of_mem _ List.mem_cons_self)) hini
  have hU' : vx_Zq Bundle.tN "UNASSIGNED_STACK" Bundle.steD A s' s'.heap := by rw [hhp]; exact vx_Zq.moved hW0.alike (hU.kept hS.2.1)
  have hN' : vx_Zq Bundle.tN "SUPPRESSED_SENTINEL" Bundle.listD A s' s'.heap := by rw [hhp]; exact vx_Zq.moved hW0.alike (hN.kept hS.2.1)
  have h : ∀ w ∈ Bundle.ownAtoms own ic cls names, w.before args s' = true := vx_own hat' (vx_isRefq hU'.1) (vx_isRefq hN'.1) hU'.2.word hN'.2.word
  have hown' : s'.vm.findClass own = some m.cls := by rw [hvm]; exact hown
  have hins : (Cond.instantiable cls 6).before args s' = true := h _ (by simp [Bundle.ownAtoms])
  obtain ⟨vm₁, cX, kX, hfX, hkX, -, -, X₁, st1⟩ := Y.newCold hexec (own := own) (C := cls) (index := ik) (n := 6) hown' hk' hins hini'
    (g := F0 m pc ls rest) rfl (by rw [hb]; exact d0) (Nat.le_refl _) (Nat.le_refl _)
  generalize hT1 : (T.setVm vm₁).pushCell { cls := cX, slots := kX.instanceTypes.map defaultValue, vm := .none } = T1 at X₁ st1
  have hcat : (Value.ref T.heap.size).category = 1 := rfl
  have hcellA : T1.heap[T.heap.size]? = some (freshCell cX kX) := by rw [← hT1]; exact State.heap_pushCell_size _ _
  have d3' : decode c.code (pc + 3) = .ok (.dup, 1) := by rw [hb]; exact d3
  have d4' : decode c.code (pc + 4) = .ok (.ldc_w is, 3) := by rw [hb]; exact d4
  have hstr' : vk_R own is text sa s' := vk_R.warm hW0 hstr
  obtain ⟨U, hsteps, hrun, hend, hW, hsame, ce, hce, hO⟩ := X₁.ctorThrowS hexec htr (own := own) (cls := cls) (names := names) (ic := ic) hown' hcls hnames h (fun x hx => nomatch hx) hfX hkX hcellA (by rw [hhp, hT]; exact Nat.le_refl _) (msg := .ref sa) rfl
    (g := { method := m, pc := pc + 7, locals := ls, stack := .ref sa :: .ref T.heap.size :: .ref T.heap.size :: rest, locked := none }) rfl hsize rfl rfl (rest := rest) rfl
    (by rw [hb]; exact d7) (by rw [hb]; exact d10) hout hRframes (by simp only [List.map_cons, List.sum_cons, hcat]; omega) hlocks
  obtain ⟨f1, f2⟩ := vx_frame hsame
  rw [hhp] at f1 f2
  have hWs : s.WarmedH U.vm := State.WarmedH.trans hW0 hW
  have hcl : s.vm.findClass cls = some ce.cls := by
    have h9 := hO.cls
    rw [hvm] at h9
    exact h9
  have hall : s.sameButNew ({ U with vm := s.vm } : State) locs mc ms := by
    subst hA
    obtain ⟨e1, e2⟩ := hsame
    rw [State.setFrames_setFrames] at e1
    have h2 : (T.setVm s.vm).sameButNew ({ U with vm := s.vm } : State) [] (0 + 1) (0 + 6) := ⟨e1, e2⟩
    have h3 := X.same.trans h2
    rw [List.append_nil] at h3
    exact h3.mono hc hs
  refine ⟨U, ?_, .threw T.heap.size, hrun, hend, Or.inr ⟨T.heap.size, rfl, cls, ce, locs, hx U hWs.alike f1 (fun q hq => f2 q hq (fun z hz => nomatch hz)), hce, hO.vm, hcl, hWs, hall, hf⟩⟩
  refine st1 _ ?_
  show Steps p.tables e below (T1.setTop { method := m, pc := pc + 3, locals := ls, stack := .ref T.heap.size :: rest, locked := none }) _
  jvm_step X₁.here [X₁.here.top, hexec, d3', Value.category]
  exact X₁.ldcStringW hexec (own := own) (text := text) (index := is) (a := sa) hown' hstr'.1 hstr'.2
    (g := { method := m, pc := pc + 4, locals := ls, stack := .ref T.heap.size :: .ref T.heap.size :: rest, locked := none }) rfl d4' _ hsteps
end Ends
section Bodies
variable {l : Launch}
theorem vx_ofW {y : MethodName} {ws ws' : List Cond} {rm : Room} {Pc : Array Value → State → Prop} {Qc : Array Value → State → Outcome → State → Prop} {XC : String → State → State → Prop} {mc ms : Nat} {free : Addr → Prop} {cc : ByteArray} {maxL : Nat} {ret : Option FieldType}
    (hy : plainName y.cls = true) (hw : ws = Cond.code y cc maxL ret :: ws')
    (body : ∀ p e s m args below meth c s₁, BodyLoose p l y (headSpec ws rm) cc maxL ret e s m args below meth c s₁ → c.maxLocals = maxL → (∀ x ∈ c.exceptionTable.toList, False) → Pc args s →
      W p l e (headSpec ws rm).room s m args below meth c s.heap [] 0 0 (vx_MQ below Qc XC args s mc ms free) (entryFrame m args maxL)) : vx_Met l y ws rm Pc Qc XC mc ms free := by
  refine MetFree.of_bodyS (code := cc) (maxLocals := maxL) (ret := ret) hy ?_ ?_
  · intro args s m h hn
    obtain ⟨meth, c, h1, h2, h3, h4, h5, h6, -, -⟩ := Cond.code_spec hn (atoms_spec (ws := ws) h _ (by rw [hw]; exact List.mem_cons_self))
    exact ⟨meth, c, h1, h2, h3, h4, h5, h6⟩
  · intro p e s m args below meth c s₁ B hml hP _
    have hh0 : s₁.heap = s.heap := by rw [B.state]; rfl
    have ht : ∀ x ∈ c.exceptionTable.toList, False := by
      obtain ⟨meth9, c9, h1, h2, -, -, -, -, h7, -⟩ := Cond.code_spec B.named (atoms_spec (ws := ws) B.pre _ (by rw [hw]; exact List.mem_cons_self))
      cases Option.some.inj (h1.symm.trans B.method)
      cases Option.some.inj (h2.symm.trans (Stand.of_body B).code)
      intro x hx
      rw [Array.isEmpty_iff.mp h7] at hx
      cases hx
    obtain ⟨t, a1, o, b1, b2, b3⟩ := body p e s m args below meth c s₁ B hml ht hP s₁ hh0 (Stand.of_body B)
    exact ⟨t, o, a1, b1, b2, b3⟩
/-- the table of a body with handlers -/
theorem vx_table {p : Program} {x y : MethodName} {S : Spec} {cc bytes : ByteArray} {maxL maxL' : Nat} {ret ret' : Option FieldType} {e : Env} {s s₁ : State} {m : MethodId} {args : Array Value} {below : List Frame} {meth : Method} {c : Code} {hh : List (Nat × Nat × Nat × Nat)}
    (B : BodyLoose p l y S cc maxL ret e s m args below meth c s₁) (h : (Cond.codeWith y bytes maxL' ret' hh).before args s = true) : c.exceptionTable.toList = tableOf hh := by
  obtain ⟨m9, meth9, c9, hn9, h1, h2, -, -, h6, -⟩ := Cond.codeWith_spec h
  cases Option.some.inj (hn9.symm.trans B.named)
  cases Option.some.inj (h1.symm.trans B.method)
  cases Option.some.inj (h2.symm.trans (Stand.of_body B).code)
  rw [← h6, table_eq]
end Bodies
end VXA
/-! ===== END ===== -/
/-! ===== BEGIN a static call of a method with an exception table ===== -/
section VXS
variable {p : Program} {l : Launch} {e : Env} {R : Room} {s : State} {m : MethodId} {args : Array Value} {below : List Frame} {meth : Method} {c : Code} {T : State} {H : Heap} {locs : List Loc} {cells slots : Nat}
abbrev vx_CSW (R : Room) (s : State) (args : Array Value) (own : String) (index : Nat) (y : MethodName) (bytes : ByteArray) (maxL : Nat) (ret : Option FieldType) (hh : List (Nat × Nat × Nat × Nat)) (ws : List Cond) (rm : Room) (mc ms n : Nat) : Prop :=
  (rm.cells = mc ∧ rm.slots = ms ∧ rm.frames + 1 ≤ R.frames ∧ 8 + (maxL + 11) + rm.locals ≤ R.locals ∧ (∀ w ∈ ws, ∀ (a' : Array Value) (U : State), s.WarmedH U.vm → w.before a' U = true) ∧ Cond.codeWith y bytes maxL ret hh ∈ ws) ∧
  (Cond.codeWith y bytes maxL ret hh).before args s = true ∧ (Cond.initialized y.cls).before args s = true ∧ (y.cls ≠ "java/lang/invoke/MethodHandle" ∧ y.cls ≠ "java/lang/invoke/VarHandle") ∧
  (∀ sig, parseMethodDescriptor y.desc = some sig → n = sig.parameters.length) ∧ (Cond.methodLink own index y).before args s = true ∧ (Cond.static y).before args s = true
theorem vx_cwSW {own : String} {index maxL mc ms : Nat} {y : MethodName} {bytes : ByteArray} {ret : Option FieldType} {hh : List (Nat × Nat × Nat × Nat)} {Ts ws ws' : List Cond} {rm : Room} (n : Nat) (ht : ∀ w ∈ Ts, w.before args s = true) (hT : GoodIn Ts (va_wsS own index y ws)) (hw : ws = Cond.codeWith y bytes maxL ret hh :: ws') (hrc : rm.cells = mc) (hrs : rm.slots = ms)
    (hd : y.cls ≠ "java/lang/invoke/MethodHandle" ∧ y.cls ≠ "java/lang/invoke/VarHandle" ∧ (parseMethodDescriptor y.desc).map (fun d => d.parameters.length) = some n) (hR : rm.frames + 1 ≤ R.frames ∧ 8 + (maxL + 11) + rm.locals ≤ R.locals) :
    vx_CSW R s args own index y bytes maxL ret hh ws rm mc ms n := by
  have ok : ∀ w ∈ va_wsS own index y ws, w.before args s = true := fun w h => ht w (hT w h).1
  have hG : GoodIn Ts ws := fun w h => hT w (by unfold va_wsS; exact List.mem_append_right _ h)
  have hc : Cond.codeWith y bytes maxL ret hh ∈ ws := by rw [hw]; exact List.mem_cons_self
  refine ⟨⟨hrc, hrs, hR.1, hR.2, pay_in ht hG, hc⟩, ht _ (hG _ hc).1, ok _ (by simp [va_wsS]), ⟨hd.1, hd.2.1⟩, fun sig h => ?_, ok _ (by simp [va_wsS]), ok _ (by simp [va_wsS])⟩
  have h2 := hd.2.2
  rw [h] at h2
  exact (Option.some.inj h2).symm
theorem vx_callSW (X : Stand p l e R s m args below meth c T locs cells slots) (hexec : p.tables.exec = Jvm.exec) {own : String} {index : Nat} {y : MethodName} {bytes : ByteArray} {maxL : Nat} {ret : Option FieldType} {hh : List (Nat × Nat × Nat × Nat)}
    (hown : s.vm.findClass own = some m.cls) (hlink : (Cond.methodLink own index y).before args s = true) (hstat : (Cond.static y).before args s = true) (hinit : (Cond.initialized y.cls).before args s = true)
    (hcode : (Cond.codeWith y bytes maxL ret hh).before args s = true) (hy : y.cls ≠ "java/lang/invoke/MethodHandle" ∧ y.cls ≠ "java/lang/invoke/VarHandle")
    {W9 : Nat} {Pre : Pt → Array Value → Prop} {Post : Pt → Array Value → Option Value → Pt → Prop} (hK : Back l R p e below s args y 3 W9 Pre Post)
    {g : JFrame} (hg : g.method = m) (hsize : g.locals.size = c.maxLocals) {argsL rest : List Value} (hlen : ∀ sig, parseMethodDescriptor y.desc = some sig → argsL.length = sig.parameters.length)
    (hstack : g.stack = argsL.reverse ++ rest) (hW : 2 * g.monitorRoom + (rest.map fun v => v.category).sum ≤ W9) (hdg : decode c.code g.pc = .ok (.invokestatic index, 3))
    (hpre : ∀ vm₁, s.WarmedH vm₁ → Pre ⟨T.setVm vm₁, locs, cells, slots⟩ argsL.toArray) :
    ∃ (v : Option Value) (vm₁ : Vm) (B : Pt), s.WarmedH vm₁ ∧ Stand p l e R s m args below meth c B.U B.locs B.cells B.slots ∧ Post ⟨T.setVm vm₁, locs, cells, slots⟩ argsL.toArray v B ∧
      ∀ target, Steps p.tables e below (B.U.setTop { g with pc := g.pc + 3, stack := v.toList ++ rest }) target → Steps p.tables e below (T.setTop g) target := by
  obtain ⟨mk, methM, cM, hnamed, hmethM, -, -, -, -, -, -, hsigM⟩ := Cond.codeWith_spec hcode
  have hstatic : methM.isStatic = true := Cond.static_spec hnamed hmethM hstat
  obtain ⟨kP, hkP, -⟩ := className_of_methodNamed hnamed
  have hinitP : kP.init = .initialized := Cond.initialized_spec (findClass_of_methodNamed hnamed) hkP hinit
  obtain ⟨vm₁, X₁, hstep₁⟩ := X.invokestatic hexec hown hlink hnamed hmethM hstatic hkP hinitP hy (g := g) hg (argsL := argsL) (rest := rest) (hlen _ hsigM) hstack hdg
  obtain ⟨v, B, X', hpost, hsteps⟩ := hK m meth c ⟨T.setVm vm₁, locs, cells, slots⟩ { g with stack := rest } (.invokestatic index) mk argsL.toArray X₁ hg hsize hdg hW (X₁.named hnamed) (hpre vm₁ X₁.warmed)
  exact ⟨v, vm₁, B, X₁.warmed, X', hpost, fun target h => hstep₁ _ fun acts => by rw [doInvoke_state]; exact hsteps.trans h⟩
theorem vx_runSW {y : MethodName} {bytes cc : ByteArray} {maxL nL mc ms n index : Nat} {ret : Option FieldType} {hh : List (Nat × Nat × Nat × Nat)} {ws : List Cond} {rm : Room} {Pc : Array Value → State → Prop} {Qc : Array Value → State → Outcome → State → Prop} {free : Addr → Prop} {Ts : List Cond} {own : String} {As rest : List Value} {g : JFrame}
    (S : CallFix p m c cc nL s args Ts own) (hM : Met l y ws rm Pc Qc mc ms free) (cw : vx_CSW R s args own index y bytes maxL ret hh ws rm mc ms n) (hp : PreS s H Pc As)
    (hg : g.method = m) (hn : As.length = n) (hsize : g.locals.size = nL) (hstack : g.stack = As.reverse ++ rest) (hW : 2 * g.monitorRoom + (rest.map fun v => v.category).sum ≤ 8) (hdg : decode cc g.pc = .ok (.invokestatic index, 3)) (hf : cells + mc ≤ R.cells ∧ slots + ms ≤ R.slots) :
    va_Run p l e R s m args below meth c H locs cells slots mc ms g rest (Qc As.toArray) (free) := by
  obtain ⟨⟨hrc, hrs, hfr, hlo, hws, hcw⟩, hcode, hini, hy, hlen, hl, hstt⟩ := cw
  have hK : Back l R p e below s args y 3 8 (PreOf R mc ms Pc) (PostOf Qc mc ms free) := va_backW (hh := hh) (bytes := bytes) (maxL := maxL) (ret := ret) hM hp.1 hrc hrs hfr hlo hws hcw (fun a' U hW => word_at hW (Or.inl (by first | rfl | simp [Cond.onTables, Cond.keeps, Cond.steady])) hini)
  obtain ⟨hx, hb, hml, ho, -⟩ := S
  intro T hT X
  obtain ⟨v, vm₁, ⟨U', l2, c2, s2⟩, hW₁, X', ⟨g', mk, t, L, e1, e2, hq, h1, hL, h2, h3⟩, st⟩ := vx_callSW X hx (hh := hh) (bytes := bytes) (maxL := maxL) (ret := ret) ho hl hstt hini hcode hy hK hg (hsize.trans hml.symm) (argsL := As) (rest := rest) (fun sig h => hn.trans (hlen sig h)) hstack hW (by rw [hb]; exact hdg)
    (fun vm₁ hW₁ => ⟨hf.1, hf.2, hp.2 (T.setVm vm₁) hT hW₁⟩)
  dsimp only [Pt.U, Pt.locs, Pt.cells, Pt.slots] at X' e1 e2 h1 h2 h3 st
  subst h1; subst h2; subst h3
  exact ⟨v, (T.setVm vm₁).calling g' mk As.toArray, t, U', L, hT, X', hL, e1, e2, hq, st⟩
/-- not caught here, past rows that name other classes: it goes on to the caller -/
theorem vx_outP {p : Program} {l : Launch} {e : Env} {R : Room} {s : State} {m : MethodId} {args : Array Value} {below : List Frame} {meth : Method} {c : Code} {H : Heap} {locs : List Loc} {cells slots : Nat} {free : Addr → Prop} {ls : Array Slot} {rest : List Value} {Qc : Array Value → State → Outcome → State → Prop} {XC : String → State → State → Prop}
    {pc : Nat} {own E : String} {ce : Cell} {q : Addr} {mc ms : Nat} (hown : s.vm.findClass own = some m.cls) (hlocks : meth.locks = false)
    (hpass : ∀ z ∈ c.exceptionTable.toList, covers z pc = false ∨ (z.catchType ≠ 0 ∧ ∃ nm : String, (Cond.classLink own z.catchType nm).before args s = true ∧ va_Nc E nm s)) (hcell : H[q]? = some ce) (hv : ce.vm = .none) (hcl : s.vm.findClass E = some ce.cls)
    (hx : ∀ t : State, t.heap = H → s.vm.Alike t.vm → XC E s t) (hf : ∀ z ∈ locs, free z.base) (hc : cells ≤ mc) (hs : slots ≤ ms) :
    vx_W p l e R s m args below meth c H locs cells slots (vx_MQ below Qc XC args s mc ms free) (F0 m pc ls rest) q := by
  intro T hT X
  have hpl : e.platform.magicAccessors = ({} : Platform).magicAccessors := by rw [X.admits.platform]
  obtain ⟨vm', hW', X', st⟩ := X.outThrough hlocks q (g := F0 m pc ls rest) rfl rfl rfl (cell := ce) (by rw [hT]; exact hcell) (by rw [hv]; rfl)
    (by obtain ⟨k9, h9, -⟩ := Vm.findClass_spec hcl; exact ⟨k9, h9⟩) (fun z hz => by
      rcases hpass z hz with h | ⟨hz0, nm, hl1, hn1⟩
      · exact Or.inl h
      · obtain ⟨c6, hc6, hcl6⟩ := Cond.classLink_spec hown hl1 e.platform hpl
        obtain ⟨a8, b8, h1, h2, h3⟩ := hn1
        cases Option.some.inj (h1.symm.trans hcl)
        cases Option.some.inj (h2.symm.trans hc6)
        exact Or.inr ⟨hz0, _, hcl6, h3⟩)
  obtain ⟨g₀, hfr⟩ := X'.frames_eq
  have hcell9 : ((T.setVm vm').setFrames (.throwing q :: below)).heap[q]? = some ce := by
    show T.heap[q]? = some ce
    rw [hT]; exact hcell
  have hend : Ended ((T.setVm vm').setFrames (.throwing q :: below)) below (.threw q) := State.frames_setFrames _ (State.cur_lt_of_frames hfr)
  refine ⟨(T.setVm vm').setFrames (.throwing q :: below), ?_, .threw q, X'.here.running, hend, Or.inr ⟨q, rfl, E, ce, locs, hx _ hT (X'.ends _).1.alike, hcell9, hv, hcl, (X'.ends _).1, (X'.ends _).2.mono hc hs, hf⟩⟩
  rw [X.pushThrowing_eq]
  exact st
/-- a thing of a world lies in the heap -/
theorem vx_lt {D : va_G} {cl : List vw_C} {ws : va_W} {H1 : Heap} (h : va_P D cl ws H1) {k : Nat} {q : Nat × va_E} (hk : ws[k]? = some q) : q.1 < H1.size := (h k q hk).lt
end VXS
/-! ===== END ===== -/
/-! ===== BEGIN methods with a table of their own: called by a name, returning or throwing ===== -/
section VXH
/-! vx_backW, vx_callVX, vx_callSX, vx_callVW, vx_runVW, vx_runVX, vx_runSX, vx_ofWH follow the same proofs as their sisters above (Free/Laws.lean, Shelf42/LK1.lean); vx_outP calls Shelf42/NT130.lean (outThrough). -/
section
variable {l : Launch} {R : Room} {p : Program} {e : Env} {below : List Frame} {s : State} {sargs : Array Value} {y : MethodName} {len W9 : Nat}
theorem vx_backW {ws : List Cond} {rm : Room} {Pc : Array Value → State → Prop} {Qc : Array Value → State → Outcome → State → Prop} {XC : String → State → State → Prop} {mc ms : Nat} {free : Addr → Prop} {bytes : ByteArray} {maxL : Nat} {ret : Option FieldType} {hh : List (Nat × Nat × Nat × Nat)}
    (hM : vx_Met l y ws rm Pc Qc XC mc ms free) (hblind : FrameBlind Pc) (hrc : rm.cells = mc) (hrs : rm.slots = ms)
    (hframes : rm.frames + 1 ≤ R.frames) (hlocals : W9 + (maxL + 11) + rm.locals ≤ R.locals)
    (hws : ∀ w ∈ ws, ∀ a' U, s.WarmedH U.vm → w.before a' U = true) (hcode : Cond.codeWith y bytes maxL ret hh ∈ ws) (hinit : ∀ a' U, s.WarmedH U.vm → (Cond.initialized y.cls).before a' U = true) :
    vx_Back l R p e below s sargs y len W9 (PreOf R mc ms Pc) (PostOf Qc mc ms free) (vx_Post XC mc ms free) := by
  intro m meth c A g ig mk a X hg hsize hdg hW hn hp
  have h1 : (headSpec ws rm).pre.before a A.U = true := atoms_intro fun w hw => hws w hw _ _ X.warmed
  have h2 : (Cond.codeWith y bytes maxL ret hh).before a A.U = true := hws _ hcode _ _ X.warmed
  have h3 : (Cond.initialized y.cls).before a A.U = true := hinit _ _ X.warmed
  have h4 : A.cells + (headSpec ws rm).room.cells ≤ R.cells := by rw [show (headSpec ws rm).room.cells = mc from hrc]; exact hp.1
  have h5 : A.slots + (headSpec ws rm).room.slots ≤ R.slots := by rw [show (headSpec ws rm).room.slots = ms from hrs]; exact hp.2.1
  have hPc : Pc a (A.U.calling g mk a) := hblind _ _ _ _ hp.2.2
  obtain ⟨U, Ls, c0, s0⟩ := A
  dsimp only [Pt.U, Pt.locs, Pt.cells, Pt.slots] at h1 h2 h3 h4 h5 X hn hPc ⊢
  obtain ⟨m9, methY, cY, hn9, hmY, hcY, -, hlY, -⟩ := Cond.codeWith_spec h2
  cases Option.some.inj (hn9.symm.trans hn)
  obtain ⟨kY, hkY, -⟩ := className_of_methodNamed hn
  have hinitY : kY.init = .initialized := Cond.initialized_spec (findClass_of_methodNamed hn) hkY h3
  have h : At U g.method c below := by rw [hg]; exact X.here
  have hlocals9 : W9 + (maxL + 11) + (headSpec ws rm).room.locals ≤ R.locals := hlocals
  have happ : (headSpec ws rm).appliesLoose y e.platform (U.calling g mk a) = true :=
    Spec.appliesLoose_calling (g := g) h hdg hn hkY hinitY
      (X.room_calling (g := g) (R' := (headSpec ws rm).room) hsize hmY hcY hframes (by rw [hlY]; omega) h4 h5) h1
  obtain ⟨mid, hmid⟩ := h.above
  have hfr : (U.setTop g).frames = (.java g :: mid) ++ below := by rw [State.frames_setTop' g h.top, hmid]; rfl
  obtain ⟨o, s₂, hsteps, -, hend, hq⟩ := Steps.callFree hM p X.admits X.cas X.clock (acts := []) hfr happ hPc trivial
  have hq' : vx_Q Qc XC mc ms free a (U.calling g mk a) o s₂ := hq
  rw [State.frames_setTop' g h.top] at hend
  obtain ⟨g₀, hg0⟩ := Option.isSome_iff_exists.mp h.top
  obtain ⟨r, hr⟩ := State.topJava?_eq_some.mp hg0
  have hr' : (({ U with heap := s₂.heap, slotsUsed := s₂.slotsUsed } : State).setVm s₂.vm).frames = .java g₀ :: r := hr
  rcases hq' with ⟨hqc, L, hfe, hL⟩ | ⟨q, rfl, E, ce, L, hx, hce, hcv, hcl, hW₂, hsm, hL⟩
  · obtain ⟨⟨v, rfl⟩, hW₂, e2, q2, q3, q4, q5, q6⟩ := id hfe
    have e3 : s₂ = ({ (U.calling g mk a).setFrames s₂.frames with heap := s₂.heap, slotsUsed := s₂.slotsUsed } : State).setVm s₂.vm := by
      have : s₂ = ({ s₂ with vm := (U.calling g mk a).vm } : State).setVm s₂.vm := rfl
      rw [e2] at this
      exact this
    obtain ⟨c₂, i₂, len₂, hc₂, hd₂, hf₂⟩ := hend
    have hW' : U.WarmedH s₂.vm := hW₂
    have hcc : c₂ = c := by
      have h1 : s₂.code? g.method = U.code? g.method := by
        rw [State.code?_eq, State.code?_eq, hW'.alike.method?]
      exact Option.some.inj (hc₂.symm.trans (h1.trans h.code))
    subst hcc
    have hlen : len₂ = len := by rw [hdg] at hd₂; cases hd₂; rfl
    subst hlen
    have hs₂ : s₂ = (({ U with heap := s₂.heap, slotsUsed := s₂.slotsUsed } : State).setVm s₂.vm).setTop { g with pc := g.pc + len₂, stack := v.toList ++ g.stack } := by
      refine e3.trans ?_
      rw [hf₂, State.calling_eq h.top, State.setFrames_setFrames, State.setTop_of_frames _ hr', hr]
      rfl
    have hsame : U.sameButNew ({ U with heap := s₂.heap, slotsUsed := s₂.slotsUsed } : State) L mc ms := by
      refine ⟨?_, q2, q3, q4, q5, q6⟩
      obtain ⟨t, ht, -⟩ := State.frames_cons hr
      show ({ U with heap := s₂.heap, slotsUsed := s₂.slotsUsed } : State) = { U.setFrames U.frames with heap := s₂.heap, slotsUsed := s₂.slotsUsed }
      rw [State.setFrames_self ht]
    subst hg
    refine Or.inl ⟨v, ⟨(({ U with heap := s₂.heap, slotsUsed := s₂.slotsUsed } : State).setVm s₂.vm), Ls ++ L, c0 + mc, s0 + ms⟩,
      ⟨X.admits, X.cas, X.clock, X.frames, X.room, X.hears, X.method, X.code, (X.here.setHeapUsed s₂.heap s₂.slotsUsed).setVm hW'.alike, X.tail, State.WarmedH.trans X.warmed hW', X.limits, X.bytes, X.same.trans (hsame.setVm s.vm)⟩,
      ⟨g, mk, s₂, L, rfl, rfl, hqc, rfl, hL, rfl, rfl⟩, ?_⟩
    show Steps p.tables e below _ ((({ U with heap := s₂.heap, slotsUsed := s₂.slotsUsed } : State).setVm s₂.vm).setTop { g with pc := g.pc + len₂, stack := v.toList ++ g.stack })
    rw [← hs₂]
    exact hsteps
  · obtain ⟨e2, q2, q3, q4, q5, q6⟩ := id hsm
    have e3 : s₂ = ({ (U.calling g mk a).setFrames s₂.frames with heap := s₂.heap, slotsUsed := s₂.slotsUsed } : State).setVm s₂.vm := by
      have : s₂ = ({ s₂ with vm := (U.calling g mk a).vm } : State).setVm s₂.vm := rfl
      rw [e2] at this
      exact this
    have hf₂ : s₂.frames = .throwing q :: .java g :: U.frames.tail := hend
    have hW' : U.WarmedH s₂.vm := hW₂
    have hs₂ : s₂ = ((({ U with heap := s₂.heap, slotsUsed := s₂.slotsUsed } : State).setVm s₂.vm).setTop g).pushFrame (.throwing q) := by
      refine e3.trans ?_
      rw [hf₂, State.calling_eq h.top, State.setFrames_setFrames, State.pushFrame, State.frames_setTop _ hr', State.setTop_of_frames _ hr', State.setFrames_setFrames, hr]
      rfl
    have hsame : U.sameButNew ({ U with heap := s₂.heap, slotsUsed := s₂.slotsUsed } : State) L mc ms := by
      refine ⟨?_, q2, q3, q4, q5, q6⟩
      obtain ⟨t, ht, -⟩ := State.frames_cons hr
      show ({ U with heap := s₂.heap, slotsUsed := s₂.slotsUsed } : State) = { U.setFrames U.frames with heap := s₂.heap, slotsUsed := s₂.slotsUsed }
      rw [State.setFrames_self ht]
    subst hg
    refine Or.inr ⟨q, ⟨(({ U with heap := s₂.heap, slotsUsed := s₂.slotsUsed } : State).setVm s₂.vm), Ls ++ L, c0 + mc, s0 + ms⟩,
      ⟨X.admits, X.cas, X.clock, X.frames, X.room, X.hears, X.method, X.code, (X.here.setHeapUsed s₂.heap s₂.slotsUsed).setVm hW'.alike, X.tail, State.WarmedH.trans X.warmed hW', X.limits, X.bytes, X.same.trans (hsame.setVm s.vm)⟩,
      ⟨g, mk, s₂, L, E, ce, rfl, rfl, hx, hce, hcv, hcl, rfl, hL, rfl, rfl⟩, ?_⟩
    show Steps p.tables e below _ (((({ U with heap := s₂.heap, slotsUsed := s₂.slotsUsed } : State).setVm s₂.vm).setTop g).pushFrame (.throwing q))
    rw [← hs₂]
    exact hsteps
end
variable {p : Program} {l : Launch} {e : Env} {R : Room} {s : State} {m : MethodId} {args : Array Value} {below : List Frame} {meth : Method} {c : Code} {T : State} {H : Heap} {locs : List Loc} {cells slots : Nat}
theorem vx_callVX (X : Stand p l e R s m args below meth c T locs cells slots) (hexec : p.tables.exec = Jvm.exec) {own C : String} {index : Nat} {y : MethodName} {bytes : ByteArray} {maxL : Nat} {ret : Option FieldType} {hh : List (Nat × Nat × Nat × Nat)}
    (hown : s.vm.findClass own = some m.cls) (hlink : (Cond.methodLink own index y).before args s = true) (hinst : (Cond.instanceMethod y).before args s = true) (hsel : (Cond.selects C y y).before args s = true)
    (hcode : (Cond.codeWith y bytes maxL ret hh).before args s = true) (hy : y.cls ≠ "java/lang/invoke/MethodHandle" ∧ y.cls ≠ "java/lang/invoke/VarHandle")
    {W9 : Nat} {Pre : Pt → Array Value → Prop} {Post : Pt → Array Value → Option Value → Pt → Prop} {PostX : Pt → Array Value → Addr → Pt → Prop} (hK : vx_Back l R p e below s args y 3 W9 Pre Post PostX)
    {b : Addr} {cellB : Cell} (hcell : T.heap[b]? = some cellB) (hobj : cellB.vm.isStatics = false) (hcls : s.vm.findClass C = some cellB.cls)
    {g : JFrame} (hg : g.method = m) (hsize : g.locals.size = c.maxLocals) {argsL rest : List Value} (hlen : ∀ sig, parseMethodDescriptor y.desc = some sig → argsL.length = sig.parameters.length)
    (hstack : g.stack = argsL.reverse ++ .ref b :: rest) (hW : 2 * g.monitorRoom + (rest.map fun v => v.category).sum ≤ W9) (hdg : decode c.code g.pc = .ok (.invokevirtual index, 3))
    (hpre : ∀ vm₁, s.WarmedH vm₁ → Pre ⟨T.setVm vm₁, locs, cells, slots⟩ (Value.ref b :: argsL).toArray) :
    (∃ (v : Option Value) (vm₁ : Vm) (B : Pt), s.WarmedH vm₁ ∧ Stand p l e R s m args below meth c B.U B.locs B.cells B.slots ∧ Post ⟨T.setVm vm₁, locs, cells, slots⟩ (Value.ref b :: argsL).toArray v B ∧
      ∀ target, Steps p.tables e below (B.U.setTop { g with pc := g.pc + 3, stack := v.toList ++ rest }) target → Steps p.tables e below (T.setTop g) target) ∨
    (∃ (q : Addr) (vm₁ : Vm) (B : Pt), s.WarmedH vm₁ ∧ Stand p l e R s m args below meth c B.U B.locs B.cells B.slots ∧ PostX ⟨T.setVm vm₁, locs, cells, slots⟩ (Value.ref b :: argsL).toArray q B ∧
      Steps p.tables e below (T.setTop g) ((B.U.setTop { g with stack := rest }).pushFrame (.throwing q))) := by
  obtain ⟨mk, methM, hnamed, hmethM, hstM, habM⟩ := Cond.instanceMethod_spec hinst
  obtain ⟨m8, methM', cM, hn8, hmethM', -, -, -, -, -, -, hsigM⟩ := Cond.codeWith_spec hcode
  cases Option.some.inj (hn8.symm.trans hnamed)
  cases hmethM.symm.trans hmethM'
  obtain ⟨c2, r2, m2, q1, q2, q3, q4, kP, hkP, hkPi⟩ := Cond.selects_spec hsel
  cases hcls.symm.trans q1
  cases (State.methodFound?_of_named hnamed hy).symm.trans q2
  cases hnamed.symm.trans q3
  have hselP : selectMethod e.platform s.vm cellB.cls mk = .method mk := by rw [Launch.admits_selectMethod X.admits]; exact q4
  obtain ⟨vm₁, X₁, hstep₁⟩ := X.invokevirtual hexec hown hlink hnamed hmethM hstM hkP hkPi hy (a := b) (cell := cellB) hcell
    (fun z h => by rw [h] at hobj; cases hobj) hselP hmethM habM hkP hkPi (g := g) hg (argsL := argsL) (rest := rest) (hlen _ hsigM) hstack hdg
  rcases hK m meth c ⟨T.setVm vm₁, locs, cells, slots⟩ { g with stack := rest } (.invokevirtual index) mk (Value.ref b :: argsL).toArray X₁ hg hsize hdg hW (X₁.named hnamed) (hpre vm₁ X₁.warmed) with ⟨v, B, X', hpost, hsteps⟩ | ⟨q, B, X', hpost, hsteps⟩
  · exact Or.inl ⟨v, vm₁, B, X₁.warmed, X', hpost, fun target h => hstep₁ _ fun acts => by rw [doInvoke_state]; exact hsteps.trans h⟩
  · exact Or.inr ⟨q, vm₁, B, X₁.warmed, X', hpost, hstep₁ _ fun acts => by rw [doInvoke_state]; exact hsteps⟩
theorem vx_callSX (X : Stand p l e R s m args below meth c T locs cells slots) (hexec : p.tables.exec = Jvm.exec) {own : String} {index : Nat} {y : MethodName} {bytes : ByteArray} {maxL : Nat} {ret : Option FieldType} {hh : List (Nat × Nat × Nat × Nat)}
    (hown : s.vm.findClass own = some m.cls) (hlink : (Cond.methodLink own index y).before args s = true) (hstat : (Cond.static y).before args s = true) (hinit : (Cond.initialized y.cls).before args s = true)
    (hcode : (Cond.codeWith y bytes maxL ret hh).before args s = true) (hy : y.cls ≠ "java/lang/invoke/MethodHandle" ∧ y.cls ≠ "java/lang/invoke/VarHandle")
    {W9 : Nat} {Pre : Pt → Array Value → Prop} {Post : Pt → Array Value → Option Value → Pt → Prop} {PostX : Pt → Array Value → Addr → Pt → Prop} (hK : vx_Back l R p e below s args y 3 W9 Pre Post PostX)
    {g : JFrame} (hg : g.method = m) (hsize : g.locals.size = c.maxLocals) {argsL rest : List Value} (hlen : ∀ sig, parseMethodDescriptor y.desc = some sig → argsL.length = sig.parameters.length)
    (hstack : g.stack = argsL.reverse ++ rest) (hW : 2 * g.monitorRoom + (rest.map fun v => v.category).sum ≤ W9) (hdg : decode c.code g.pc = .ok (.invokestatic index, 3))
    (hpre : ∀ vm₁, s.WarmedH vm₁ → Pre ⟨T.setVm vm₁, locs, cells, slots⟩ argsL.toArray) :
    (∃ (v : Option Value) (vm₁ : Vm) (B : Pt), s.WarmedH vm₁ ∧ Stand p l e R s m args below meth c B.U B.locs B.cells B.slots ∧ Post ⟨T.setVm vm₁, locs, cells, slots⟩ argsL.toArray v B ∧
      ∀ target, Steps p.tables e below (B.U.setTop { g with pc := g.pc + 3, stack := v.toList ++ rest }) target → Steps p.tables e below (T.setTop g) target) ∨
    (∃ (q : Addr) (vm₁ : Vm) (B : Pt), s.WarmedH vm₁ ∧ Stand p l e R s m args below meth c B.U B.locs B.cells B.slots ∧ PostX ⟨T.setVm vm₁, locs, cells, slots⟩ argsL.toArray q B ∧
      Steps p.tables e below (T.setTop g) ((B.U.setTop { g with stack := rest }).pushFrame (.throwing q))) := by
  obtain ⟨mk, methM, cM, hnamed, hmethM, -, -, -, -, -, -, hsigM⟩ := Cond.codeWith_spec hcode
  have hstatic : methM.isStatic = true := Cond.static_spec hnamed hmethM hstat
  obtain ⟨kP, hkP, -⟩ := className_of_methodNamed hnamed
  have hinitP : kP.init = .initialized := Cond.initialized_spec (findClass_of_methodNamed hnamed) hkP hinit
  obtain ⟨vm₁, X₁, hstep₁⟩ := X.invokestatic hexec hown hlink hnamed hmethM hstatic hkP hinitP hy (g := g) hg (argsL := argsL) (rest := rest) (hlen _ hsigM) hstack hdg
  rcases hK m meth c ⟨T.setVm vm₁, locs, cells, slots⟩ { g with stack := rest } (.invokestatic index) mk argsL.toArray X₁ hg hsize hdg hW (X₁.named hnamed) (hpre vm₁ X₁.warmed) with ⟨v, B, X', hpost, hsteps⟩ | ⟨q, B, X', hpost, hsteps⟩
  · exact Or.inl ⟨v, vm₁, B, X₁.warmed, X', hpost, fun target h => hstep₁ _ fun acts => by rw [doInvoke_state]; exact hsteps.trans h⟩
  · exact Or.inr ⟨q, vm₁, B, X₁.warmed, X', hpost, hstep₁ _ fun acts => by rw [doInvoke_state]; exact hsteps⟩
theorem vx_callVW (X : Stand p l e R s m args below meth c T locs cells slots) (hexec : p.tables.exec = Jvm.exec) {own C : String} {index : Nat} {y : MethodName} {bytes : ByteArray} {maxL : Nat} {ret : Option FieldType} {hh : List (Nat × Nat × Nat × Nat)}
    (hown : s.vm.findClass own = some m.cls) (hlink : (Cond.methodLink own index y).before args s = true) (hinst : (Cond.instanceMethod y).before args s = true) (hsel : (Cond.selects C y y).before args s = true)
    (hcode : (Cond.codeWith y bytes maxL ret hh).before args s = true) (hy : y.cls ≠ "java/lang/invoke/MethodHandle" ∧ y.cls ≠ "java/lang/invoke/VarHandle")
    {W9 : Nat} {Pre : Pt → Array Value → Prop} {Post : Pt → Array Value → Option Value → Pt → Prop} (hK : Back l R p e below s args y 3 W9 Pre Post)
    {b : Addr} {cellB : Cell} (hcell : T.heap[b]? = some cellB) (hobj : cellB.vm.isStatics = false) (hcls : s.vm.findClass C = some cellB.cls)
    {g : JFrame} (hg : g.method = m) (hsize : g.locals.size = c.maxLocals) {argsL rest : List Value} (hlen : ∀ sig, parseMethodDescriptor y.desc = some sig → argsL.length = sig.parameters.length)
    (hstack : g.stack = argsL.reverse ++ .ref b :: rest) (hW : 2 * g.monitorRoom + (rest.map fun v => v.category).sum ≤ W9) (hdg : decode c.code g.pc = .ok (.invokevirtual index, 3))
    (hpre : ∀ vm₁, s.WarmedH vm₁ → Pre ⟨T.setVm vm₁, locs, cells, slots⟩ (Value.ref b :: argsL).toArray) :
    ∃ (v : Option Value) (vm₁ : Vm) (B : Pt), s.WarmedH vm₁ ∧ Stand p l e R s m args below meth c B.U B.locs B.cells B.slots ∧ Post ⟨T.setVm vm₁, locs, cells, slots⟩ (Value.ref b :: argsL).toArray v B ∧
      ∀ target, Steps p.tables e below (B.U.setTop { g with pc := g.pc + 3, stack := v.toList ++ rest }) target → Steps p.tables e below (T.setTop g) target := by
  obtain ⟨mk, methM, hnamed, hmethM, hstM, habM⟩ := Cond.instanceMethod_spec hinst
  obtain ⟨m8, methM', cM, hn8, hmethM', -, -, -, -, -, -, hsigM⟩ := Cond.codeWith_spec hcode
  cases Option.some.inj (hn8.symm.trans hnamed)
  cases hmethM.symm.trans hmethM'
  obtain ⟨c2, r2, m2, q1, q2, q3, q4, kP, hkP, hkPi⟩ := Cond.selects_spec hsel
  cases hcls.symm.trans q1
  cases (State.methodFound?_of_named hnamed hy).symm.trans q2
  cases hnamed.symm.trans q3
  have hselP : selectMethod e.platform s.vm cellB.cls mk = .method mk := by rw [Launch.admits_selectMethod X.admits]; exact q4
  obtain ⟨vm₁, X₁, hstep₁⟩ := X.invokevirtual hexec hown hlink hnamed hmethM hstM hkP hkPi hy (a := b) (cell := cellB) hcell
    (fun z h => by rw [h] at hobj; cases hobj) hselP hmethM habM hkP hkPi (g := g) hg (argsL := argsL) (rest := rest) (hlen _ hsigM) hstack hdg
  obtain ⟨v, B, X', hpost, hsteps⟩ := hK m meth c ⟨T.setVm vm₁, locs, cells, slots⟩ { g with stack := rest } (.invokevirtual index) mk (Value.ref b :: argsL).toArray X₁ hg hsize hdg hW (X₁.named hnamed) (hpre vm₁ X₁.warmed)
  exact ⟨v, vm₁, B, X₁.warmed, X', hpost, fun target h => hstep₁ _ fun acts => by rw [doInvoke_state]; exact hsteps.trans h⟩
abbrev vx_CVW (R : Room) (s : State) (args : Array Value) (own C : String) (index : Nat) (y : MethodName) (bytes : ByteArray) (maxL : Nat) (ret : Option FieldType) (hh : List (Nat × Nat × Nat × Nat)) (ws : List Cond) (rm : Room) (mc ms n : Nat) : Prop :=
  (rm.cells = mc ∧ rm.slots = ms ∧ rm.frames + 1 ≤ R.frames ∧ 8 + (maxL + 11) + rm.locals ≤ R.locals ∧ (∀ w ∈ ws, ∀ (a' : Array Value) (U : State), s.WarmedH U.vm → w.before a' U = true) ∧ Cond.codeWith y bytes maxL ret hh ∈ ws) ∧
  (Cond.codeWith y bytes maxL ret hh).before args s = true ∧ (Cond.initialized y.cls).before args s = true ∧ (y.cls ≠ "java/lang/invoke/MethodHandle" ∧ y.cls ≠ "java/lang/invoke/VarHandle") ∧
  (∀ sig, parseMethodDescriptor y.desc = some sig → n = sig.parameters.length) ∧ (Cond.methodLink own index y).before args s = true ∧ (Cond.instanceMethod y).before args s = true ∧ (Cond.selects C y y).before args s = true
theorem vx_cwVW {own C : String} {index maxL mc ms : Nat} {y : MethodName} {bytes : ByteArray} {ret : Option FieldType} {hh : List (Nat × Nat × Nat × Nat)} {Ts ws ws' : List Cond} {rm : Room} (n : Nat) (ht : ∀ w ∈ Ts, w.before args s = true) (hT : GoodIn Ts (wsV own index C y ws)) (hw : ws = Cond.codeWith y bytes maxL ret hh :: ws') (hrc : rm.cells = mc) (hrs : rm.slots = ms)
    (hd : y.cls = C ∧ y.cls ≠ "java/lang/invoke/MethodHandle" ∧ y.cls ≠ "java/lang/invoke/VarHandle" ∧ (parseMethodDescriptor y.desc).map (fun d => d.parameters.length) = some n) (hR : rm.frames + 1 ≤ R.frames ∧ 8 + (maxL + 11) + rm.locals ≤ R.locals) :
    vx_CVW R s args own C index y bytes maxL ret hh ws rm mc ms n := by
  obtain ⟨hC, hd⟩ := hd
  subst hC
  have ok : ∀ w ∈ wsV own index y.cls y ws, w.before args s = true := fun w h => ht w (hT w h).1
  have hG : GoodIn Ts ws := fun w h => hT w (by unfold wsV; exact List.mem_append_right _ h)
  have hc : Cond.codeWith y bytes maxL ret hh ∈ ws := by rw [hw]; exact List.mem_cons_self
  refine ⟨⟨hrc, hrs, hR.1, hR.2, pay_in ht hG, hc⟩, ht _ (hG _ hc).1, ok _ (by simp [wsV]), ⟨hd.1, hd.2.1⟩, fun sig h => ?_, ok _ (by simp [wsV]), ok _ (by simp [wsV]), ok _ (by simp [wsV])⟩
  have h2 := hd.2.2
  rw [h] at h2
  exact (Option.some.inj h2).symm
theorem vx_runVW {y : MethodName} {bytes cc : ByteArray} {maxL nL mc ms n index : Nat} {ret : Option FieldType} {hh : List (Nat × Nat × Nat × Nat)} {ws : List Cond} {rm : Room} {Pc : Array Value → State → Prop} {Qc : Array Value → State → Outcome → State → Prop} {free : Addr → Prop} {Ts : List Cond} {own C : String} {b : Addr} {As rest : List Value} {g : JFrame}
    (S : CallFix p m c cc nL s args Ts own) (hM : Met l y ws rm Pc Qc mc ms free) (cw : vx_CVW R s args own C index y bytes maxL ret hh ws rm mc ms n) (hp : PreV s H C b Pc As)
    (hg : g.method = m) (hn : As.length = n) (hsize : g.locals.size = nL) (hstack : g.stack = As.reverse ++ .ref b :: rest) (hW : 2 * g.monitorRoom + (rest.map fun v => v.category).sum ≤ 8) (hdg : decode cc g.pc = .ok (.invokevirtual index, 3)) (hf : cells + mc ≤ R.cells ∧ slots + ms ≤ R.slots) :
    va_Run p l e R s m args below meth c H locs cells slots mc ms g rest (Qc (Value.ref b :: As).toArray) free := by
  obtain ⟨⟨hrc, hrs, hfr, hlo, hws, hcw⟩, hcode, hini, hy, hlen, hl, hin, hse⟩ := cw
  have hK : Back l R p e below s args y 3 8 (PreOf R mc ms Pc) (PostOf Qc mc ms free) := va_backW (hh := hh) (bytes := bytes) (maxL := maxL) (ret := ret) hM hp.1 hrc hrs hfr hlo hws hcw (fun a' U hW => word_at hW (Or.inl (by first | rfl | simp [Cond.onTables, Cond.keeps, Cond.steady])) hini)
  obtain ⟨hx, hb, hml, ho, -⟩ := S
  obtain ⟨-, ⟨cellB, hcB, hoB, hclB⟩, hPc⟩ := hp
  intro T hT X
  obtain ⟨v, vm₁, ⟨U', l2, c2, s2⟩, hW₁, X', ⟨g', mk, t, L, e1, e2, hq, h1, hL, h2, h3⟩, st⟩ := vx_callVW X hx (C := C) (hh := hh) (bytes := bytes) (maxL := maxL) (ret := ret) ho hl hin hse hcode hy hK (by rw [hT]; exact hcB) hoB hclB hg (hsize.trans hml.symm) (argsL := As) (rest := rest) (fun sig h => hn.trans (hlen sig h)) hstack hW (by rw [hb]; exact hdg)
    (fun vm₁ hW₁ => ⟨hf.1, hf.2, hPc (T.setVm vm₁) hT hW₁⟩)
  dsimp only [Pt.U, Pt.locs, Pt.cells, Pt.slots] at X' e1 e2 h1 h2 h3 st
  subst h1; subst h2; subst h3
  exact ⟨v, (T.setVm vm₁).calling g' mk (Value.ref b :: As).toArray, t, U', L, hT, X', hL, e1, e2, hq, st⟩
section
variable {y : MethodName} {bytes cc : ByteArray} {maxL nL mc ms n index : Nat} {ret : Option FieldType} {ws : List Cond} {rm : Room} {Pc : Array Value → State → Prop} {Qc : Array Value → State → Outcome → State → Prop} {XC : String → State → State → Prop} {free : Addr → Prop} {Ts : List Cond} {own C : String} {b : Addr} {As rest : List Value} {g : JFrame}
theorem vx_runVX {hh : List (Nat × Nat × Nat × Nat)} (S : CallFix p m c cc nL s args Ts own) (hM : vx_Met l y ws rm Pc Qc XC mc ms free) (cw : vx_CVW R s args own C index y bytes maxL ret hh ws rm mc ms n) (hp : PreV s H C b Pc As)
    (hg : g.method = m) (hn : As.length = n) (hsize : g.locals.size = nL) (hstack : g.stack = As.reverse ++ .ref b :: rest) (hW : 2 * g.monitorRoom + (rest.map fun v => v.category).sum ≤ 8) (hdg : decode cc g.pc = .ok (.invokevirtual index, 3)) (hf : cells + mc ≤ R.cells ∧ slots + ms ≤ R.slots) :
    vx_Run p l e R s m args below meth c H locs cells slots mc ms g rest (Qc (Value.ref b :: As).toArray) XC free := by
  obtain ⟨⟨hrc, hrs, hfr, hlo, hws, hcw⟩, hcode, hini, hy, hlen, hl, hin, hse⟩ := cw
  have hK : vx_Back l R p e below s args y 3 8 (PreOf R mc ms Pc) (PostOf Qc mc ms free) (vx_Post XC mc ms free) := vx_backW (hh := hh) (bytes := bytes) (maxL := maxL) (ret := ret) hM hp.1 hrc hrs hfr hlo hws hcw (fun a' U hW => word_at hW (Or.inl (by first | rfl | simp [Cond.onTables, Cond.keeps, Cond.steady])) hini)
  obtain ⟨hx, hb, hml, ho, -⟩ := S
  obtain ⟨-, ⟨cellB, hcB, hoB, hclB⟩, hPc⟩ := hp
  intro T hT X
  rcases vx_callVX X hx (C := C) (hh := hh) (bytes := bytes) (maxL := maxL) (ret := ret) ho hl hin hse hcode hy hK (by rw [hT]; exact hcB) hoB hclB hg (hsize.trans hml.symm) (argsL := As) (rest := rest) (fun sig h => hn.trans (hlen sig h)) hstack hW (by rw [hb]; exact hdg)
    (fun vm₁ hW₁ => ⟨hf.1, hf.2, hPc (T.setVm vm₁) hT hW₁⟩) with ⟨v, vm₁, ⟨U', l2, c2, s2⟩, hW₁, X', ⟨g', mk, t, L, e1, e2, hq, h1, hL, h2, h3⟩, st⟩ | ⟨q, vm₁, ⟨U', l2, c2, s2⟩, hW₁, X', ⟨g', mk, t, L, E, ce, e1, e2, hq, hce, hcv, hcl, h1, hL, h2, h3⟩, st⟩
  · dsimp only [Pt.U, Pt.locs, Pt.cells, Pt.slots] at X' e1 e2 h1 h2 h3 st
    subst h1; subst h2; subst h3
    exact Or.inl ⟨v, (T.setVm vm₁).calling g' mk (Value.ref b :: As).toArray, t, U', L, hT, X', hL, e1, e2, hq, st⟩
  · dsimp only [Pt.U, Pt.locs, Pt.cells, Pt.slots] at X' e1 e2 h1 h2 h3 st hcl
    subst h1; subst h2; subst h3
    exact Or.inr ⟨q, (T.setVm vm₁).calling g' mk (Value.ref b :: As).toArray, t, U', L, E, ce, hT, X', hL, e1, e2, hq, hce, hcv, vx_cls hW₁ hcl, st⟩
theorem vx_runSX {hh : List (Nat × Nat × Nat × Nat)} (S : CallFix p m c cc nL s args Ts own) (hM : vx_Met l y ws rm Pc Qc XC mc ms free) (cw : vx_CSW R s args own index y bytes maxL ret hh ws rm mc ms n) (hp : PreS s H Pc As)
    (hg : g.method = m) (hn : As.length = n) (hsize : g.locals.size = nL) (hstack : g.stack = As.reverse ++ rest) (hW : 2 * g.monitorRoom + (rest.map fun v => v.category).sum ≤ 8) (hdg : decode cc g.pc = .ok (.invokestatic index, 3)) (hf : cells + mc ≤ R.cells ∧ slots + ms ≤ R.slots) :
    vx_Run p l e R s m args below meth c H locs cells slots mc ms g rest (Qc As.toArray) XC free := by
  obtain ⟨⟨hrc, hrs, hfr, hlo, hws, hcw⟩, hcode, hini, hy, hlen, hl, hstt⟩ := cw
  have hK : vx_Back l R p e below s args y 3 8 (PreOf R mc ms Pc) (PostOf Qc mc ms free) (vx_Post XC mc ms free) := vx_backW (hh := hh) (bytes := bytes) (maxL := maxL) (ret := ret) hM hp.1 hrc hrs hfr hlo hws hcw (fun a' U hW => word_at hW (Or.inl (by first | rfl | simp [Cond.onTables, Cond.keeps, Cond.steady])) hini)
  obtain ⟨hx, hb, hml, ho, -⟩ := S
  intro T hT X
  rcases vx_callSX X hx (hh := hh) (bytes := bytes) (maxL := maxL) (ret := ret) ho hl hstt hini hcode hy hK hg (hsize.trans hml.symm) (argsL := As) (rest := rest) (fun sig h => hn.trans (hlen sig h)) hstack hW (by rw [hb]; exact hdg)
    (fun vm₁ hW₁ => ⟨hf.1, hf.2, hp.2 (T.setVm vm₁) hT hW₁⟩) with ⟨v, vm₁, ⟨U', l2, c2, s2⟩, hW₁, X', ⟨g', mk, t, L, e1, e2, hq, h1, hL, h2, h3⟩, st⟩ | ⟨q, vm₁, ⟨U', l2, c2, s2⟩, hW₁, X', ⟨g', mk, t, L, E, ce, e1, e2, hq, hce, hcv, hcl, h1, hL, h2, h3⟩, st⟩
  · dsimp only [Pt.U, Pt.locs, Pt.cells, Pt.slots] at X' e1 e2 h1 h2 h3 st
    subst h1; subst h2; subst h3
    exact Or.inl ⟨v, (T.setVm vm₁).calling g' mk As.toArray, t, U', L, hT, X', hL, e1, e2, hq, st⟩
  · dsimp only [Pt.U, Pt.locs, Pt.cells, Pt.slots] at X' e1 e2 h1 h2 h3 st hcl
    subst h1; subst h2; subst h3
    exact Or.inr ⟨q, (T.setVm vm₁).calling g' mk As.toArray, t, U', L, E, ce, hT, X', hL, e1, e2, hq, hce, hcv, vx_cls hW₁ hcl, st⟩
end
end VXH
theorem vx_ofWH {l : Launch} {y : MethodName} {ws ws' : List Cond} {rm : Room} {Pc : Array Value → State → Prop} {Qc : Array Value → State → Outcome → State → Prop} {XC : String → State → State → Prop} {mc ms : Nat} {free : Addr → Prop} {cc : ByteArray} {maxL : Nat} {ret : Option FieldType} {hh : List (Nat × Nat × Nat × Nat)}
    (hy : plainName y.cls = true) (hw : ws = Cond.codeWith y cc maxL ret hh :: ws')
    (body : ∀ p e s m args below meth c s₁, BodyLoose p l y (headSpec ws rm) cc maxL ret e s m args below meth c s₁ → c.maxLocals = maxL → Pc args s →
      W p l e (headSpec ws rm).room s m args below meth c s.heap [] 0 0 (vx_MQ below Qc XC args s mc ms free) (entryFrame m args maxL)) : vx_Met l y ws rm Pc Qc XC mc ms free := by
  refine MetFree.of_bodyS (code := cc) (maxLocals := maxL) (ret := ret) hy ?_ ?_
  · intro args s m h hn
    obtain ⟨m9, meth, c, hn9, h1, h2, h3, h4, -, h5, h6, -⟩ := Cond.codeWith_spec (atoms_spec (ws := ws) h _ (by rw [hw]; exact List.mem_cons_self))
    cases hn.symm.trans hn9
    exact ⟨meth, c, h1, h2, h3, h4, h5, h6⟩
  · intro p e s m args below meth c s₁ B hml hP _
    have hh0 : s₁.heap = s.heap := by rw [B.state]; rfl
    obtain ⟨t, a1, o, b1, b2, b3⟩ := body p e s m args below meth c s₁ B hml hP s₁ hh0 (Stand.of_body B)
    exact ⟨t, o, a1, b1, b2, b3⟩
/-! ===== END ===== -/

def RX0 : String := "BoilerCascade$Boiler"
def TX0 : u_T := fun k => match k with
  | 0 => ("BoilerCascade$Boiler", "power", "I", false)
  | 1 => ("BoilerCascade$Boiler", "flueNumber", "I", false)
  | 2 => ("BoilerCascade$Boiler", "state", "I", false)
  | 3 => ("BoilerCascade$Boiler", "purgeLeft", "I", false)
  | 4 => ("BoilerCascade$Boiler", "fired", "I", false)
  | 5 => ("BoilerCascade$Boiler", "starts", "I", false)
  | _ => ("BoilerCascade$Boiler", "fuel", "I", false)
def tyX0 : Nat → FieldType := fun k => match k with
  | 0 => .int
  | 1 => .int
  | 2 => .int
  | 3 => .int
  | 4 => .int
  | 5 => .int
  | _ => .int
theorem nmX0 : ∀ a, a < 7 → ∀ b, b < 7 → a ≠ b → (TX0 a).2.1 ≠ (TX0 b).2.1 := by decide +kernel
theorem tyX0_ok : ∀ k, k < 7 → parseFieldDescriptor (TX0 k).2.2.1 = some (tyX0 k) := by decide +kernel
abbrev cX0_init : ByteArray := prog_2_method_1_code
def yX0_init : MethodName := ⟨RX0, "<init>", "()V"⟩
abbrev cX0_beginAs : ByteArray := prog_2_method_2_code
def yX0_beginAs : MethodName := ⟨RX0, "beginAs", "(II)V"⟩
abbrev cX0_copyFrom : ByteArray := prog_2_method_3_code
def yX0_copyFrom : MethodName := ⟨RX0, "copyFrom", "(LBoilerCascade$Boiler;)V"⟩
abbrev cX0_waits : ByteArray := prog_2_method_4_code
def yX0_waits : MethodName := ⟨RX0, "waits", "()Z"⟩
abbrev cX0_start : ByteArray := prog_2_method_5_code
def yX0_start : MethodName := ⟨RX0, "start", "(I)V"⟩
abbrev cX0_leaveFor : ByteArray := prog_2_method_6_code
def yX0_leaveFor : MethodName := ⟨RX0, "leaveFor", "(I)V"⟩
abbrev cX0_work : ByteArray := prog_2_method_7_code
def yX0_work : MethodName := ⟨RX0, "work", "()I"⟩
def RX1 : String := "BoilerCascade$Flue"
def TX1 : u_T := fun k => match k with
  | 0 => ("BoilerCascade$Flue", "draft", "I", false)
  | _ => ("BoilerCascade$Flue", "open", "Z", false)
def tyX1 : Nat → FieldType := fun k => match k with
  | 0 => .int
  | _ => .boolean
theorem nmX1 : ∀ a, a < 2 → ∀ b, b < 2 → a ≠ b → (TX1 a).2.1 ≠ (TX1 b).2.1 := by decide +kernel
theorem tyX1_ok : ∀ k, k < 2 → parseFieldDescriptor (TX1 k).2.2.1 = some (tyX1 k) := by decide +kernel
abbrev cX1_init : ByteArray := prog_3_method_1_code
def yX1_init : MethodName := ⟨RX1, "<init>", "()V"⟩
abbrev cX1_beginAs : ByteArray := prog_3_method_2_code
def yX1_beginAs : MethodName := ⟨RX1, "beginAs", "(I)V"⟩
abbrev cX1_copyFrom : ByteArray := prog_3_method_3_code
def yX1_copyFrom : MethodName := ⟨RX1, "copyFrom", "(LBoilerCascade$Flue;)V"⟩
def RX2 : String := "BoilerCascade$History"
def TX2 : u_T := fun k => match k with
  | 0 => ("BoilerCascade$History", "states", "[LBoilerCascade$Plant;", true)
  | 1 => ("BoilerCascade$History", "place", "I", false)
  | _ => ("BoilerCascade$History", "count", "I", false)
def tyX2 : Nat → FieldType := fun k => match k with
  | 0 => .array (.object "BoilerCascade$Plant")
  | 1 => .int
  | _ => .int
theorem nmX2 : ∀ a, a < 3 → ∀ b, b < 3 → a ≠ b → (TX2 a).2.1 ≠ (TX2 b).2.1 := by decide +kernel
theorem tyX2_ok : ∀ k, k < 3 → parseFieldDescriptor (TX2 k).2.2.1 = some (tyX2 k) := by decide +kernel
abbrev cX2_init : ByteArray := prog_4_method_1_code
def yX2_init : MethodName := ⟨RX2, "<init>", "()V"⟩
abbrev cX2_forgetAll : ByteArray := prog_4_method_2_code
def yX2_forgetAll : MethodName := ⟨RX2, "forgetAll", "()V"⟩
abbrev cX2_remember : ByteArray := prog_4_method_3_code
def yX2_remember : MethodName := ⟨RX2, "remember", "(LBoilerCascade$Plant;)V"⟩
abbrev cX2_takeBackInto : ByteArray := prog_4_method_4_code
def yX2_takeBackInto : MethodName := ⟨RX2, "takeBackInto", "(LBoilerCascade$Plant;)Z"⟩
def RX3 : String := "BoilerCascade$Kill"
def TX3 : u_T := fun k => match k with
  | 0 => ("BoilerCascade$Kill", "goesOn", "Z", false)
  | 1 => ("BoilerCascade$Kill", "run", "I", false)
  | 2 => ("BoilerCascade$Kill", "ticks", "I", false)
  | 3 => ("BoilerCascade$Kill", "done", "I", false)
  | _ => ("BoilerCascade$Kill", "failed", "I", false)
def tyX3 : Nat → FieldType := fun k => match k with
  | 0 => .boolean
  | 1 => .int
  | 2 => .int
  | 3 => .int
  | _ => .int
theorem nmX3 : ∀ a, a < 5 → ∀ b, b < 5 → a ≠ b → (TX3 a).2.1 ≠ (TX3 b).2.1 := by decide +kernel
theorem tyX3_ok : ∀ k, k < 5 → parseFieldDescriptor (TX3 k).2.2.1 = some (tyX3 k) := by decide +kernel
abbrev cX3_init : ByteArray := prog_5_method_1_code
def yX3_init : MethodName := ⟨RX3, "<init>", "()V"⟩
abbrev cX3_beginAsNew : ByteArray := prog_5_method_2_code
def yX3_beginAsNew : MethodName := ⟨RX3, "beginAsNew", "()V"⟩
abbrev cX3_copyFrom : ByteArray := prog_5_method_3_code
def yX3_copyFrom : MethodName := ⟨RX3, "copyFrom", "(LBoilerCascade$Kill;)V"⟩
abbrev cX3_end : ByteArray := prog_5_method_4_code
def yX3_end : MethodName := ⟨RX3, "end", "()V"⟩
abbrev cX3_countTick : ByteArray := prog_5_method_5_code
def yX3_countTick : MethodName := ⟨RX3, "countTick", "(ZI)V"⟩
def RX4 : String := "BoilerCascade$Plan"
def TX4 : u_T := fun k => match k with
  | 0 => ("BoilerCascade$Plan", "signs", "[I", true)
  | 1 => ("BoilerCascade$Plan", "length", "I", false)
  | 2 => ("BoilerCascade$Plan", "layers", "I", false)
  | 3 => ("BoilerCascade$Plan", "draft0", "I", false)
  | 4 => ("BoilerCascade$Plan", "draft1", "I", false)
  | 5 => ("BoilerCascade$Plan", "boilers", "I", false)
  | 6 => ("BoilerCascade$Plan", "powers", "[I", true)
  | 7 => ("BoilerCascade$Plan", "flues", "[I", true)
  | 8 => ("BoilerCascade$Plan", "temperatures", "[I", true)
  | 9 => ("BoilerCascade$Plan", "position", "I", false)
  | _ => ("BoilerCascade$Plan", "wrong", "Z", false)
def tyX4 : Nat → FieldType := fun k => match k with
  | 0 => .array .int
  | 1 => .int
  | 2 => .int
  | 3 => .int
  | 4 => .int
  | 5 => .int
  | 6 => .array .int
  | 7 => .array .int
  | 8 => .array .int
  | 9 => .int
  | _ => .boolean
theorem nmX4 : ∀ a, a < 11 → ∀ b, b < 11 → a ≠ b → (TX4 a).2.1 ≠ (TX4 b).2.1 := by decide +kernel
theorem tyX4_ok : ∀ k, k < 11 → parseFieldDescriptor (TX4 k).2.2.1 = some (tyX4 k) := by decide +kernel
abbrev cX4_init : ByteArray := prog_6_method_1_code
def yX4_init : MethodName := ⟨RX4, "<init>", "()V"⟩
abbrev cX4_add : ByteArray := prog_6_method_2_code
def yX4_add : MethodName := ⟨RX4, "add", "(I)Z"⟩
abbrev cX4_read : ByteArray := prog_6_method_3_code
def yX4_read : MethodName := ⟨RX4, "read", "()I"⟩
abbrev cX4_readBoiler : ByteArray := prog_6_method_4_code
def yX4_readBoiler : MethodName := ⟨RX4, "readBoiler", "(I)V"⟩
abbrev cX4_readTemperatures : ByteArray := prog_6_method_5_code
def yX4_readTemperatures : MethodName := ⟨RX4, "readTemperatures", "()V"⟩
abbrev cX4_fillTemperatures : ByteArray := prog_6_method_6_code
def yX4_fillTemperatures : MethodName := ⟨RX4, "fillTemperatures", "()V"⟩
abbrev cX4_hasMore : ByteArray := prog_6_method_7_code
def yX4_hasMore : MethodName := ⟨RX4, "hasMore", "()Z"⟩
abbrev cX4_sees : ByteArray := prog_6_method_8_code
def yX4_sees : MethodName := ⟨RX4, "sees", "(I)Z"⟩
abbrev cX4_readSign : ByteArray := prog_6_method_9_code
def yX4_readSign : MethodName := ⟨RX4, "readSign", "(I)V"⟩
abbrev cX4_readNumber : ByteArray := prog_6_method_10_code
def yX4_readNumber : MethodName := ⟨RX4, "readNumber", "(II)I"⟩
abbrev cX4_readDigit : ByteArray := prog_6_method_11_code
def yX4_readDigit : MethodName := ⟨RX4, "readDigit", "(II)I"⟩
def RX5 : String := "BoilerCascade$Plant"
def TX5 : u_T := fun k => match k with
  | 0 => ("BoilerCascade$Plant", "boilers", "[LBoilerCascade$Boiler;", true)
  | 1 => ("BoilerCascade$Plant", "count", "I", false)
  | 2 => ("BoilerCascade$Plant", "flue0", "LBoilerCascade$Flue;", true)
  | 3 => ("BoilerCascade$Plant", "flue1", "LBoilerCascade$Flue;", true)
  | 4 => ("BoilerCascade$Plant", "settings", "[I", true)
  | 5 => ("BoilerCascade$Plant", "tank", "LBoilerCascade$Tank;", true)
  | 6 => ("BoilerCascade$Plant", "kill", "LBoilerCascade$Kill;", true)
  | 7 => ("BoilerCascade$Plant", "clock", "I", false)
  | _ => ("BoilerCascade$Plant", "reason", "I", false)
def tyX5 : Nat → FieldType := fun k => match k with
  | 0 => .array (.object "BoilerCascade$Boiler")
  | 1 => .int
  | 2 => .object "BoilerCascade$Flue"
  | 3 => .object "BoilerCascade$Flue"
  | 4 => .array .int
  | 5 => .object "BoilerCascade$Tank"
  | 6 => .object "BoilerCascade$Kill"
  | 7 => .int
  | _ => .int
theorem nmX5 : ∀ a, a < 9 → ∀ b, b < 9 → a ≠ b → (TX5 a).2.1 ≠ (TX5 b).2.1 := by decide +kernel
theorem tyX5_ok : ∀ k, k < 9 → parseFieldDescriptor (TX5 k).2.2.1 = some (tyX5 k) := by decide +kernel
abbrev cX5_init : ByteArray := prog_7_method_1_code
def yX5_init : MethodName := ⟨RX5, "<init>", "()V"⟩
abbrev cX5_beginAs : ByteArray := prog_7_method_2_code
def yX5_beginAs : MethodName := ⟨RX5, "beginAs", "(LBoilerCascade$Plan;)V"⟩
abbrev cX5_copyFrom : ByteArray := prog_7_method_3_code
def yX5_copyFrom : MethodName := ⟨RX5, "copyFrom", "(LBoilerCascade$Plant;)V"⟩
abbrev cX5_hasBoiler : ByteArray := prog_7_method_4_code
def yX5_hasBoiler : MethodName := ⟨RX5, "hasBoiler", "(I)Z"⟩
abbrev cX5_flueOf : ByteArray := prog_7_method_5_code
def yX5_flueOf : MethodName := ⟨RX5, "flueOf", "(I)LBoilerCascade$Flue;"⟩
abbrev cX5_useOf : ByteArray := prog_7_method_6_code
def yX5_useOf : MethodName := ⟨RX5, "useOf", "(I)I"⟩
abbrev cX5_countAtFlue : ByteArray := prog_7_method_7_code
def yX5_countAtFlue : MethodName := ⟨RX5, "countAtFlue", "(I)I"⟩
abbrev cX5_countInState : ByteArray := prog_7_method_8_code
def yX5_countInState : MethodName := ⟨RX5, "countInState", "(I)I"⟩
abbrev cX5_fuel : ByteArray := prog_7_method_9_code
def yX5_fuel : MethodName := ⟨RX5, "fuel", "()I"⟩
abbrev cX5_starts : ByteArray := prog_7_method_10_code
def yX5_starts : MethodName := ⟨RX5, "starts", "()I"⟩
abbrev cX5_hasRoomFor : ByteArray := prog_7_method_11_code
def yX5_hasRoomFor : MethodName := ⟨RX5, "hasRoomFor", "(LBoilerCascade$Boiler;)Z"⟩
abbrev cX5_firstToStart : ByteArray := prog_7_method_12_code
def yX5_firstToStart : MethodName := ⟨RX5, "firstToStart", "()I"⟩
abbrev cX5_firstToRest : ByteArray := prog_7_method_13_code
def yX5_firstToRest : MethodName := ⟨RX5, "firstToRest", "()I"⟩
abbrev cX5_moveFlue : ByteArray := prog_7_method_14_code
def yX5_moveFlue : MethodName := ⟨RX5, "moveFlue", "(IZ)I"⟩
abbrev cX5_passTicks : ByteArray := prog_7_method_15_code
def yX5_passTicks : MethodName := ⟨RX5, "passTicks", "(II)V"⟩
abbrev cX5_control : ByteArray := prog_7_method_16_code
def yX5_control : MethodName := ⟨RX5, "control", "(I)V"⟩
abbrev cX5_whyNoneStarts : ByteArray := prog_7_method_17_code
def yX5_whyNoneStarts : MethodName := ⟨RX5, "whyNoneStarts", "()I"⟩
abbrev cX5_powerOf : ByteArray := prog_7_method_18_code
def yX5_powerOf : MethodName := ⟨RX5, "powerOf", "(I)I"⟩
abbrev cX5_fitsDrafts : ByteArray := prog_7_method_19_code
def yX5_fitsDrafts : MethodName := ⟨RX5, "fitsDrafts", "(I)Z"⟩
abbrev cX5_isSmallerSet : ByteArray := prog_7_method_20_code
def yX5_isSmallerSet : MethodName := ⟨RX5, "isSmallerSet", "(II)Z"⟩
abbrev cX5_powerAt : ByteArray := prog_7_method_21_code
def yX5_powerAt : MethodName := ⟨RX5, "powerAt", "(II)I"⟩
def RX6 : String := "BoilerCascade$Slot"
def TX6 : u_T := fun k => match k with
  | 0 => ("BoilerCascade$Slot", "content", "LBoilerCascade$Plant;", true)
  | _ => ("BoilerCascade$Slot", "filled", "Z", false)
def tyX6 : Nat → FieldType := fun k => match k with
  | 0 => .object "BoilerCascade$Plant"
  | _ => .boolean
theorem nmX6 : ∀ a, a < 2 → ∀ b, b < 2 → a ≠ b → (TX6 a).2.1 ≠ (TX6 b).2.1 := by decide +kernel
theorem tyX6_ok : ∀ k, k < 2 → parseFieldDescriptor (TX6 k).2.2.1 = some (tyX6 k) := by decide +kernel
abbrev cX6_init : ByteArray := prog_8_method_1_code
def yX6_init : MethodName := ⟨RX6, "<init>", "()V"⟩
def RX7 : String := "BoilerCascade$Tank"
def TX7 : u_T := fun k => match k with
  | 0 => ("BoilerCascade$Tank", "temperatures", "[I", true)
  | 1 => ("BoilerCascade$Tank", "layers", "I", false)
  | 2 => ("BoilerCascade$Tank", "given", "I", false)
  | 3 => ("BoilerCascade$Tank", "cold", "I", false)
  | 4 => ("BoilerCascade$Tank", "delivered", "I", false)
  | 5 => ("BoilerCascade$Tank", "lost", "I", false)
  | _ => ("BoilerCascade$Tank", "draws", "I", false)
def tyX7 : Nat → FieldType := fun k => match k with
  | 0 => .array .int
  | 1 => .int
  | 2 => .int
  | 3 => .int
  | 4 => .int
  | 5 => .int
  | _ => .int
theorem nmX7 : ∀ a, a < 7 → ∀ b, b < 7 → a ≠ b → (TX7 a).2.1 ≠ (TX7 b).2.1 := by decide +kernel
theorem tyX7_ok : ∀ k, k < 7 → parseFieldDescriptor (TX7 k).2.2.1 = some (tyX7 k) := by decide +kernel
abbrev cX7_init : ByteArray := prog_9_method_1_code
def yX7_init : MethodName := ⟨RX7, "<init>", "()V"⟩
abbrev cX7_beginAs : ByteArray := prog_9_method_2_code
def yX7_beginAs : MethodName := ⟨RX7, "beginAs", "(I[I)V"⟩
abbrev cX7_copyFrom : ByteArray := prog_9_method_3_code
def yX7_copyFrom : MethodName := ⟨RX7, "copyFrom", "(LBoilerCascade$Tank;)V"⟩
abbrev cX7_mean : ByteArray := prog_9_method_4_code
def yX7_mean : MethodName := ⟨RX7, "mean", "()I"⟩
abbrev cX7_highest : ByteArray := prog_9_method_5_code
def yX7_highest : MethodName := ⟨RX7, "highest", "()I"⟩
abbrev cX7_coldest : ByteArray := prog_9_method_6_code
def yX7_coldest : MethodName := ⟨RX7, "coldest", "()I"⟩
abbrev cX7_deliver : ByteArray := prog_9_method_7_code
def yX7_deliver : MethodName := ⟨RX7, "deliver", "(I)I"⟩
abbrev cX7_warm : ByteArray := prog_9_method_8_code
def yX7_warm : MethodName := ⟨RX7, "warm", "(I)V"⟩
abbrev cX7_cool : ByteArray := prog_9_method_9_code
def yX7_cool : MethodName := ⟨RX7, "cool", "()V"⟩
abbrev cX7_putInOrder : ByteArray := prog_9_method_10_code
def yX7_putInOrder : MethodName := ⟨RX7, "putInOrder", "()V"⟩
def RX8 : String := "BoilerCascade"
def TX8 : u_T := fun k => match k with
  | 0 => ("BoilerCascade", "plan", "LBoilerCascade$Plan;", true)
  | 1 => ("BoilerCascade", "plant", "LBoilerCascade$Plant;", true)
  | 2 => ("BoilerCascade", "trial", "LBoilerCascade$Plant;", true)
  | 3 => ("BoilerCascade", "history", "LBoilerCascade$History;", true)
  | 4 => ("BoilerCascade", "slot0", "LBoilerCascade$Slot;", true)
  | _ => ("BoilerCascade", "slot1", "LBoilerCascade$Slot;", true)
def tyX8 : Nat → FieldType := fun k => match k with
  | 0 => .object "BoilerCascade$Plan"
  | 1 => .object "BoilerCascade$Plant"
  | 2 => .object "BoilerCascade$Plant"
  | 3 => .object "BoilerCascade$History"
  | 4 => .object "BoilerCascade$Slot"
  | _ => .object "BoilerCascade$Slot"
theorem nmX8 : ∀ a, a < 6 → ∀ b, b < 6 → a ≠ b → (TX8 a).2.1 ≠ (TX8 b).2.1 := by decide +kernel
theorem tyX8_ok : ∀ k, k < 6 → parseFieldDescriptor (TX8 k).2.2.1 = some (tyX8 k) := by decide +kernel
abbrev cX8_init : ByteArray := prog_1_method_1_code
def yX8_init : MethodName := ⟨RX8, "<init>", "()V"⟩
abbrev cX8_append : ByteArray := prog_1_method_2_code
def yX8_append : MethodName := ⟨RX8, "append", "(I)I"⟩
abbrev cX8_clearText : ByteArray := prog_1_method_3_code
def yX8_clearText : MethodName := ⟨RX8, "clearText", "()I"⟩
abbrev cX8_errorPosition : ByteArray := prog_1_method_4_code
def yX8_errorPosition : MethodName := ⟨RX8, "errorPosition", "()I"⟩
abbrev cX8_load : ByteArray := prog_1_method_5_code
def yX8_load : MethodName := ⟨RX8, "load", "()I"⟩
abbrev cX8_about : ByteArray := prog_1_method_6_code
def yX8_about : MethodName := ⟨RX8, "about", "(I)I"⟩
abbrev cX8_boiler : ByteArray := prog_1_method_7_code
def yX8_boiler : MethodName := ⟨RX8, "boiler", "(II)I"⟩
abbrev cX8_flue : ByteArray := prog_1_method_8_code
def yX8_flue : MethodName := ⟨RX8, "flue", "(II)I"⟩
abbrev cX8_layer : ByteArray := prog_1_method_9_code
def yX8_layer : MethodName := ⟨RX8, "layer", "(I)I"⟩
abbrev cX8_account : ByteArray := prog_1_method_10_code
def yX8_account : MethodName := ⟨RX8, "account", "(I)I"⟩
abbrev cX8_tick : ByteArray := prog_1_method_11_code
def yX8_tick : MethodName := ⟨RX8, "tick", "(II)I"⟩
abbrev cX8_draw : ByteArray := prog_1_method_12_code
def yX8_draw : MethodName := ⟨RX8, "draw", "(I)I"⟩
abbrev cX8_set : ByteArray := prog_1_method_13_code
def yX8_set : MethodName := ⟨RX8, "set", "(II)I"⟩
abbrev cX8_setFlue : ByteArray := prog_1_method_14_code
def yX8_setFlue : MethodName := ⟨RX8, "setFlue", "(IZ)I"⟩
abbrev cX8_setDraft : ByteArray := prog_1_method_15_code
def yX8_setDraft : MethodName := ⟨RX8, "setDraft", "(II)I"⟩
abbrev cX8_lock : ByteArray := prog_1_method_16_code
def yX8_lock : MethodName := ⟨RX8, "lock", "(I)I"⟩
abbrev cX8_unlock : ByteArray := prog_1_method_17_code
def yX8_unlock : MethodName := ⟨RX8, "unlock", "(I)I"⟩
abbrev cX8_putOff : ByteArray := prog_1_method_18_code
def yX8_putOff : MethodName := ⟨RX8, "putOff", "(I)I"⟩
abbrev cX8_undo : ByteArray := prog_1_method_19_code
def yX8_undo : MethodName := ⟨RX8, "undo", "()I"⟩
abbrev cX8_next : ByteArray := prog_1_method_20_code
def yX8_next : MethodName := ⟨RX8, "next", "()I"⟩
abbrev cX8_whyNot : ByteArray := prog_1_method_21_code
def yX8_whyNot : MethodName := ⟨RX8, "whyNot", "(I)I"⟩
abbrev cX8_smallestSet : ByteArray := prog_1_method_22_code
def yX8_smallestSet : MethodName := ⟨RX8, "smallestSet", "(IZ)I"⟩
abbrev cX8_ahead : ByteArray := prog_1_method_23_code
def yX8_ahead : MethodName := ⟨RX8, "ahead", "(III)I"⟩
abbrev cX8_warmAfter : ByteArray := prog_1_method_24_code
def yX8_warmAfter : MethodName := ⟨RX8, "warmAfter", "(II)I"⟩
abbrev cX8_bearable : ByteArray := prog_1_method_25_code
def yX8_bearable : MethodName := ⟨RX8, "bearable", "(II)I"⟩
abbrev cX8_cheapestPurge : ByteArray := prog_1_method_26_code
def yX8_cheapestPurge : MethodName := ⟨RX8, "cheapestPurge", "(II)I"⟩
abbrev cX8_runScript : ByteArray := prog_1_method_27_code
def yX8_runScript : MethodName := ⟨RX8, "runScript", "(IJ)I"⟩
abbrev cX8_simulate : ByteArray := prog_1_method_28_code
def yX8_simulate : MethodName := ⟨RX8, "simulate", "(JI)I"⟩
abbrev cX8_save : ByteArray := prog_1_method_29_code
def yX8_save : MethodName := ⟨RX8, "save", "(I)I"⟩
abbrev cX8_restore : ByteArray := prog_1_method_30_code
def yX8_restore : MethodName := ⟨RX8, "restore", "(I)I"⟩
abbrev cX8_requireWithin : ByteArray := prog_1_method_31_code
def yX8_requireWithin : MethodName := ⟨RX8, "requireWithin", "(III)V"⟩
abbrev cX8_requireTicks : ByteArray := prog_1_method_32_code
def yX8_requireTicks : MethodName := ⟨RX8, "requireTicks", "(II)V"⟩
abbrev cX8_requireFlue : ByteArray := prog_1_method_33_code
def yX8_requireFlue : MethodName := ⟨RX8, "requireFlue", "(I)V"⟩
abbrev cX8_requireSlot : ByteArray := prog_1_method_34_code
def yX8_requireSlot : MethodName := ⟨RX8, "requireSlot", "(I)V"⟩
abbrev cX8_requireBoiler : ByteArray := prog_1_method_35_code
def yX8_requireBoiler : MethodName := ⟨RX8, "requireBoiler", "(I)V"⟩
abbrev cX8_isSetting : ByteArray := prog_1_method_36_code
def yX8_isSetting : MethodName := ⟨RX8, "isSetting", "(II)Z"⟩
abbrev cX8_staysHot : ByteArray := prog_1_method_37_code
def yX8_staysHot : MethodName := ⟨RX8, "staysHot", "(III)Z"⟩
abbrev cX8_isAllowed : ByteArray := prog_1_method_38_code
def yX8_isAllowed : MethodName := ⟨RX8, "isAllowed", "(III)Z"⟩
abbrev cX8_carryOut : ByteArray := prog_1_method_39_code
def yX8_carryOut : MethodName := ⟨RX8, "carryOut", "(III)V"⟩
def RX9 : String := "BoilerCascadeModel"
def TX9 : u_T := fun k => match k with
  | _ => ("", "", "", false)
def tyX9 : Nat → FieldType := fun k => match k with
  | _ => .int
theorem nmX9 : ∀ a, a < 0 → ∀ b, b < 0 → a ≠ b → (TX9 a).2.1 ≠ (TX9 b).2.1 := by decide +kernel
theorem tyX9_ok : ∀ k, k < 0 → parseFieldDescriptor (TX9 k).2.2.1 = some (tyX9 k) := by decide +kernel
def RJ6 : String := "java/lang/Integer"
abbrev cJ6_bitCount_0f7a4 : ByteArray := prog_16_method_49_code
def yJ6_bitCount_0f7a4 : MethodName := ⟨RJ6, "bitCount", "(I)I"⟩
def RJ9 : String := "java/lang/Math"
abbrev cJ9_min_7cf53 : ByteArray := prog_17_method_69_code
def yJ9_min_7cf53 : MethodName := ⟨RJ9, "min", "(II)I"⟩
def RJ0 : String := "java/lang/String"
def RL : String := "BoilerCascadeLaw"
abbrev cL_tryAppend : ByteArray := method_2_code
def yL_tryAppend : MethodName := ⟨RL, "tryAppend", "(LBoilerCascade;I)I"⟩
abbrev cL_tryLoad : ByteArray := method_3_code
def yL_tryLoad : MethodName := ⟨RL, "tryLoad", "(LBoilerCascade;)I"⟩
abbrev cL_tryAbout : ByteArray := method_4_code
def yL_tryAbout : MethodName := ⟨RL, "tryAbout", "(LBoilerCascade;I)I"⟩
abbrev cL_tryBoiler : ByteArray := method_5_code
def yL_tryBoiler : MethodName := ⟨RL, "tryBoiler", "(LBoilerCascade;II)I"⟩
abbrev cL_tryFlue : ByteArray := method_6_code
def yL_tryFlue : MethodName := ⟨RL, "tryFlue", "(LBoilerCascade;II)I"⟩
abbrev cL_tryLayer : ByteArray := method_7_code
def yL_tryLayer : MethodName := ⟨RL, "tryLayer", "(LBoilerCascade;I)I"⟩
abbrev cL_tryAccount : ByteArray := method_8_code
def yL_tryAccount : MethodName := ⟨RL, "tryAccount", "(LBoilerCascade;I)I"⟩
abbrev cL_tryTick : ByteArray := method_9_code
def yL_tryTick : MethodName := ⟨RL, "tryTick", "(LBoilerCascade;II)I"⟩
abbrev cL_tryDraw : ByteArray := method_10_code
def yL_tryDraw : MethodName := ⟨RL, "tryDraw", "(LBoilerCascade;I)I"⟩
abbrev cL_trySet : ByteArray := method_11_code
def yL_trySet : MethodName := ⟨RL, "trySet", "(LBoilerCascade;II)I"⟩
abbrev cL_trySetFlue : ByteArray := method_12_code
def yL_trySetFlue : MethodName := ⟨RL, "trySetFlue", "(LBoilerCascade;IZ)I"⟩
abbrev cL_trySetDraft : ByteArray := method_13_code
def yL_trySetDraft : MethodName := ⟨RL, "trySetDraft", "(LBoilerCascade;II)I"⟩
abbrev cL_tryLock : ByteArray := method_14_code
def yL_tryLock : MethodName := ⟨RL, "tryLock", "(LBoilerCascade;I)I"⟩
abbrev cL_tryUnlock : ByteArray := method_15_code
def yL_tryUnlock : MethodName := ⟨RL, "tryUnlock", "(LBoilerCascade;I)I"⟩
abbrev cL_tryPutOff : ByteArray := method_16_code
def yL_tryPutOff : MethodName := ⟨RL, "tryPutOff", "(LBoilerCascade;I)I"⟩
abbrev cL_tryUndo : ByteArray := method_17_code
def yL_tryUndo : MethodName := ⟨RL, "tryUndo", "(LBoilerCascade;)I"⟩
abbrev cL_tryWhyNot : ByteArray := method_18_code
def yL_tryWhyNot : MethodName := ⟨RL, "tryWhyNot", "(LBoilerCascade;I)I"⟩
abbrev cL_trySmallestSet : ByteArray := method_19_code
def yL_trySmallestSet : MethodName := ⟨RL, "trySmallestSet", "(LBoilerCascade;IZ)I"⟩
abbrev cL_tryAhead : ByteArray := method_20_code
def yL_tryAhead : MethodName := ⟨RL, "tryAhead", "(LBoilerCascade;III)I"⟩
abbrev cL_tryWarmAfter : ByteArray := method_21_code
def yL_tryWarmAfter : MethodName := ⟨RL, "tryWarmAfter", "(LBoilerCascade;II)I"⟩
abbrev cL_tryBearable : ByteArray := method_22_code
def yL_tryBearable : MethodName := ⟨RL, "tryBearable", "(LBoilerCascade;II)I"⟩
abbrev cL_tryCheapestPurge : ByteArray := method_23_code
def yL_tryCheapestPurge : MethodName := ⟨RL, "tryCheapestPurge", "(LBoilerCascade;II)I"⟩
abbrev cL_tryScript : ByteArray := method_24_code
def yL_tryScript : MethodName := ⟨RL, "tryScript", "(LBoilerCascade;IJ)I"⟩
abbrev cL_trySimulate : ByteArray := method_25_code
def yL_trySimulate : MethodName := ⟨RL, "trySimulate", "(LBoilerCascade;JI)I"⟩
abbrev cL_trySave : ByteArray := method_26_code
def yL_trySave : MethodName := ⟨RL, "trySave", "(LBoilerCascade;I)I"⟩
abbrev cL_tryRestore : ByteArray := method_27_code
def yL_tryRestore : MethodName := ⟨RL, "tryRestore", "(LBoilerCascade;I)I"⟩
abbrev cL_number : ByteArray := method_28_code
def yL_number : MethodName := ⟨RL, "number", "([II)I"⟩
abbrev cL_put : ByteArray := method_29_code
def yL_put : MethodName := ⟨RL, "put", "(LBoilerCascade;LBoilerCascade;I)Z"⟩
abbrev cL_two : ByteArray := method_30_code
def yL_two : MethodName := ⟨RL, "two", "(LBoilerCascade;LBoilerCascade;I)Z"⟩
abbrev cL_told : ByteArray := method_31_code
def yL_told : MethodName := ⟨RL, "told", "(LBoilerCascade;LBoilerCascade;[II)Z"⟩
abbrev cL_alike : ByteArray := method_32_code
def yL_alike : MethodName := ⟨RL, "alike", "(LBoilerCascade;LBoilerCascade;)Z"⟩
abbrev cL_refuses : ByteArray := method_33_code
def yL_refuses : MethodName := ⟨RL, "refuses", "(LBoilerCascade;)Z"⟩
abbrev cL_heat : ByteArray := method_34_code
def yL_heat : MethodName := ⟨RL, "heat", "(LBoilerCascade;)I"⟩
abbrev cL_sound : ByteArray := method_35_code
def yL_sound : MethodName := ⟨RL, "sound", "(LBoilerCascade;)Z"⟩
abbrev cL_ticks : ByteArray := method_36_code
def yL_ticks : MethodName := ⟨RL, "ticks", "(LBoilerCascade;I)Z"⟩
abbrev cL_hands : ByteArray := method_37_code
def yL_hands : MethodName := ⟨RL, "hands", "(LBoilerCascade;I)Z"⟩
abbrev cL_purgeFuel : ByteArray := method_38_code
def yL_purgeFuel : MethodName := ⟨RL, "purgeFuel", "(LBoilerCascade;IIII)I"⟩
abbrev cL_scripts : ByteArray := method_39_code
def yL_scripts : MethodName := ⟨RL, "scripts", "(LBoilerCascade;I)Z"⟩
abbrev cL_act : ByteArray := method_40_code
def yL_act : MethodName := ⟨RL, "act", "(LBoilerCascade;II)I"⟩
abbrev cL_law : ByteArray := code
def yL_law : MethodName := ⟨RL, "law", "([I)Z"⟩
abbrev vwCl : List vw_C := [(RX0, TX0, 7), (RX1, TX1, 2), (RX2, TX2, 3), (RX3, TX3, 5), (RX4, TX4, 11), (RX5, TX5, 9), (RX6, TX6, 2), (RX7, TX7, 7), (RX8, TX8, 6)]
end
section
theorem dX0_init_0 : decode cX0_init 0 = .ok (.aload_n 0, 1) := by decide +kernel
theorem dX0_init_1 : decode cX0_init 1 = .ok (.invokespecial 3, 3) := by decide +kernel
theorem dX0_init_4 : decode cX0_init 4 = .ok (.return_, 1) := by decide +kernel
theorem dX0_beginAs_0 : decode cX0_beginAs 0 = .ok (.aload_n 0, 1) := by decide +kernel
theorem dX0_beginAs_1 : decode cX0_beginAs 1 = .ok (.iload_n 1, 1) := by decide +kernel
theorem dX0_beginAs_2 : decode cX0_beginAs 2 = .ok (.putfield 9, 3) := by decide +kernel
theorem dX0_beginAs_5 : decode cX0_beginAs 5 = .ok (.aload_n 0, 1) := by decide +kernel
theorem dX0_beginAs_6 : decode cX0_beginAs 6 = .ok (.iload_n 2, 1) := by decide +kernel
theorem dX0_beginAs_7 : decode cX0_beginAs 7 = .ok (.putfield 15, 3) := by decide +kernel
theorem dX0_beginAs_10 : decode cX0_beginAs 10 = .ok (.aload_n 0, 1) := by decide +kernel
theorem dX0_beginAs_11 : decode cX0_beginAs 11 = .ok (.iconst 0, 1) := by decide +kernel
theorem dX0_beginAs_12 : decode cX0_beginAs 12 = .ok (.putfield 18, 3) := by decide +kernel
theorem dX0_beginAs_15 : decode cX0_beginAs 15 = .ok (.aload_n 0, 1) := by decide +kernel
theorem dX0_beginAs_16 : decode cX0_beginAs 16 = .ok (.iconst 0, 1) := by decide +kernel
theorem dX0_beginAs_17 : decode cX0_beginAs 17 = .ok (.putfield 21, 3) := by decide +kernel
theorem dX0_beginAs_20 : decode cX0_beginAs 20 = .ok (.aload_n 0, 1) := by decide +kernel
theorem dX0_beginAs_21 : decode cX0_beginAs 21 = .ok (.iconst 0, 1) := by decide +kernel
theorem dX0_beginAs_22 : decode cX0_beginAs 22 = .ok (.putfield 24, 3) := by decide +kernel
theorem dX0_beginAs_25 : decode cX0_beginAs 25 = .ok (.aload_n 0, 1) := by decide +kernel
theorem dX0_beginAs_26 : decode cX0_beginAs 26 = .ok (.iconst 0, 1) := by decide +kernel
theorem dX0_beginAs_27 : decode cX0_beginAs 27 = .ok (.putfield 27, 3) := by decide +kernel
theorem dX0_beginAs_30 : decode cX0_beginAs 30 = .ok (.aload_n 0, 1) := by decide +kernel
theorem dX0_beginAs_31 : decode cX0_beginAs 31 = .ok (.iconst 0, 1) := by decide +kernel
theorem dX0_beginAs_32 : decode cX0_beginAs 32 = .ok (.putfield 30, 3) := by decide +kernel
theorem dX0_beginAs_35 : decode cX0_beginAs 35 = .ok (.return_, 1) := by decide +kernel
theorem dX0_copyFrom_0 : decode cX0_copyFrom 0 = .ok (.aload_n 0, 1) := by decide +kernel
theorem dX0_copyFrom_1 : decode cX0_copyFrom 1 = .ok (.aload_n 1, 1) := by decide +kernel
theorem dX0_copyFrom_2 : decode cX0_copyFrom 2 = .ok (.getfield 9, 3) := by decide +kernel
theorem dX0_copyFrom_5 : decode cX0_copyFrom 5 = .ok (.putfield 9, 3) := by decide +kernel
theorem dX0_copyFrom_8 : decode cX0_copyFrom 8 = .ok (.aload_n 0, 1) := by decide +kernel
theorem dX0_copyFrom_9 : decode cX0_copyFrom 9 = .ok (.aload_n 1, 1) := by decide +kernel
theorem dX0_copyFrom_10 : decode cX0_copyFrom 10 = .ok (.getfield 15, 3) := by decide +kernel
theorem dX0_copyFrom_13 : decode cX0_copyFrom 13 = .ok (.putfield 15, 3) := by decide +kernel
theorem dX0_copyFrom_16 : decode cX0_copyFrom 16 = .ok (.aload_n 0, 1) := by decide +kernel
theorem dX0_copyFrom_17 : decode cX0_copyFrom 17 = .ok (.aload_n 1, 1) := by decide +kernel
theorem dX0_copyFrom_18 : decode cX0_copyFrom 18 = .ok (.getfield 18, 3) := by decide +kernel
theorem dX0_copyFrom_21 : decode cX0_copyFrom 21 = .ok (.putfield 18, 3) := by decide +kernel
theorem dX0_copyFrom_24 : decode cX0_copyFrom 24 = .ok (.aload_n 0, 1) := by decide +kernel
theorem dX0_copyFrom_25 : decode cX0_copyFrom 25 = .ok (.aload_n 1, 1) := by decide +kernel
theorem dX0_copyFrom_26 : decode cX0_copyFrom 26 = .ok (.getfield 21, 3) := by decide +kernel
theorem dX0_copyFrom_29 : decode cX0_copyFrom 29 = .ok (.putfield 21, 3) := by decide +kernel
theorem dX0_copyFrom_32 : decode cX0_copyFrom 32 = .ok (.aload_n 0, 1) := by decide +kernel
theorem dX0_copyFrom_33 : decode cX0_copyFrom 33 = .ok (.aload_n 1, 1) := by decide +kernel
theorem dX0_copyFrom_34 : decode cX0_copyFrom 34 = .ok (.getfield 24, 3) := by decide +kernel
theorem dX0_copyFrom_37 : decode cX0_copyFrom 37 = .ok (.putfield 24, 3) := by decide +kernel
theorem dX0_copyFrom_40 : decode cX0_copyFrom 40 = .ok (.aload_n 0, 1) := by decide +kernel
theorem dX0_copyFrom_41 : decode cX0_copyFrom 41 = .ok (.aload_n 1, 1) := by decide +kernel
theorem dX0_copyFrom_42 : decode cX0_copyFrom 42 = .ok (.getfield 27, 3) := by decide +kernel
theorem dX0_copyFrom_45 : decode cX0_copyFrom 45 = .ok (.putfield 27, 3) := by decide +kernel
theorem dX0_copyFrom_48 : decode cX0_copyFrom 48 = .ok (.aload_n 0, 1) := by decide +kernel
theorem dX0_copyFrom_49 : decode cX0_copyFrom 49 = .ok (.aload_n 1, 1) := by decide +kernel
theorem dX0_copyFrom_50 : decode cX0_copyFrom 50 = .ok (.getfield 30, 3) := by decide +kernel
theorem dX0_copyFrom_53 : decode cX0_copyFrom 53 = .ok (.putfield 30, 3) := by decide +kernel
theorem dX0_copyFrom_56 : decode cX0_copyFrom 56 = .ok (.return_, 1) := by decide +kernel
theorem dX0_waits_0 : decode cX0_waits 0 = .ok (.aload_n 0, 1) := by decide +kernel
theorem dX0_waits_1 : decode cX0_waits 1 = .ok (.getfield 18, 3) := by decide +kernel
theorem dX0_waits_4 : decode cX0_waits 4 = .ok (.ifCond .eq 11, 3) := by decide +kernel
theorem dX0_waits_7 : decode cX0_waits 7 = .ok (.aload_n 0, 1) := by decide +kernel
theorem dX0_waits_8 : decode cX0_waits 8 = .ok (.getfield 18, 3) := by decide +kernel
theorem dX0_waits_11 : decode cX0_waits 11 = .ok (.iconst 3, 1) := by decide +kernel
theorem dX0_waits_12 : decode cX0_waits 12 = .ok (.if_icmp .ne 7, 3) := by decide +kernel
theorem dX0_waits_15 : decode cX0_waits 15 = .ok (.iconst 1, 1) := by decide +kernel
theorem dX0_waits_16 : decode cX0_waits 16 = .ok (.goto 4, 3) := by decide +kernel
theorem dX0_waits_19 : decode cX0_waits 19 = .ok (.iconst 0, 1) := by decide +kernel
theorem dX0_waits_20 : decode cX0_waits 20 = .ok (.ireturn, 1) := by decide +kernel
theorem dX0_start_0 : decode cX0_start 0 = .ok (.aload_n 0, 1) := by decide +kernel
theorem dX0_start_1 : decode cX0_start 1 = .ok (.getfield 18, 3) := by decide +kernel
theorem dX0_start_4 : decode cX0_start 4 = .ok (.iconst 3, 1) := by decide +kernel
theorem dX0_start_5 : decode cX0_start 5 = .ok (.if_icmp .ne 11, 3) := by decide +kernel
theorem dX0_start_8 : decode cX0_start 8 = .ok (.aload_n 0, 1) := by decide +kernel
theorem dX0_start_9 : decode cX0_start 9 = .ok (.iconst 2, 1) := by decide +kernel
theorem dX0_start_10 : decode cX0_start 10 = .ok (.putfield 18, 3) := by decide +kernel
theorem dX0_start_13 : decode cX0_start 13 = .ok (.goto 13, 3) := by decide +kernel
theorem dX0_start_16 : decode cX0_start 16 = .ok (.aload_n 0, 1) := by decide +kernel
theorem dX0_start_17 : decode cX0_start 17 = .ok (.iconst 1, 1) := by decide +kernel
theorem dX0_start_18 : decode cX0_start 18 = .ok (.putfield 18, 3) := by decide +kernel
theorem dX0_start_21 : decode cX0_start 21 = .ok (.aload_n 0, 1) := by decide +kernel
theorem dX0_start_22 : decode cX0_start 22 = .ok (.iload_n 1, 1) := by decide +kernel
theorem dX0_start_23 : decode cX0_start 23 = .ok (.putfield 21, 3) := by decide +kernel
theorem dX0_start_26 : decode cX0_start 26 = .ok (.aload_n 0, 1) := by decide +kernel
theorem dX0_start_27 : decode cX0_start 27 = .ok (.dup, 1) := by decide +kernel
theorem dX0_start_28 : decode cX0_start 28 = .ok (.getfield 27, 3) := by decide +kernel
theorem dX0_start_31 : decode cX0_start 31 = .ok (.iconst 1, 1) := by decide +kernel
theorem dX0_start_32 : decode cX0_start 32 = .ok (.iadd, 1) := by decide +kernel
theorem dX0_start_33 : decode cX0_start 33 = .ok (.putfield 27, 3) := by decide +kernel
theorem dX0_start_36 : decode cX0_start 36 = .ok (.return_, 1) := by decide +kernel
theorem dX0_leaveFor_0 : decode cX0_leaveFor 0 = .ok (.aload_n 0, 1) := by decide +kernel
theorem dX0_leaveFor_1 : decode cX0_leaveFor 1 = .ok (.iload_n 1, 1) := by decide +kernel
theorem dX0_leaveFor_2 : decode cX0_leaveFor 2 = .ok (.putfield 18, 3) := by decide +kernel
theorem dX0_leaveFor_5 : decode cX0_leaveFor 5 = .ok (.aload_n 0, 1) := by decide +kernel
theorem dX0_leaveFor_6 : decode cX0_leaveFor 6 = .ok (.iconst 0, 1) := by decide +kernel
theorem dX0_leaveFor_7 : decode cX0_leaveFor 7 = .ok (.putfield 21, 3) := by decide +kernel
theorem dX0_leaveFor_10 : decode cX0_leaveFor 10 = .ok (.return_, 1) := by decide +kernel
theorem dX0_work_0 : decode cX0_work 0 = .ok (.aload_n 0, 1) := by decide +kernel
theorem dX0_work_1 : decode cX0_work 1 = .ok (.getfield 18, 3) := by decide +kernel
theorem dX0_work_4 : decode cX0_work 4 = .ok (.tableswitch 92 1 3 #[28, 52, 80], 28) := by decide +kernel
theorem dX0_work_32 : decode cX0_work 32 = .ok (.aload_n 0, 1) := by decide +kernel
theorem dX0_work_33 : decode cX0_work 33 = .ok (.dup, 1) := by decide +kernel
theorem dX0_work_34 : decode cX0_work 34 = .ok (.getfield 21, 3) := by decide +kernel
theorem dX0_work_37 : decode cX0_work 37 = .ok (.iconst 1, 1) := by decide +kernel
theorem dX0_work_38 : decode cX0_work 38 = .ok (.isub, 1) := by decide +kernel
theorem dX0_work_39 : decode cX0_work 39 = .ok (.putfield 21, 3) := by decide +kernel
theorem dX0_work_42 : decode cX0_work 42 = .ok (.aload_n 0, 1) := by decide +kernel
theorem dX0_work_43 : decode cX0_work 43 = .ok (.getfield 21, 3) := by decide +kernel
theorem dX0_work_46 : decode cX0_work 46 = .ok (.ifCond .gt 8, 3) := by decide +kernel
theorem dX0_work_49 : decode cX0_work 49 = .ok (.aload_n 0, 1) := by decide +kernel
theorem dX0_work_50 : decode cX0_work 50 = .ok (.iconst 2, 1) := by decide +kernel
theorem dX0_work_51 : decode cX0_work 51 = .ok (.invokevirtual 33, 3) := by decide +kernel
theorem dX0_work_54 : decode cX0_work 54 = .ok (.iconst 0, 1) := by decide +kernel
theorem dX0_work_55 : decode cX0_work 55 = .ok (.ireturn, 1) := by decide +kernel
theorem dX0_work_56 : decode cX0_work 56 = .ok (.aload_n 0, 1) := by decide +kernel
theorem dX0_work_57 : decode cX0_work 57 = .ok (.dup, 1) := by decide +kernel
theorem dX0_work_58 : decode cX0_work 58 = .ok (.getfield 24, 3) := by decide +kernel
theorem dX0_work_61 : decode cX0_work 61 = .ok (.iconst 1, 1) := by decide +kernel
theorem dX0_work_62 : decode cX0_work 62 = .ok (.iadd, 1) := by decide +kernel
theorem dX0_work_63 : decode cX0_work 63 = .ok (.putfield 24, 3) := by decide +kernel
theorem dX0_work_66 : decode cX0_work 66 = .ok (.aload_n 0, 1) := by decide +kernel
theorem dX0_work_67 : decode cX0_work 67 = .ok (.dup, 1) := by decide +kernel
theorem dX0_work_68 : decode cX0_work 68 = .ok (.getfield 30, 3) := by decide +kernel
theorem dX0_work_71 : decode cX0_work 71 = .ok (.aload_n 0, 1) := by decide +kernel
theorem dX0_work_72 : decode cX0_work 72 = .ok (.getfield 9, 3) := by decide +kernel
theorem dX0_work_75 : decode cX0_work 75 = .ok (.iadd, 1) := by decide +kernel
theorem dX0_work_76 : decode cX0_work 76 = .ok (.putfield 30, 3) := by decide +kernel
theorem dX0_work_79 : decode cX0_work 79 = .ok (.aload_n 0, 1) := by decide +kernel
theorem dX0_work_80 : decode cX0_work 80 = .ok (.getfield 9, 3) := by decide +kernel
theorem dX0_work_83 : decode cX0_work 83 = .ok (.ireturn, 1) := by decide +kernel
theorem dX0_work_84 : decode cX0_work 84 = .ok (.aload_n 0, 1) := by decide +kernel
theorem dX0_work_85 : decode cX0_work 85 = .ok (.dup, 1) := by decide +kernel
theorem dX0_work_86 : decode cX0_work 86 = .ok (.getfield 30, 3) := by decide +kernel
theorem dX0_work_89 : decode cX0_work 89 = .ok (.iconst 1, 1) := by decide +kernel
theorem dX0_work_90 : decode cX0_work 90 = .ok (.iadd, 1) := by decide +kernel
theorem dX0_work_91 : decode cX0_work 91 = .ok (.putfield 30, 3) := by decide +kernel
theorem dX0_work_94 : decode cX0_work 94 = .ok (.iconst 0, 1) := by decide +kernel
theorem dX0_work_95 : decode cX0_work 95 = .ok (.ireturn, 1) := by decide +kernel
theorem dX0_work_96 : decode cX0_work 96 = .ok (.iconst 0, 1) := by decide +kernel
theorem dX0_work_97 : decode cX0_work 97 = .ok (.ireturn, 1) := by decide +kernel
theorem dX1_init_0 : decode cX1_init 0 = .ok (.aload_n 0, 1) := by decide +kernel
theorem dX1_init_1 : decode cX1_init 1 = .ok (.invokespecial 1, 3) := by decide +kernel
theorem dX1_init_4 : decode cX1_init 4 = .ok (.return_, 1) := by decide +kernel
theorem dX1_beginAs_0 : decode cX1_beginAs 0 = .ok (.aload_n 0, 1) := by decide +kernel
theorem dX1_beginAs_1 : decode cX1_beginAs 1 = .ok (.iload_n 1, 1) := by decide +kernel
theorem dX1_beginAs_2 : decode cX1_beginAs 2 = .ok (.putfield 7, 3) := by decide +kernel
theorem dX1_beginAs_5 : decode cX1_beginAs 5 = .ok (.aload_n 0, 1) := by decide +kernel
theorem dX1_beginAs_6 : decode cX1_beginAs 6 = .ok (.iconst 1, 1) := by decide +kernel
theorem dX1_beginAs_7 : decode cX1_beginAs 7 = .ok (.putfield 13, 3) := by decide +kernel
theorem dX1_beginAs_10 : decode cX1_beginAs 10 = .ok (.return_, 1) := by decide +kernel
theorem dX1_copyFrom_0 : decode cX1_copyFrom 0 = .ok (.aload_n 0, 1) := by decide +kernel
theorem dX1_copyFrom_1 : decode cX1_copyFrom 1 = .ok (.aload_n 1, 1) := by decide +kernel
theorem dX1_copyFrom_2 : decode cX1_copyFrom 2 = .ok (.getfield 7, 3) := by decide +kernel
theorem dX1_copyFrom_5 : decode cX1_copyFrom 5 = .ok (.putfield 7, 3) := by decide +kernel
theorem dX1_copyFrom_8 : decode cX1_copyFrom 8 = .ok (.aload_n 0, 1) := by decide +kernel
theorem dX1_copyFrom_9 : decode cX1_copyFrom 9 = .ok (.aload_n 1, 1) := by decide +kernel
theorem dX1_copyFrom_10 : decode cX1_copyFrom 10 = .ok (.getfield 13, 3) := by decide +kernel
theorem dX1_copyFrom_13 : decode cX1_copyFrom 13 = .ok (.putfield 13, 3) := by decide +kernel
theorem dX1_copyFrom_16 : decode cX1_copyFrom 16 = .ok (.return_, 1) := by decide +kernel
theorem dX2_init_0 : decode cX2_init 0 = .ok (.aload_n 0, 1) := by decide +kernel
theorem dX2_init_1 : decode cX2_init 1 = .ok (.invokespecial 3, 3) := by decide +kernel
theorem dX2_init_4 : decode cX2_init 4 = .ok (.aload_n 0, 1) := by decide +kernel
theorem dX2_init_5 : decode cX2_init 5 = .ok (.bipush 14, 2) := by decide +kernel
theorem dX2_init_7 : decode cX2_init 7 = .ok (.anewarray 9, 3) := by decide +kernel
theorem dX2_init_10 : decode cX2_init 10 = .ok (.putfield 11, 3) := by decide +kernel
theorem dX2_init_13 : decode cX2_init 13 = .ok (.iconst 0, 1) := by decide +kernel
theorem dX2_init_14 : decode cX2_init 14 = .ok (.istore_n 1, 1) := by decide +kernel
theorem dX2_init_15 : decode cX2_init 15 = .ok (.iload_n 1, 1) := by decide +kernel
theorem dX2_init_16 : decode cX2_init 16 = .ok (.aload_n 0, 1) := by decide +kernel
theorem dX2_init_17 : decode cX2_init 17 = .ok (.getfield 11, 3) := by decide +kernel
theorem dX2_init_20 : decode cX2_init 20 = .ok (.arraylength, 1) := by decide +kernel
theorem dX2_init_21 : decode cX2_init 21 = .ok (.if_icmp .ge 22, 3) := by decide +kernel
theorem dX2_init_24 : decode cX2_init 24 = .ok (.aload_n 0, 1) := by decide +kernel
theorem dX2_init_25 : decode cX2_init 25 = .ok (.getfield 11, 3) := by decide +kernel
theorem dX2_init_28 : decode cX2_init 28 = .ok (.iload_n 1, 1) := by decide +kernel
theorem dX2_init_29 : decode cX2_init 29 = .ok (.new 9, 3) := by decide +kernel
theorem dX2_init_32 : decode cX2_init 32 = .ok (.dup, 1) := by decide +kernel
theorem dX2_init_33 : decode cX2_init 33 = .ok (.invokespecial 17, 3) := by decide +kernel
theorem dX2_init_36 : decode cX2_init 36 = .ok (.aastore, 1) := by decide +kernel
theorem dX2_init_37 : decode cX2_init 37 = .ok (.iinc 1 1, 3) := by decide +kernel
theorem dX2_init_40 : decode cX2_init 40 = .ok (.goto (-25), 3) := by decide +kernel
theorem dX2_init_43 : decode cX2_init 43 = .ok (.return_, 1) := by decide +kernel
theorem dX2_forgetAll_0 : decode cX2_forgetAll 0 = .ok (.aload_n 0, 1) := by decide +kernel
theorem dX2_forgetAll_1 : decode cX2_forgetAll 1 = .ok (.iconst 0, 1) := by decide +kernel
theorem dX2_forgetAll_2 : decode cX2_forgetAll 2 = .ok (.putfield 18, 3) := by decide +kernel
theorem dX2_forgetAll_5 : decode cX2_forgetAll 5 = .ok (.return_, 1) := by decide +kernel
theorem dX2_remember_0 : decode cX2_remember 0 = .ok (.aload_n 0, 1) := by decide +kernel
theorem dX2_remember_1 : decode cX2_remember 1 = .ok (.getfield 22, 3) := by decide +kernel
theorem dX2_remember_4 : decode cX2_remember 4 = .ok (.aload_n 0, 1) := by decide +kernel
theorem dX2_remember_5 : decode cX2_remember 5 = .ok (.getfield 11, 3) := by decide +kernel
theorem dX2_remember_8 : decode cX2_remember 8 = .ok (.arraylength, 1) := by decide +kernel
theorem dX2_remember_9 : decode cX2_remember 9 = .ok (.if_icmp .lt 8, 3) := by decide +kernel
theorem dX2_remember_12 : decode cX2_remember 12 = .ok (.aload_n 0, 1) := by decide +kernel
theorem dX2_remember_13 : decode cX2_remember 13 = .ok (.iconst 0, 1) := by decide +kernel
theorem dX2_remember_14 : decode cX2_remember 14 = .ok (.putfield 22, 3) := by decide +kernel
theorem dX2_remember_17 : decode cX2_remember 17 = .ok (.aload_n 0, 1) := by decide +kernel
theorem dX2_remember_18 : decode cX2_remember 18 = .ok (.getfield 11, 3) := by decide +kernel
theorem dX2_remember_21 : decode cX2_remember 21 = .ok (.aload_n 0, 1) := by decide +kernel
theorem dX2_remember_22 : decode cX2_remember 22 = .ok (.getfield 22, 3) := by decide +kernel
theorem dX2_remember_25 : decode cX2_remember 25 = .ok (.aaload, 1) := by decide +kernel
theorem dX2_remember_26 : decode cX2_remember 26 = .ok (.aload_n 1, 1) := by decide +kernel
theorem dX2_remember_27 : decode cX2_remember 27 = .ok (.invokevirtual 25, 3) := by decide +kernel
theorem dX2_remember_30 : decode cX2_remember 30 = .ok (.aload_n 0, 1) := by decide +kernel
theorem dX2_remember_31 : decode cX2_remember 31 = .ok (.dup, 1) := by decide +kernel
theorem dX2_remember_32 : decode cX2_remember 32 = .ok (.getfield 22, 3) := by decide +kernel
theorem dX2_remember_35 : decode cX2_remember 35 = .ok (.iconst 1, 1) := by decide +kernel
theorem dX2_remember_36 : decode cX2_remember 36 = .ok (.iadd, 1) := by decide +kernel
theorem dX2_remember_37 : decode cX2_remember 37 = .ok (.putfield 22, 3) := by decide +kernel
theorem dX2_remember_40 : decode cX2_remember 40 = .ok (.aload_n 0, 1) := by decide +kernel
theorem dX2_remember_41 : decode cX2_remember 41 = .ok (.aload_n 0, 1) := by decide +kernel
theorem dX2_remember_42 : decode cX2_remember 42 = .ok (.getfield 18, 3) := by decide +kernel
theorem dX2_remember_45 : decode cX2_remember 45 = .ok (.iconst 1, 1) := by decide +kernel
theorem dX2_remember_46 : decode cX2_remember 46 = .ok (.iadd, 1) := by decide +kernel
theorem dX2_remember_47 : decode cX2_remember 47 = .ok (.aload_n 0, 1) := by decide +kernel
theorem dX2_remember_48 : decode cX2_remember 48 = .ok (.getfield 11, 3) := by decide +kernel
theorem dX2_remember_51 : decode cX2_remember 51 = .ok (.arraylength, 1) := by decide +kernel
theorem dX2_remember_52 : decode cX2_remember 52 = .ok (.invokestatic 29, 3) := by decide +kernel
theorem dX2_remember_55 : decode cX2_remember 55 = .ok (.putfield 18, 3) := by decide +kernel
theorem dX2_remember_58 : decode cX2_remember 58 = .ok (.return_, 1) := by decide +kernel
theorem dX2_takeBackInto_0 : decode cX2_takeBackInto 0 = .ok (.aload_n 0, 1) := by decide +kernel
theorem dX2_takeBackInto_1 : decode cX2_takeBackInto 1 = .ok (.getfield 18, 3) := by decide +kernel
theorem dX2_takeBackInto_4 : decode cX2_takeBackInto 4 = .ok (.ifCond .gt 5, 3) := by decide +kernel
theorem dX2_takeBackInto_7 : decode cX2_takeBackInto 7 = .ok (.iconst 0, 1) := by decide +kernel
theorem dX2_takeBackInto_8 : decode cX2_takeBackInto 8 = .ok (.ireturn, 1) := by decide +kernel
theorem dX2_takeBackInto_9 : decode cX2_takeBackInto 9 = .ok (.aload_n 0, 1) := by decide +kernel
theorem dX2_takeBackInto_10 : decode cX2_takeBackInto 10 = .ok (.aload_n 0, 1) := by decide +kernel
theorem dX2_takeBackInto_11 : decode cX2_takeBackInto 11 = .ok (.getfield 22, 3) := by decide +kernel
theorem dX2_takeBackInto_14 : decode cX2_takeBackInto 14 = .ok (.ifCond .le 12, 3) := by decide +kernel
theorem dX2_takeBackInto_17 : decode cX2_takeBackInto 17 = .ok (.aload_n 0, 1) := by decide +kernel
theorem dX2_takeBackInto_18 : decode cX2_takeBackInto 18 = .ok (.getfield 22, 3) := by decide +kernel
theorem dX2_takeBackInto_21 : decode cX2_takeBackInto 21 = .ok (.iconst 1, 1) := by decide +kernel
theorem dX2_takeBackInto_22 : decode cX2_takeBackInto 22 = .ok (.isub, 1) := by decide +kernel
theorem dX2_takeBackInto_23 : decode cX2_takeBackInto 23 = .ok (.goto 10, 3) := by decide +kernel
theorem dX2_takeBackInto_26 : decode cX2_takeBackInto 26 = .ok (.aload_n 0, 1) := by decide +kernel
theorem dX2_takeBackInto_27 : decode cX2_takeBackInto 27 = .ok (.getfield 11, 3) := by decide +kernel
theorem dX2_takeBackInto_30 : decode cX2_takeBackInto 30 = .ok (.arraylength, 1) := by decide +kernel
theorem dX2_takeBackInto_31 : decode cX2_takeBackInto 31 = .ok (.iconst 1, 1) := by decide +kernel
theorem dX2_takeBackInto_32 : decode cX2_takeBackInto 32 = .ok (.isub, 1) := by decide +kernel
theorem dX2_takeBackInto_33 : decode cX2_takeBackInto 33 = .ok (.putfield 22, 3) := by decide +kernel
theorem dX2_takeBackInto_36 : decode cX2_takeBackInto 36 = .ok (.aload_n 1, 1) := by decide +kernel
theorem dX2_takeBackInto_37 : decode cX2_takeBackInto 37 = .ok (.aload_n 0, 1) := by decide +kernel
theorem dX2_takeBackInto_38 : decode cX2_takeBackInto 38 = .ok (.getfield 11, 3) := by decide +kernel
theorem dX2_takeBackInto_41 : decode cX2_takeBackInto 41 = .ok (.aload_n 0, 1) := by decide +kernel
theorem dX2_takeBackInto_42 : decode cX2_takeBackInto 42 = .ok (.getfield 22, 3) := by decide +kernel
theorem dX2_takeBackInto_45 : decode cX2_takeBackInto 45 = .ok (.aaload, 1) := by decide +kernel
theorem dX2_takeBackInto_46 : decode cX2_takeBackInto 46 = .ok (.invokevirtual 25, 3) := by decide +kernel
theorem dX2_takeBackInto_49 : decode cX2_takeBackInto 49 = .ok (.aload_n 0, 1) := by decide +kernel
theorem dX2_takeBackInto_50 : decode cX2_takeBackInto 50 = .ok (.dup, 1) := by decide +kernel
theorem dX2_takeBackInto_51 : decode cX2_takeBackInto 51 = .ok (.getfield 18, 3) := by decide +kernel
theorem dX2_takeBackInto_54 : decode cX2_takeBackInto 54 = .ok (.iconst 1, 1) := by decide +kernel
theorem dX2_takeBackInto_55 : decode cX2_takeBackInto 55 = .ok (.isub, 1) := by decide +kernel
theorem dX2_takeBackInto_56 : decode cX2_takeBackInto 56 = .ok (.putfield 18, 3) := by decide +kernel
theorem dX2_takeBackInto_59 : decode cX2_takeBackInto 59 = .ok (.iconst 1, 1) := by decide +kernel
theorem dX2_takeBackInto_60 : decode cX2_takeBackInto 60 = .ok (.ireturn, 1) := by decide +kernel
theorem dX3_init_0 : decode cX3_init 0 = .ok (.aload_n 0, 1) := by decide +kernel
theorem dX3_init_1 : decode cX3_init 1 = .ok (.invokespecial 3, 3) := by decide +kernel
theorem dX3_init_4 : decode cX3_init 4 = .ok (.return_, 1) := by decide +kernel
theorem dX3_beginAsNew_0 : decode cX3_beginAsNew 0 = .ok (.aload_n 0, 1) := by decide +kernel
theorem dX3_beginAsNew_1 : decode cX3_beginAsNew 1 = .ok (.iconst 0, 1) := by decide +kernel
theorem dX3_beginAsNew_2 : decode cX3_beginAsNew 2 = .ok (.putfield 9, 3) := by decide +kernel
theorem dX3_beginAsNew_5 : decode cX3_beginAsNew 5 = .ok (.aload_n 0, 1) := by decide +kernel
theorem dX3_beginAsNew_6 : decode cX3_beginAsNew 6 = .ok (.iconst 0, 1) := by decide +kernel
theorem dX3_beginAsNew_7 : decode cX3_beginAsNew 7 = .ok (.putfield 15, 3) := by decide +kernel
theorem dX3_beginAsNew_10 : decode cX3_beginAsNew 10 = .ok (.aload_n 0, 1) := by decide +kernel
theorem dX3_beginAsNew_11 : decode cX3_beginAsNew 11 = .ok (.invokevirtual 18, 3) := by decide +kernel
theorem dX3_beginAsNew_14 : decode cX3_beginAsNew 14 = .ok (.return_, 1) := by decide +kernel
theorem dX3_copyFrom_0 : decode cX3_copyFrom 0 = .ok (.aload_n 0, 1) := by decide +kernel
theorem dX3_copyFrom_1 : decode cX3_copyFrom 1 = .ok (.aload_n 1, 1) := by decide +kernel
theorem dX3_copyFrom_2 : decode cX3_copyFrom 2 = .ok (.getfield 21, 3) := by decide +kernel
theorem dX3_copyFrom_5 : decode cX3_copyFrom 5 = .ok (.putfield 21, 3) := by decide +kernel
theorem dX3_copyFrom_8 : decode cX3_copyFrom 8 = .ok (.aload_n 0, 1) := by decide +kernel
theorem dX3_copyFrom_9 : decode cX3_copyFrom 9 = .ok (.aload_n 1, 1) := by decide +kernel
theorem dX3_copyFrom_10 : decode cX3_copyFrom 10 = .ok (.getfield 25, 3) := by decide +kernel
theorem dX3_copyFrom_13 : decode cX3_copyFrom 13 = .ok (.putfield 25, 3) := by decide +kernel
theorem dX3_copyFrom_16 : decode cX3_copyFrom 16 = .ok (.aload_n 0, 1) := by decide +kernel
theorem dX3_copyFrom_17 : decode cX3_copyFrom 17 = .ok (.aload_n 1, 1) := by decide +kernel
theorem dX3_copyFrom_18 : decode cX3_copyFrom 18 = .ok (.getfield 28, 3) := by decide +kernel
theorem dX3_copyFrom_21 : decode cX3_copyFrom 21 = .ok (.putfield 28, 3) := by decide +kernel
theorem dX3_copyFrom_24 : decode cX3_copyFrom 24 = .ok (.aload_n 0, 1) := by decide +kernel
theorem dX3_copyFrom_25 : decode cX3_copyFrom 25 = .ok (.aload_n 1, 1) := by decide +kernel
theorem dX3_copyFrom_26 : decode cX3_copyFrom 26 = .ok (.getfield 9, 3) := by decide +kernel
theorem dX3_copyFrom_29 : decode cX3_copyFrom 29 = .ok (.putfield 9, 3) := by decide +kernel
theorem dX3_copyFrom_32 : decode cX3_copyFrom 32 = .ok (.aload_n 0, 1) := by decide +kernel
theorem dX3_copyFrom_33 : decode cX3_copyFrom 33 = .ok (.aload_n 1, 1) := by decide +kernel
theorem dX3_copyFrom_34 : decode cX3_copyFrom 34 = .ok (.getfield 15, 3) := by decide +kernel
theorem dX3_copyFrom_37 : decode cX3_copyFrom 37 = .ok (.putfield 15, 3) := by decide +kernel
theorem dX3_copyFrom_40 : decode cX3_copyFrom 40 = .ok (.return_, 1) := by decide +kernel
theorem dX3_end_0 : decode cX3_end 0 = .ok (.aload_n 0, 1) := by decide +kernel
theorem dX3_end_1 : decode cX3_end 1 = .ok (.iconst 0, 1) := by decide +kernel
theorem dX3_end_2 : decode cX3_end 2 = .ok (.putfield 21, 3) := by decide +kernel
theorem dX3_end_5 : decode cX3_end 5 = .ok (.aload_n 0, 1) := by decide +kernel
theorem dX3_end_6 : decode cX3_end 6 = .ok (.iconst 0, 1) := by decide +kernel
theorem dX3_end_7 : decode cX3_end 7 = .ok (.putfield 25, 3) := by decide +kernel
theorem dX3_end_10 : decode cX3_end 10 = .ok (.aload_n 0, 1) := by decide +kernel
theorem dX3_end_11 : decode cX3_end 11 = .ok (.iconst 0, 1) := by decide +kernel
theorem dX3_end_12 : decode cX3_end 12 = .ok (.putfield 28, 3) := by decide +kernel
theorem dX3_end_15 : decode cX3_end 15 = .ok (.return_, 1) := by decide +kernel
theorem dX3_countTick_0 : decode cX3_countTick 0 = .ok (.aload_n 0, 1) := by decide +kernel
theorem dX3_countTick_1 : decode cX3_countTick 1 = .ok (.getfield 21, 3) := by decide +kernel
theorem dX3_countTick_4 : decode cX3_countTick 4 = .ok (.ifCond .ne 4, 3) := by decide +kernel
theorem dX3_countTick_7 : decode cX3_countTick 7 = .ok (.return_, 1) := by decide +kernel
theorem dX3_countTick_8 : decode cX3_countTick 8 = .ok (.aload_n 0, 1) := by decide +kernel
theorem dX3_countTick_9 : decode cX3_countTick 9 = .ok (.dup, 1) := by decide +kernel
theorem dX3_countTick_10 : decode cX3_countTick 10 = .ok (.getfield 28, 3) := by decide +kernel
theorem dX3_countTick_13 : decode cX3_countTick 13 = .ok (.iconst 1, 1) := by decide +kernel
theorem dX3_countTick_14 : decode cX3_countTick 14 = .ok (.iadd, 1) := by decide +kernel
theorem dX3_countTick_15 : decode cX3_countTick 15 = .ok (.putfield 28, 3) := by decide +kernel
theorem dX3_countTick_18 : decode cX3_countTick 18 = .ok (.aload_n 0, 1) := by decide +kernel
theorem dX3_countTick_19 : decode cX3_countTick 19 = .ok (.iload_n 1, 1) := by decide +kernel
theorem dX3_countTick_20 : decode cX3_countTick 20 = .ok (.ifCond .eq 12, 3) := by decide +kernel
theorem dX3_countTick_23 : decode cX3_countTick 23 = .ok (.aload_n 0, 1) := by decide +kernel
theorem dX3_countTick_24 : decode cX3_countTick 24 = .ok (.getfield 25, 3) := by decide +kernel
theorem dX3_countTick_27 : decode cX3_countTick 27 = .ok (.iconst 1, 1) := by decide +kernel
theorem dX3_countTick_28 : decode cX3_countTick 28 = .ok (.iadd, 1) := by decide +kernel
theorem dX3_countTick_29 : decode cX3_countTick 29 = .ok (.goto 4, 3) := by decide +kernel
theorem dX3_countTick_32 : decode cX3_countTick 32 = .ok (.iconst 0, 1) := by decide +kernel
theorem dX3_countTick_33 : decode cX3_countTick 33 = .ok (.putfield 25, 3) := by decide +kernel
theorem dX3_countTick_36 : decode cX3_countTick 36 = .ok (.aload_n 0, 1) := by decide +kernel
theorem dX3_countTick_37 : decode cX3_countTick 37 = .ok (.getfield 25, 3) := by decide +kernel
theorem dX3_countTick_40 : decode cX3_countTick 40 = .ok (.iload_n 2, 1) := by decide +kernel
theorem dX3_countTick_41 : decode cX3_countTick 41 = .ok (.if_icmp .lt 20, 3) := by decide +kernel
theorem dX3_countTick_44 : decode cX3_countTick 44 = .ok (.aload_n 0, 1) := by decide +kernel
theorem dX3_countTick_45 : decode cX3_countTick 45 = .ok (.dup, 1) := by decide +kernel
theorem dX3_countTick_46 : decode cX3_countTick 46 = .ok (.getfield 9, 3) := by decide +kernel
theorem dX3_countTick_49 : decode cX3_countTick 49 = .ok (.iconst 1, 1) := by decide +kernel
theorem dX3_countTick_50 : decode cX3_countTick 50 = .ok (.iadd, 1) := by decide +kernel
theorem dX3_countTick_51 : decode cX3_countTick 51 = .ok (.putfield 9, 3) := by decide +kernel
theorem dX3_countTick_54 : decode cX3_countTick 54 = .ok (.aload_n 0, 1) := by decide +kernel
theorem dX3_countTick_55 : decode cX3_countTick 55 = .ok (.invokevirtual 18, 3) := by decide +kernel
theorem dX3_countTick_58 : decode cX3_countTick 58 = .ok (.goto 26, 3) := by decide +kernel
theorem dX3_countTick_61 : decode cX3_countTick 61 = .ok (.aload_n 0, 1) := by decide +kernel
theorem dX3_countTick_62 : decode cX3_countTick 62 = .ok (.getfield 28, 3) := by decide +kernel
theorem dX3_countTick_65 : decode cX3_countTick 65 = .ok (.bipush 12, 2) := by decide +kernel
theorem dX3_countTick_67 : decode cX3_countTick 67 = .ok (.if_icmp .lt 17, 3) := by decide +kernel
theorem dX3_countTick_70 : decode cX3_countTick 70 = .ok (.aload_n 0, 1) := by decide +kernel
theorem dX3_countTick_71 : decode cX3_countTick 71 = .ok (.dup, 1) := by decide +kernel
theorem dX3_countTick_72 : decode cX3_countTick 72 = .ok (.getfield 15, 3) := by decide +kernel
theorem dX3_countTick_75 : decode cX3_countTick 75 = .ok (.iconst 1, 1) := by decide +kernel
theorem dX3_countTick_76 : decode cX3_countTick 76 = .ok (.iadd, 1) := by decide +kernel
theorem dX3_countTick_77 : decode cX3_countTick 77 = .ok (.putfield 15, 3) := by decide +kernel
theorem dX3_countTick_80 : decode cX3_countTick 80 = .ok (.aload_n 0, 1) := by decide +kernel
theorem dX3_countTick_81 : decode cX3_countTick 81 = .ok (.invokevirtual 18, 3) := by decide +kernel
theorem dX3_countTick_84 : decode cX3_countTick 84 = .ok (.return_, 1) := by decide +kernel
theorem dX4_init_0 : decode cX4_init 0 = .ok (.aload_n 0, 1) := by decide +kernel
theorem dX4_init_1 : decode cX4_init 1 = .ok (.invokespecial 3, 3) := by decide +kernel
theorem dX4_init_4 : decode cX4_init 4 = .ok (.aload_n 0, 1) := by decide +kernel
theorem dX4_init_5 : decode cX4_init 5 = .ok (.bipush 60, 2) := by decide +kernel
theorem dX4_init_7 : decode cX4_init 7 = .ok (.newarray .int, 2) := by decide +kernel
theorem dX4_init_9 : decode cX4_init 9 = .ok (.putfield 9, 3) := by decide +kernel
theorem dX4_init_12 : decode cX4_init 12 = .ok (.aload_n 0, 1) := by decide +kernel
theorem dX4_init_13 : decode cX4_init 13 = .ok (.iconst 4, 1) := by decide +kernel
theorem dX4_init_14 : decode cX4_init 14 = .ok (.putfield 15, 3) := by decide +kernel
theorem dX4_init_17 : decode cX4_init 17 = .ok (.aload_n 0, 1) := by decide +kernel
theorem dX4_init_18 : decode cX4_init 18 = .ok (.bipush 50, 2) := by decide +kernel
theorem dX4_init_20 : decode cX4_init 20 = .ok (.putfield 19, 3) := by decide +kernel
theorem dX4_init_23 : decode cX4_init 23 = .ok (.aload_n 0, 1) := by decide +kernel
theorem dX4_init_24 : decode cX4_init 24 = .ok (.bipush 50, 2) := by decide +kernel
theorem dX4_init_26 : decode cX4_init 26 = .ok (.putfield 22, 3) := by decide +kernel
theorem dX4_init_29 : decode cX4_init 29 = .ok (.aload_n 0, 1) := by decide +kernel
theorem dX4_init_30 : decode cX4_init 30 = .ok (.iconst 1, 1) := by decide +kernel
theorem dX4_init_31 : decode cX4_init 31 = .ok (.putfield 25, 3) := by decide +kernel
theorem dX4_init_34 : decode cX4_init 34 = .ok (.aload_n 0, 1) := by decide +kernel
theorem dX4_init_35 : decode cX4_init 35 = .ok (.iconst 5, 1) := by decide +kernel
theorem dX4_init_36 : decode cX4_init 36 = .ok (.newarray .int, 2) := by decide +kernel
theorem dX4_init_38 : decode cX4_init 38 = .ok (.putfield 28, 3) := by decide +kernel
theorem dX4_init_41 : decode cX4_init 41 = .ok (.aload_n 0, 1) := by decide +kernel
theorem dX4_init_42 : decode cX4_init 42 = .ok (.iconst 5, 1) := by decide +kernel
theorem dX4_init_43 : decode cX4_init 43 = .ok (.newarray .int, 2) := by decide +kernel
theorem dX4_init_45 : decode cX4_init 45 = .ok (.putfield 31, 3) := by decide +kernel
theorem dX4_init_48 : decode cX4_init 48 = .ok (.aload_n 0, 1) := by decide +kernel
theorem dX4_init_49 : decode cX4_init 49 = .ok (.bipush 8, 2) := by decide +kernel
theorem dX4_init_51 : decode cX4_init 51 = .ok (.newarray .int, 2) := by decide +kernel
theorem dX4_init_53 : decode cX4_init 53 = .ok (.putfield 34, 3) := by decide +kernel
theorem dX4_init_56 : decode cX4_init 56 = .ok (.aload_n 0, 1) := by decide +kernel
theorem dX4_init_57 : decode cX4_init 57 = .ok (.getfield 28, 3) := by decide +kernel
theorem dX4_init_60 : decode cX4_init 60 = .ok (.iconst 0, 1) := by decide +kernel
theorem dX4_init_61 : decode cX4_init 61 = .ok (.bipush 10, 2) := by decide +kernel
theorem dX4_init_63 : decode cX4_init 63 = .ok (.iastore, 1) := by decide +kernel
theorem dX4_init_64 : decode cX4_init 64 = .ok (.aload_n 0, 1) := by decide +kernel
theorem dX4_init_65 : decode cX4_init 65 = .ok (.invokevirtual 37, 3) := by decide +kernel
theorem dX4_init_68 : decode cX4_init 68 = .ok (.return_, 1) := by decide +kernel
theorem dX4_add_0 : decode cX4_add 0 = .ok (.aload_n 0, 1) := by decide +kernel
theorem dX4_add_1 : decode cX4_add 1 = .ok (.getfield 40, 3) := by decide +kernel
theorem dX4_add_4 : decode cX4_add 4 = .ok (.ifCond .lt 15, 3) := by decide +kernel
theorem dX4_add_7 : decode cX4_add 7 = .ok (.aload_n 0, 1) := by decide +kernel
theorem dX4_add_8 : decode cX4_add 8 = .ok (.getfield 40, 3) := by decide +kernel
theorem dX4_add_11 : decode cX4_add 11 = .ok (.aload_n 0, 1) := by decide +kernel
theorem dX4_add_12 : decode cX4_add 12 = .ok (.getfield 9, 3) := by decide +kernel
theorem dX4_add_15 : decode cX4_add 15 = .ok (.arraylength, 1) := by decide +kernel
theorem dX4_add_16 : decode cX4_add 16 = .ok (.if_icmp .lt 5, 3) := by decide +kernel
theorem dX4_add_19 : decode cX4_add 19 = .ok (.iconst 0, 1) := by decide +kernel
theorem dX4_add_20 : decode cX4_add 20 = .ok (.ireturn, 1) := by decide +kernel
theorem dX4_add_21 : decode cX4_add 21 = .ok (.aload_n 0, 1) := by decide +kernel
theorem dX4_add_22 : decode cX4_add 22 = .ok (.getfield 9, 3) := by decide +kernel
theorem dX4_add_25 : decode cX4_add 25 = .ok (.aload_n 0, 1) := by decide +kernel
theorem dX4_add_26 : decode cX4_add 26 = .ok (.getfield 40, 3) := by decide +kernel
theorem dX4_add_29 : decode cX4_add 29 = .ok (.iload_n 1, 1) := by decide +kernel
theorem dX4_add_30 : decode cX4_add 30 = .ok (.iastore, 1) := by decide +kernel
theorem dX4_add_31 : decode cX4_add 31 = .ok (.aload_n 0, 1) := by decide +kernel
theorem dX4_add_32 : decode cX4_add 32 = .ok (.dup, 1) := by decide +kernel
theorem dX4_add_33 : decode cX4_add 33 = .ok (.getfield 40, 3) := by decide +kernel
theorem dX4_add_36 : decode cX4_add 36 = .ok (.iconst 1, 1) := by decide +kernel
theorem dX4_add_37 : decode cX4_add 37 = .ok (.iadd, 1) := by decide +kernel
theorem dX4_add_38 : decode cX4_add 38 = .ok (.putfield 40, 3) := by decide +kernel
theorem dX4_add_41 : decode cX4_add 41 = .ok (.iconst 1, 1) := by decide +kernel
theorem dX4_add_42 : decode cX4_add 42 = .ok (.ireturn, 1) := by decide +kernel
theorem dX4_read_0 : decode cX4_read 0 = .ok (.aload_n 0, 1) := by decide +kernel
theorem dX4_read_1 : decode cX4_read 1 = .ok (.iconst 0, 1) := by decide +kernel
theorem dX4_read_2 : decode cX4_read 2 = .ok (.putfield 43, 3) := by decide +kernel
theorem dX4_read_5 : decode cX4_read 5 = .ok (.aload_n 0, 1) := by decide +kernel
theorem dX4_read_6 : decode cX4_read 6 = .ok (.iconst 0, 1) := by decide +kernel
theorem dX4_read_7 : decode cX4_read 7 = .ok (.putfield 46, 3) := by decide +kernel
theorem dX4_read_10 : decode cX4_read 10 = .ok (.aload_n 0, 1) := by decide +kernel
theorem dX4_read_11 : decode cX4_read 11 = .ok (.bipush 72, 2) := by decide +kernel
theorem dX4_read_13 : decode cX4_read 13 = .ok (.invokevirtual 50, 3) := by decide +kernel
theorem dX4_read_16 : decode cX4_read 16 = .ok (.aload_n 0, 1) := by decide +kernel
theorem dX4_read_17 : decode cX4_read 17 = .ok (.aload_n 0, 1) := by decide +kernel
theorem dX4_read_18 : decode cX4_read 18 = .ok (.iconst 2, 1) := by decide +kernel
theorem dX4_read_19 : decode cX4_read 19 = .ok (.bipush 8, 2) := by decide +kernel
theorem dX4_read_21 : decode cX4_read 21 = .ok (.invokevirtual 54, 3) := by decide +kernel
theorem dX4_read_24 : decode cX4_read 24 = .ok (.putfield 15, 3) := by decide +kernel
theorem dX4_read_27 : decode cX4_read 27 = .ok (.aload_n 0, 1) := by decide +kernel
theorem dX4_read_28 : decode cX4_read 28 = .ok (.aload_n 0, 1) := by decide +kernel
theorem dX4_read_29 : decode cX4_read 29 = .ok (.iconst 0, 1) := by decide +kernel
theorem dX4_read_30 : decode cX4_read 30 = .ok (.bipush 99, 2) := by decide +kernel
theorem dX4_read_32 : decode cX4_read 32 = .ok (.invokevirtual 58, 3) := by decide +kernel
theorem dX4_read_35 : decode cX4_read 35 = .ok (.putfield 19, 3) := by decide +kernel
theorem dX4_read_38 : decode cX4_read 38 = .ok (.aload_n 0, 1) := by decide +kernel
theorem dX4_read_39 : decode cX4_read 39 = .ok (.aload_n 0, 1) := by decide +kernel
theorem dX4_read_40 : decode cX4_read 40 = .ok (.iconst 0, 1) := by decide +kernel
theorem dX4_read_41 : decode cX4_read 41 = .ok (.bipush 99, 2) := by decide +kernel
theorem dX4_read_43 : decode cX4_read 43 = .ok (.invokevirtual 58, 3) := by decide +kernel
theorem dX4_read_46 : decode cX4_read 46 = .ok (.putfield 22, 3) := by decide +kernel
theorem dX4_read_49 : decode cX4_read 49 = .ok (.aload_n 0, 1) := by decide +kernel
theorem dX4_read_50 : decode cX4_read 50 = .ok (.iconst 0, 1) := by decide +kernel
theorem dX4_read_51 : decode cX4_read 51 = .ok (.invokevirtual 61, 3) := by decide +kernel
theorem dX4_read_54 : decode cX4_read 54 = .ok (.aload_n 0, 1) := by decide +kernel
theorem dX4_read_55 : decode cX4_read 55 = .ok (.iconst 1, 1) := by decide +kernel
theorem dX4_read_56 : decode cX4_read 56 = .ok (.putfield 25, 3) := by decide +kernel
theorem dX4_read_59 : decode cX4_read 59 = .ok (.aload_n 0, 1) := by decide +kernel
theorem dX4_read_60 : decode cX4_read 60 = .ok (.getfield 25, 3) := by decide +kernel
theorem dX4_read_63 : decode cX4_read 63 = .ok (.iconst 5, 1) := by decide +kernel
theorem dX4_read_64 : decode cX4_read 64 = .ok (.if_icmp .ge 33, 3) := by decide +kernel
theorem dX4_read_67 : decode cX4_read 67 = .ok (.aload_n 0, 1) := by decide +kernel
theorem dX4_read_68 : decode cX4_read 68 = .ok (.bipush 98, 2) := by decide +kernel
theorem dX4_read_70 : decode cX4_read 70 = .ok (.invokevirtual 64, 3) := by decide +kernel
theorem dX4_read_73 : decode cX4_read 73 = .ok (.ifCond .eq 24, 3) := by decide +kernel
theorem dX4_read_76 : decode cX4_read 76 = .ok (.aload_n 0, 1) := by decide +kernel
theorem dX4_read_77 : decode cX4_read 77 = .ok (.aload_n 0, 1) := by decide +kernel
theorem dX4_read_78 : decode cX4_read 78 = .ok (.getfield 25, 3) := by decide +kernel
theorem dX4_read_81 : decode cX4_read 81 = .ok (.invokevirtual 61, 3) := by decide +kernel
theorem dX4_read_84 : decode cX4_read 84 = .ok (.aload_n 0, 1) := by decide +kernel
theorem dX4_read_85 : decode cX4_read 85 = .ok (.dup, 1) := by decide +kernel
theorem dX4_read_86 : decode cX4_read 86 = .ok (.getfield 25, 3) := by decide +kernel
theorem dX4_read_89 : decode cX4_read 89 = .ok (.iconst 1, 1) := by decide +kernel
theorem dX4_read_90 : decode cX4_read 90 = .ok (.iadd, 1) := by decide +kernel
theorem dX4_read_91 : decode cX4_read 91 = .ok (.putfield 25, 3) := by decide +kernel
theorem dX4_read_94 : decode cX4_read 94 = .ok (.goto (-35), 3) := by decide +kernel
theorem dX4_read_97 : decode cX4_read 97 = .ok (.aload_n 0, 1) := by decide +kernel
theorem dX4_read_98 : decode cX4_read 98 = .ok (.bipush 116, 2) := by decide +kernel
theorem dX4_read_100 : decode cX4_read 100 = .ok (.invokevirtual 64, 3) := by decide +kernel
theorem dX4_read_103 : decode cX4_read 103 = .ok (.ifCond .eq 10, 3) := by decide +kernel
theorem dX4_read_106 : decode cX4_read 106 = .ok (.aload_n 0, 1) := by decide +kernel
theorem dX4_read_107 : decode cX4_read 107 = .ok (.invokevirtual 68, 3) := by decide +kernel
theorem dX4_read_110 : decode cX4_read 110 = .ok (.goto 7, 3) := by decide +kernel
theorem dX4_read_113 : decode cX4_read 113 = .ok (.aload_n 0, 1) := by decide +kernel
theorem dX4_read_114 : decode cX4_read 114 = .ok (.invokevirtual 37, 3) := by decide +kernel
theorem dX4_read_117 : decode cX4_read 117 = .ok (.aload_n 0, 1) := by decide +kernel
theorem dX4_read_118 : decode cX4_read 118 = .ok (.getfield 46, 3) := by decide +kernel
theorem dX4_read_121 : decode cX4_read 121 = .ok (.ifCond .ne 14, 3) := by decide +kernel
theorem dX4_read_124 : decode cX4_read 124 = .ok (.aload_n 0, 1) := by decide +kernel
theorem dX4_read_125 : decode cX4_read 125 = .ok (.getfield 43, 3) := by decide +kernel
theorem dX4_read_128 : decode cX4_read 128 = .ok (.aload_n 0, 1) := by decide +kernel
theorem dX4_read_129 : decode cX4_read 129 = .ok (.getfield 40, 3) := by decide +kernel
theorem dX4_read_132 : decode cX4_read 132 = .ok (.if_icmp .ge 10, 3) := by decide +kernel
theorem dX4_read_135 : decode cX4_read 135 = .ok (.aload_n 0, 1) := by decide +kernel
theorem dX4_read_136 : decode cX4_read 136 = .ok (.getfield 43, 3) := by decide +kernel
theorem dX4_read_139 : decode cX4_read 139 = .ok (.goto 5, 3) := by decide +kernel
theorem dX4_read_142 : decode cX4_read 142 = .ok (.bipush (-9), 2) := by decide +kernel
theorem dX4_read_144 : decode cX4_read 144 = .ok (.ireturn, 1) := by decide +kernel
theorem dX4_readBoiler_0 : decode cX4_readBoiler 0 = .ok (.aload_n 0, 1) := by decide +kernel
theorem dX4_readBoiler_1 : decode cX4_readBoiler 1 = .ok (.bipush 98, 2) := by decide +kernel
theorem dX4_readBoiler_3 : decode cX4_readBoiler 3 = .ok (.invokevirtual 50, 3) := by decide +kernel
theorem dX4_readBoiler_6 : decode cX4_readBoiler 6 = .ok (.aload_n 0, 1) := by decide +kernel
theorem dX4_readBoiler_7 : decode cX4_readBoiler 7 = .ok (.getfield 28, 3) := by decide +kernel
theorem dX4_readBoiler_10 : decode cX4_readBoiler 10 = .ok (.iload_n 1, 1) := by decide +kernel
theorem dX4_readBoiler_11 : decode cX4_readBoiler 11 = .ok (.aload_n 0, 1) := by decide +kernel
theorem dX4_readBoiler_12 : decode cX4_readBoiler 12 = .ok (.iconst 1, 1) := by decide +kernel
theorem dX4_readBoiler_13 : decode cX4_readBoiler 13 = .ok (.bipush 30, 2) := by decide +kernel
theorem dX4_readBoiler_15 : decode cX4_readBoiler 15 = .ok (.invokevirtual 58, 3) := by decide +kernel
theorem dX4_readBoiler_18 : decode cX4_readBoiler 18 = .ok (.iastore, 1) := by decide +kernel
theorem dX4_readBoiler_19 : decode cX4_readBoiler 19 = .ok (.aload_n 0, 1) := by decide +kernel
theorem dX4_readBoiler_20 : decode cX4_readBoiler 20 = .ok (.getfield 31, 3) := by decide +kernel
theorem dX4_readBoiler_23 : decode cX4_readBoiler 23 = .ok (.iload_n 1, 1) := by decide +kernel
theorem dX4_readBoiler_24 : decode cX4_readBoiler 24 = .ok (.aload_n 0, 1) := by decide +kernel
theorem dX4_readBoiler_25 : decode cX4_readBoiler 25 = .ok (.iconst 0, 1) := by decide +kernel
theorem dX4_readBoiler_26 : decode cX4_readBoiler 26 = .ok (.iconst 1, 1) := by decide +kernel
theorem dX4_readBoiler_27 : decode cX4_readBoiler 27 = .ok (.invokevirtual 54, 3) := by decide +kernel
theorem dX4_readBoiler_30 : decode cX4_readBoiler 30 = .ok (.iastore, 1) := by decide +kernel
theorem dX4_readBoiler_31 : decode cX4_readBoiler 31 = .ok (.return_, 1) := by decide +kernel
theorem dX4_readTemperatures_0 : decode cX4_readTemperatures 0 = .ok (.aload_n 0, 1) := by decide +kernel
theorem dX4_readTemperatures_1 : decode cX4_readTemperatures 1 = .ok (.bipush 116, 2) := by decide +kernel
theorem dX4_readTemperatures_3 : decode cX4_readTemperatures 3 = .ok (.invokevirtual 50, 3) := by decide +kernel
theorem dX4_readTemperatures_6 : decode cX4_readTemperatures 6 = .ok (.iconst 0, 1) := by decide +kernel
theorem dX4_readTemperatures_7 : decode cX4_readTemperatures 7 = .ok (.istore_n 1, 1) := by decide +kernel
theorem dX4_readTemperatures_8 : decode cX4_readTemperatures 8 = .ok (.iconst 0, 1) := by decide +kernel
theorem dX4_readTemperatures_9 : decode cX4_readTemperatures 9 = .ok (.istore_n 2, 1) := by decide +kernel
theorem dX4_readTemperatures_10 : decode cX4_readTemperatures 10 = .ok (.iload_n 2, 1) := by decide +kernel
theorem dX4_readTemperatures_11 : decode cX4_readTemperatures 11 = .ok (.aload_n 0, 1) := by decide +kernel
theorem dX4_readTemperatures_12 : decode cX4_readTemperatures 12 = .ok (.getfield 15, 3) := by decide +kernel
theorem dX4_readTemperatures_15 : decode cX4_readTemperatures 15 = .ok (.if_icmp .ge 33, 3) := by decide +kernel
theorem dX4_readTemperatures_18 : decode cX4_readTemperatures 18 = .ok (.iload_n 2, 1) := by decide +kernel
theorem dX4_readTemperatures_19 : decode cX4_readTemperatures 19 = .ok (.aload_n 0, 1) := by decide +kernel
theorem dX4_readTemperatures_20 : decode cX4_readTemperatures 20 = .ok (.getfield 34, 3) := by decide +kernel
theorem dX4_readTemperatures_23 : decode cX4_readTemperatures 23 = .ok (.arraylength, 1) := by decide +kernel
theorem dX4_readTemperatures_24 : decode cX4_readTemperatures 24 = .ok (.if_icmp .ge 24, 3) := by decide +kernel
theorem dX4_readTemperatures_27 : decode cX4_readTemperatures 27 = .ok (.aload_n 0, 1) := by decide +kernel
theorem dX4_readTemperatures_28 : decode cX4_readTemperatures 28 = .ok (.iload_n 1, 1) := by decide +kernel
theorem dX4_readTemperatures_29 : decode cX4_readTemperatures 29 = .ok (.bipush 99, 2) := by decide +kernel
theorem dX4_readTemperatures_31 : decode cX4_readTemperatures 31 = .ok (.invokevirtual 58, 3) := by decide +kernel
theorem dX4_readTemperatures_34 : decode cX4_readTemperatures 34 = .ok (.istore_n 1, 1) := by decide +kernel
theorem dX4_readTemperatures_35 : decode cX4_readTemperatures 35 = .ok (.aload_n 0, 1) := by decide +kernel
theorem dX4_readTemperatures_36 : decode cX4_readTemperatures 36 = .ok (.getfield 34, 3) := by decide +kernel
theorem dX4_readTemperatures_39 : decode cX4_readTemperatures 39 = .ok (.iload_n 2, 1) := by decide +kernel
theorem dX4_readTemperatures_40 : decode cX4_readTemperatures 40 = .ok (.iload_n 1, 1) := by decide +kernel
theorem dX4_readTemperatures_41 : decode cX4_readTemperatures 41 = .ok (.iastore, 1) := by decide +kernel
theorem dX4_readTemperatures_42 : decode cX4_readTemperatures 42 = .ok (.iinc 2 1, 3) := by decide +kernel
theorem dX4_readTemperatures_45 : decode cX4_readTemperatures 45 = .ok (.goto (-35), 3) := by decide +kernel
theorem dX4_readTemperatures_48 : decode cX4_readTemperatures 48 = .ok (.return_, 1) := by decide +kernel
theorem dX4_fillTemperatures_0 : decode cX4_fillTemperatures 0 = .ok (.iconst 0, 1) := by decide +kernel
theorem dX4_fillTemperatures_1 : decode cX4_fillTemperatures 1 = .ok (.istore_n 1, 1) := by decide +kernel
theorem dX4_fillTemperatures_2 : decode cX4_fillTemperatures 2 = .ok (.iload_n 1, 1) := by decide +kernel
theorem dX4_fillTemperatures_3 : decode cX4_fillTemperatures 3 = .ok (.aload_n 0, 1) := by decide +kernel
theorem dX4_fillTemperatures_4 : decode cX4_fillTemperatures 4 = .ok (.getfield 34, 3) := by decide +kernel
theorem dX4_fillTemperatures_7 : decode cX4_fillTemperatures 7 = .ok (.arraylength, 1) := by decide +kernel
theorem dX4_fillTemperatures_8 : decode cX4_fillTemperatures 8 = .ok (.if_icmp .ge 17, 3) := by decide +kernel
theorem dX4_fillTemperatures_11 : decode cX4_fillTemperatures 11 = .ok (.aload_n 0, 1) := by decide +kernel
theorem dX4_fillTemperatures_12 : decode cX4_fillTemperatures 12 = .ok (.getfield 34, 3) := by decide +kernel
theorem dX4_fillTemperatures_15 : decode cX4_fillTemperatures 15 = .ok (.iload_n 1, 1) := by decide +kernel
theorem dX4_fillTemperatures_16 : decode cX4_fillTemperatures 16 = .ok (.bipush 40, 2) := by decide +kernel
theorem dX4_fillTemperatures_18 : decode cX4_fillTemperatures 18 = .ok (.iastore, 1) := by decide +kernel
theorem dX4_fillTemperatures_19 : decode cX4_fillTemperatures 19 = .ok (.iinc 1 1, 3) := by decide +kernel
theorem dX4_fillTemperatures_22 : decode cX4_fillTemperatures 22 = .ok (.goto (-20), 3) := by decide +kernel
theorem dX4_fillTemperatures_25 : decode cX4_fillTemperatures 25 = .ok (.return_, 1) := by decide +kernel
theorem dX4_hasMore_0 : decode cX4_hasMore 0 = .ok (.aload_n 0, 1) := by decide +kernel
theorem dX4_hasMore_1 : decode cX4_hasMore 1 = .ok (.getfield 46, 3) := by decide +kernel
theorem dX4_hasMore_4 : decode cX4_hasMore 4 = .ok (.ifCond .ne 30, 3) := by decide +kernel
theorem dX4_hasMore_7 : decode cX4_hasMore 7 = .ok (.aload_n 0, 1) := by decide +kernel
theorem dX4_hasMore_8 : decode cX4_hasMore 8 = .ok (.getfield 43, 3) := by decide +kernel
theorem dX4_hasMore_11 : decode cX4_hasMore 11 = .ok (.aload_n 0, 1) := by decide +kernel
theorem dX4_hasMore_12 : decode cX4_hasMore 12 = .ok (.getfield 40, 3) := by decide +kernel
theorem dX4_hasMore_15 : decode cX4_hasMore 15 = .ok (.if_icmp .ge 19, 3) := by decide +kernel
theorem dX4_hasMore_18 : decode cX4_hasMore 18 = .ok (.aload_n 0, 1) := by decide +kernel
theorem dX4_hasMore_19 : decode cX4_hasMore 19 = .ok (.getfield 43, 3) := by decide +kernel
theorem dX4_hasMore_22 : decode cX4_hasMore 22 = .ok (.aload_n 0, 1) := by decide +kernel
theorem dX4_hasMore_23 : decode cX4_hasMore 23 = .ok (.getfield 9, 3) := by decide +kernel
theorem dX4_hasMore_26 : decode cX4_hasMore 26 = .ok (.arraylength, 1) := by decide +kernel
theorem dX4_hasMore_27 : decode cX4_hasMore 27 = .ok (.if_icmp .ge 7, 3) := by decide +kernel
theorem dX4_hasMore_30 : decode cX4_hasMore 30 = .ok (.iconst 1, 1) := by decide +kernel
theorem dX4_hasMore_31 : decode cX4_hasMore 31 = .ok (.goto 4, 3) := by decide +kernel
theorem dX4_hasMore_34 : decode cX4_hasMore 34 = .ok (.iconst 0, 1) := by decide +kernel
theorem dX4_hasMore_35 : decode cX4_hasMore 35 = .ok (.ireturn, 1) := by decide +kernel
theorem dX4_sees_0 : decode cX4_sees 0 = .ok (.aload_n 0, 1) := by decide +kernel
theorem dX4_sees_1 : decode cX4_sees 1 = .ok (.invokevirtual 71, 3) := by decide +kernel
theorem dX4_sees_4 : decode cX4_sees 4 = .ok (.ifCond .eq 20, 3) := by decide +kernel
theorem dX4_sees_7 : decode cX4_sees 7 = .ok (.aload_n 0, 1) := by decide +kernel
theorem dX4_sees_8 : decode cX4_sees 8 = .ok (.getfield 9, 3) := by decide +kernel
theorem dX4_sees_11 : decode cX4_sees 11 = .ok (.aload_n 0, 1) := by decide +kernel
theorem dX4_sees_12 : decode cX4_sees 12 = .ok (.getfield 43, 3) := by decide +kernel
theorem dX4_sees_15 : decode cX4_sees 15 = .ok (.iaload, 1) := by decide +kernel
theorem dX4_sees_16 : decode cX4_sees 16 = .ok (.iload_n 1, 1) := by decide +kernel
theorem dX4_sees_17 : decode cX4_sees 17 = .ok (.if_icmp .ne 7, 3) := by decide +kernel
theorem dX4_sees_20 : decode cX4_sees 20 = .ok (.iconst 1, 1) := by decide +kernel
theorem dX4_sees_21 : decode cX4_sees 21 = .ok (.goto 4, 3) := by decide +kernel
theorem dX4_sees_24 : decode cX4_sees 24 = .ok (.iconst 0, 1) := by decide +kernel
theorem dX4_sees_25 : decode cX4_sees 25 = .ok (.ireturn, 1) := by decide +kernel
theorem dX4_readSign_0 : decode cX4_readSign 0 = .ok (.aload_n 0, 1) := by decide +kernel
theorem dX4_readSign_1 : decode cX4_readSign 1 = .ok (.iload_n 1, 1) := by decide +kernel
theorem dX4_readSign_2 : decode cX4_readSign 2 = .ok (.invokevirtual 64, 3) := by decide +kernel
theorem dX4_readSign_5 : decode cX4_readSign 5 = .ok (.ifCond .eq 16, 3) := by decide +kernel
theorem dX4_readSign_8 : decode cX4_readSign 8 = .ok (.aload_n 0, 1) := by decide +kernel
theorem dX4_readSign_9 : decode cX4_readSign 9 = .ok (.dup, 1) := by decide +kernel
theorem dX4_readSign_10 : decode cX4_readSign 10 = .ok (.getfield 43, 3) := by decide +kernel
theorem dX4_readSign_13 : decode cX4_readSign 13 = .ok (.iconst 1, 1) := by decide +kernel
theorem dX4_readSign_14 : decode cX4_readSign 14 = .ok (.iadd, 1) := by decide +kernel
theorem dX4_readSign_15 : decode cX4_readSign 15 = .ok (.putfield 43, 3) := by decide +kernel
theorem dX4_readSign_18 : decode cX4_readSign 18 = .ok (.goto 8, 3) := by decide +kernel
theorem dX4_readSign_21 : decode cX4_readSign 21 = .ok (.aload_n 0, 1) := by decide +kernel
theorem dX4_readSign_22 : decode cX4_readSign 22 = .ok (.iconst 1, 1) := by decide +kernel
theorem dX4_readSign_23 : decode cX4_readSign 23 = .ok (.putfield 46, 3) := by decide +kernel
theorem dX4_readSign_26 : decode cX4_readSign 26 = .ok (.return_, 1) := by decide +kernel
theorem dX4_readNumber_0 : decode cX4_readNumber 0 = .ok (.aload_n 0, 1) := by decide +kernel
theorem dX4_readNumber_1 : decode cX4_readNumber 1 = .ok (.iload_n 1, 1) := by decide +kernel
theorem dX4_readNumber_2 : decode cX4_readNumber 2 = .ok (.bipush 10, 2) := by decide +kernel
theorem dX4_readNumber_4 : decode cX4_readNumber 4 = .ok (.idiv, 1) := by decide +kernel
theorem dX4_readNumber_5 : decode cX4_readNumber 5 = .ok (.iload_n 2, 1) := by decide +kernel
theorem dX4_readNumber_6 : decode cX4_readNumber 6 = .ok (.bipush 10, 2) := by decide +kernel
theorem dX4_readNumber_8 : decode cX4_readNumber 8 = .ok (.idiv, 1) := by decide +kernel
theorem dX4_readNumber_9 : decode cX4_readNumber 9 = .ok (.invokevirtual 54, 3) := by decide +kernel
theorem dX4_readNumber_12 : decode cX4_readNumber 12 = .ok (.istore_n 3, 1) := by decide +kernel
theorem dX4_readNumber_13 : decode cX4_readNumber 13 = .ok (.iload_n 3, 1) := by decide +kernel
theorem dX4_readNumber_14 : decode cX4_readNumber 14 = .ok (.iload_n 1, 1) := by decide +kernel
theorem dX4_readNumber_15 : decode cX4_readNumber 15 = .ok (.bipush 10, 2) := by decide +kernel
theorem dX4_readNumber_17 : decode cX4_readNumber 17 = .ok (.idiv, 1) := by decide +kernel
theorem dX4_readNumber_18 : decode cX4_readNumber 18 = .ok (.if_icmp .ne 10, 3) := by decide +kernel
theorem dX4_readNumber_21 : decode cX4_readNumber 21 = .ok (.iload_n 1, 1) := by decide +kernel
theorem dX4_readNumber_22 : decode cX4_readNumber 22 = .ok (.bipush 10, 2) := by decide +kernel
theorem dX4_readNumber_24 : decode cX4_readNumber 24 = .ok (.irem, 1) := by decide +kernel
theorem dX4_readNumber_25 : decode cX4_readNumber 25 = .ok (.goto 4, 3) := by decide +kernel
theorem dX4_readNumber_28 : decode cX4_readNumber 28 = .ok (.iconst 0, 1) := by decide +kernel
theorem dX4_readNumber_29 : decode cX4_readNumber 29 = .ok (.istore 4, 2) := by decide +kernel
theorem dX4_readNumber_31 : decode cX4_readNumber 31 = .ok (.iload_n 3, 1) := by decide +kernel
theorem dX4_readNumber_32 : decode cX4_readNumber 32 = .ok (.iload_n 2, 1) := by decide +kernel
theorem dX4_readNumber_33 : decode cX4_readNumber 33 = .ok (.bipush 10, 2) := by decide +kernel
theorem dX4_readNumber_35 : decode cX4_readNumber 35 = .ok (.idiv, 1) := by decide +kernel
theorem dX4_readNumber_36 : decode cX4_readNumber 36 = .ok (.if_icmp .ne 10, 3) := by decide +kernel
theorem dX4_readNumber_39 : decode cX4_readNumber 39 = .ok (.iload_n 2, 1) := by decide +kernel
theorem dX4_readNumber_40 : decode cX4_readNumber 40 = .ok (.bipush 10, 2) := by decide +kernel
theorem dX4_readNumber_42 : decode cX4_readNumber 42 = .ok (.irem, 1) := by decide +kernel
theorem dX4_readNumber_43 : decode cX4_readNumber 43 = .ok (.goto 5, 3) := by decide +kernel
theorem dX4_readNumber_46 : decode cX4_readNumber 46 = .ok (.bipush 9, 2) := by decide +kernel
theorem dX4_readNumber_48 : decode cX4_readNumber 48 = .ok (.istore 5, 2) := by decide +kernel
theorem dX4_readNumber_50 : decode cX4_readNumber 50 = .ok (.bipush 10, 2) := by decide +kernel
theorem dX4_readNumber_52 : decode cX4_readNumber 52 = .ok (.iload_n 3, 1) := by decide +kernel
theorem dX4_readNumber_53 : decode cX4_readNumber 53 = .ok (.imul, 1) := by decide +kernel
theorem dX4_readNumber_54 : decode cX4_readNumber 54 = .ok (.aload_n 0, 1) := by decide +kernel
theorem dX4_readNumber_55 : decode cX4_readNumber 55 = .ok (.iload 4, 2) := by decide +kernel
theorem dX4_readNumber_57 : decode cX4_readNumber 57 = .ok (.iload 5, 2) := by decide +kernel
theorem dX4_readNumber_59 : decode cX4_readNumber 59 = .ok (.invokevirtual 54, 3) := by decide +kernel
theorem dX4_readNumber_62 : decode cX4_readNumber 62 = .ok (.iadd, 1) := by decide +kernel
theorem dX4_readNumber_63 : decode cX4_readNumber 63 = .ok (.ireturn, 1) := by decide +kernel
theorem dX4_readDigit_0 : decode cX4_readDigit 0 = .ok (.aload_n 0, 1) := by decide +kernel
theorem dX4_readDigit_1 : decode cX4_readDigit 1 = .ok (.invokevirtual 71, 3) := by decide +kernel
theorem dX4_readDigit_4 : decode cX4_readDigit 4 = .ok (.ifCond .eq 38, 3) := by decide +kernel
theorem dX4_readDigit_7 : decode cX4_readDigit 7 = .ok (.aload_n 0, 1) := by decide +kernel
theorem dX4_readDigit_8 : decode cX4_readDigit 8 = .ok (.getfield 9, 3) := by decide +kernel
theorem dX4_readDigit_11 : decode cX4_readDigit 11 = .ok (.aload_n 0, 1) := by decide +kernel
theorem dX4_readDigit_12 : decode cX4_readDigit 12 = .ok (.getfield 43, 3) := by decide +kernel
theorem dX4_readDigit_15 : decode cX4_readDigit 15 = .ok (.iaload, 1) := by decide +kernel
theorem dX4_readDigit_16 : decode cX4_readDigit 16 = .ok (.bipush 48, 2) := by decide +kernel
theorem dX4_readDigit_18 : decode cX4_readDigit 18 = .ok (.isub, 1) := by decide +kernel
theorem dX4_readDigit_19 : decode cX4_readDigit 19 = .ok (.istore_n 3, 1) := by decide +kernel
theorem dX4_readDigit_20 : decode cX4_readDigit 20 = .ok (.iload_n 3, 1) := by decide +kernel
theorem dX4_readDigit_21 : decode cX4_readDigit 21 = .ok (.iload_n 1, 1) := by decide +kernel
theorem dX4_readDigit_22 : decode cX4_readDigit 22 = .ok (.if_icmp .lt 20, 3) := by decide +kernel
theorem dX4_readDigit_25 : decode cX4_readDigit 25 = .ok (.iload_n 3, 1) := by decide +kernel
theorem dX4_readDigit_26 : decode cX4_readDigit 26 = .ok (.iload_n 2, 1) := by decide +kernel
theorem dX4_readDigit_27 : decode cX4_readDigit 27 = .ok (.if_icmp .gt 15, 3) := by decide +kernel
theorem dX4_readDigit_30 : decode cX4_readDigit 30 = .ok (.aload_n 0, 1) := by decide +kernel
theorem dX4_readDigit_31 : decode cX4_readDigit 31 = .ok (.dup, 1) := by decide +kernel
theorem dX4_readDigit_32 : decode cX4_readDigit 32 = .ok (.getfield 43, 3) := by decide +kernel
theorem dX4_readDigit_35 : decode cX4_readDigit 35 = .ok (.iconst 1, 1) := by decide +kernel
theorem dX4_readDigit_36 : decode cX4_readDigit 36 = .ok (.iadd, 1) := by decide +kernel
theorem dX4_readDigit_37 : decode cX4_readDigit 37 = .ok (.putfield 43, 3) := by decide +kernel
theorem dX4_readDigit_40 : decode cX4_readDigit 40 = .ok (.iload_n 3, 1) := by decide +kernel
theorem dX4_readDigit_41 : decode cX4_readDigit 41 = .ok (.ireturn, 1) := by decide +kernel
theorem dX4_readDigit_42 : decode cX4_readDigit 42 = .ok (.aload_n 0, 1) := by decide +kernel
theorem dX4_readDigit_43 : decode cX4_readDigit 43 = .ok (.iconst 1, 1) := by decide +kernel
theorem dX4_readDigit_44 : decode cX4_readDigit 44 = .ok (.putfield 46, 3) := by decide +kernel
theorem dX4_readDigit_47 : decode cX4_readDigit 47 = .ok (.iload_n 1, 1) := by decide +kernel
theorem dX4_readDigit_48 : decode cX4_readDigit 48 = .ok (.ireturn, 1) := by decide +kernel
theorem dX5_init_0 : decode cX5_init 0 = .ok (.aload_n 0, 1) := by decide +kernel
theorem dX5_init_1 : decode cX5_init 1 = .ok (.invokespecial 3, 3) := by decide +kernel
theorem dX5_init_4 : decode cX5_init 4 = .ok (.aload_n 0, 1) := by decide +kernel
theorem dX5_init_5 : decode cX5_init 5 = .ok (.iconst 5, 1) := by decide +kernel
theorem dX5_init_6 : decode cX5_init 6 = .ok (.anewarray 9, 3) := by decide +kernel
theorem dX5_init_9 : decode cX5_init 9 = .ok (.putfield 11, 3) := by decide +kernel
theorem dX5_init_12 : decode cX5_init 12 = .ok (.aload_n 0, 1) := by decide +kernel
theorem dX5_init_13 : decode cX5_init 13 = .ok (.new 17, 3) := by decide +kernel
theorem dX5_init_16 : decode cX5_init 16 = .ok (.dup, 1) := by decide +kernel
theorem dX5_init_17 : decode cX5_init 17 = .ok (.invokespecial 19, 3) := by decide +kernel
theorem dX5_init_20 : decode cX5_init 20 = .ok (.putfield 20, 3) := by decide +kernel
theorem dX5_init_23 : decode cX5_init 23 = .ok (.aload_n 0, 1) := by decide +kernel
theorem dX5_init_24 : decode cX5_init 24 = .ok (.new 17, 3) := by decide +kernel
theorem dX5_init_27 : decode cX5_init 27 = .ok (.dup, 1) := by decide +kernel
theorem dX5_init_28 : decode cX5_init 28 = .ok (.invokespecial 19, 3) := by decide +kernel
theorem dX5_init_31 : decode cX5_init 31 = .ok (.putfield 24, 3) := by decide +kernel
theorem dX5_init_34 : decode cX5_init 34 = .ok (.aload_n 0, 1) := by decide +kernel
theorem dX5_init_35 : decode cX5_init 35 = .ok (.bipush 6, 2) := by decide +kernel
theorem dX5_init_37 : decode cX5_init 37 = .ok (.newarray .int, 2) := by decide +kernel
theorem dX5_init_39 : decode cX5_init 39 = .ok (.putfield 27, 3) := by decide +kernel
theorem dX5_init_42 : decode cX5_init 42 = .ok (.aload_n 0, 1) := by decide +kernel
theorem dX5_init_43 : decode cX5_init 43 = .ok (.new 31, 3) := by decide +kernel
theorem dX5_init_46 : decode cX5_init 46 = .ok (.dup, 1) := by decide +kernel
theorem dX5_init_47 : decode cX5_init 47 = .ok (.invokespecial 33, 3) := by decide +kernel
theorem dX5_init_50 : decode cX5_init 50 = .ok (.putfield 34, 3) := by decide +kernel
theorem dX5_init_53 : decode cX5_init 53 = .ok (.aload_n 0, 1) := by decide +kernel
theorem dX5_init_54 : decode cX5_init 54 = .ok (.new 38, 3) := by decide +kernel
theorem dX5_init_57 : decode cX5_init 57 = .ok (.dup, 1) := by decide +kernel
theorem dX5_init_58 : decode cX5_init 58 = .ok (.invokespecial 40, 3) := by decide +kernel
theorem dX5_init_61 : decode cX5_init 61 = .ok (.putfield 41, 3) := by decide +kernel
theorem dX5_init_64 : decode cX5_init 64 = .ok (.iconst 0, 1) := by decide +kernel
theorem dX5_init_65 : decode cX5_init 65 = .ok (.istore_n 1, 1) := by decide +kernel
theorem dX5_init_66 : decode cX5_init 66 = .ok (.iload_n 1, 1) := by decide +kernel
theorem dX5_init_67 : decode cX5_init 67 = .ok (.aload_n 0, 1) := by decide +kernel
theorem dX5_init_68 : decode cX5_init 68 = .ok (.getfield 11, 3) := by decide +kernel
theorem dX5_init_71 : decode cX5_init 71 = .ok (.arraylength, 1) := by decide +kernel
theorem dX5_init_72 : decode cX5_init 72 = .ok (.if_icmp .ge 22, 3) := by decide +kernel
theorem dX5_init_75 : decode cX5_init 75 = .ok (.aload_n 0, 1) := by decide +kernel
theorem dX5_init_76 : decode cX5_init 76 = .ok (.getfield 11, 3) := by decide +kernel
theorem dX5_init_79 : decode cX5_init 79 = .ok (.iload_n 1, 1) := by decide +kernel
theorem dX5_init_80 : decode cX5_init 80 = .ok (.new 9, 3) := by decide +kernel
theorem dX5_init_83 : decode cX5_init 83 = .ok (.dup, 1) := by decide +kernel
theorem dX5_init_84 : decode cX5_init 84 = .ok (.invokespecial 45, 3) := by decide +kernel
theorem dX5_init_87 : decode cX5_init 87 = .ok (.aastore, 1) := by decide +kernel
theorem dX5_init_88 : decode cX5_init 88 = .ok (.iinc 1 1, 3) := by decide +kernel
theorem dX5_init_91 : decode cX5_init 91 = .ok (.goto (-25), 3) := by decide +kernel
theorem dX5_init_94 : decode cX5_init 94 = .ok (.return_, 1) := by decide +kernel
theorem dX5_beginAs_0 : decode cX5_beginAs 0 = .ok (.aload_n 0, 1) := by decide +kernel
theorem dX5_beginAs_1 : decode cX5_beginAs 1 = .ok (.aload_n 1, 1) := by decide +kernel
theorem dX5_beginAs_2 : decode cX5_beginAs 2 = .ok (.getfield 46, 3) := by decide +kernel
theorem dX5_beginAs_5 : decode cX5_beginAs 5 = .ok (.aload_n 0, 1) := by decide +kernel
theorem dX5_beginAs_6 : decode cX5_beginAs 6 = .ok (.getfield 11, 3) := by decide +kernel
theorem dX5_beginAs_9 : decode cX5_beginAs 9 = .ok (.arraylength, 1) := by decide +kernel
theorem dX5_beginAs_10 : decode cX5_beginAs 10 = .ok (.invokestatic 51, 3) := by decide +kernel
theorem dX5_beginAs_13 : decode cX5_beginAs 13 = .ok (.putfield 57, 3) := by decide +kernel
theorem dX5_beginAs_16 : decode cX5_beginAs 16 = .ok (.iconst 0, 1) := by decide +kernel
theorem dX5_beginAs_17 : decode cX5_beginAs 17 = .ok (.istore_n 2, 1) := by decide +kernel
theorem dX5_beginAs_18 : decode cX5_beginAs 18 = .ok (.iload_n 2, 1) := by decide +kernel
theorem dX5_beginAs_19 : decode cX5_beginAs 19 = .ok (.aload_n 0, 1) := by decide +kernel
theorem dX5_beginAs_20 : decode cX5_beginAs 20 = .ok (.getfield 57, 3) := by decide +kernel
theorem dX5_beginAs_23 : decode cX5_beginAs 23 = .ok (.if_icmp .ge 30, 3) := by decide +kernel
theorem dX5_beginAs_26 : decode cX5_beginAs 26 = .ok (.aload_n 0, 1) := by decide +kernel
theorem dX5_beginAs_27 : decode cX5_beginAs 27 = .ok (.getfield 11, 3) := by decide +kernel
theorem dX5_beginAs_30 : decode cX5_beginAs 30 = .ok (.iload_n 2, 1) := by decide +kernel
theorem dX5_beginAs_31 : decode cX5_beginAs 31 = .ok (.aaload, 1) := by decide +kernel
theorem dX5_beginAs_32 : decode cX5_beginAs 32 = .ok (.aload_n 1, 1) := by decide +kernel
theorem dX5_beginAs_33 : decode cX5_beginAs 33 = .ok (.getfield 60, 3) := by decide +kernel
theorem dX5_beginAs_36 : decode cX5_beginAs 36 = .ok (.iload_n 2, 1) := by decide +kernel
theorem dX5_beginAs_37 : decode cX5_beginAs 37 = .ok (.iaload, 1) := by decide +kernel
theorem dX5_beginAs_38 : decode cX5_beginAs 38 = .ok (.aload_n 1, 1) := by decide +kernel
theorem dX5_beginAs_39 : decode cX5_beginAs 39 = .ok (.getfield 63, 3) := by decide +kernel
theorem dX5_beginAs_42 : decode cX5_beginAs 42 = .ok (.iload_n 2, 1) := by decide +kernel
theorem dX5_beginAs_43 : decode cX5_beginAs 43 = .ok (.iaload, 1) := by decide +kernel
theorem dX5_beginAs_44 : decode cX5_beginAs 44 = .ok (.invokevirtual 66, 3) := by decide +kernel
theorem dX5_beginAs_47 : decode cX5_beginAs 47 = .ok (.iinc 2 1, 3) := by decide +kernel
theorem dX5_beginAs_50 : decode cX5_beginAs 50 = .ok (.goto (-32), 3) := by decide +kernel
theorem dX5_beginAs_53 : decode cX5_beginAs 53 = .ok (.aload_n 0, 1) := by decide +kernel
theorem dX5_beginAs_54 : decode cX5_beginAs 54 = .ok (.getfield 20, 3) := by decide +kernel
theorem dX5_beginAs_57 : decode cX5_beginAs 57 = .ok (.aload_n 1, 1) := by decide +kernel
theorem dX5_beginAs_58 : decode cX5_beginAs 58 = .ok (.getfield 70, 3) := by decide +kernel
theorem dX5_beginAs_61 : decode cX5_beginAs 61 = .ok (.invokevirtual 73, 3) := by decide +kernel
theorem dX5_beginAs_64 : decode cX5_beginAs 64 = .ok (.aload_n 0, 1) := by decide +kernel
theorem dX5_beginAs_65 : decode cX5_beginAs 65 = .ok (.getfield 24, 3) := by decide +kernel
theorem dX5_beginAs_68 : decode cX5_beginAs 68 = .ok (.aload_n 1, 1) := by decide +kernel
theorem dX5_beginAs_69 : decode cX5_beginAs 69 = .ok (.getfield 76, 3) := by decide +kernel
theorem dX5_beginAs_72 : decode cX5_beginAs 72 = .ok (.invokevirtual 73, 3) := by decide +kernel
theorem dX5_beginAs_75 : decode cX5_beginAs 75 = .ok (.iconst 0, 1) := by decide +kernel
theorem dX5_beginAs_76 : decode cX5_beginAs 76 = .ok (.istore_n 2, 1) := by decide +kernel
theorem dX5_beginAs_77 : decode cX5_beginAs 77 = .ok (.iload_n 2, 1) := by decide +kernel
theorem dX5_beginAs_78 : decode cX5_beginAs 78 = .ok (.aload_n 0, 1) := by decide +kernel
theorem dX5_beginAs_79 : decode cX5_beginAs 79 = .ok (.getfield 27, 3) := by decide +kernel
theorem dX5_beginAs_82 : decode cX5_beginAs 82 = .ok (.arraylength, 1) := by decide +kernel
theorem dX5_beginAs_83 : decode cX5_beginAs 83 = .ok (.if_icmp .ge 20, 3) := by decide +kernel
theorem dX5_beginAs_86 : decode cX5_beginAs 86 = .ok (.aload_n 0, 1) := by decide +kernel
theorem dX5_beginAs_87 : decode cX5_beginAs 87 = .ok (.getfield 27, 3) := by decide +kernel
theorem dX5_beginAs_90 : decode cX5_beginAs 90 = .ok (.iload_n 2, 1) := by decide +kernel
theorem dX5_beginAs_91 : decode cX5_beginAs 91 = .ok (.getstatic 79, 3) := by decide +kernel
theorem dX5_beginAs_94 : decode cX5_beginAs 94 = .ok (.iload_n 2, 1) := by decide +kernel
theorem dX5_beginAs_95 : decode cX5_beginAs 95 = .ok (.iaload, 1) := by decide +kernel
theorem dX5_beginAs_96 : decode cX5_beginAs 96 = .ok (.iastore, 1) := by decide +kernel
theorem dX5_beginAs_97 : decode cX5_beginAs 97 = .ok (.iinc 2 1, 3) := by decide +kernel
theorem dX5_beginAs_100 : decode cX5_beginAs 100 = .ok (.goto (-23), 3) := by decide +kernel
theorem dX5_beginAs_103 : decode cX5_beginAs 103 = .ok (.aload_n 0, 1) := by decide +kernel
theorem dX5_beginAs_104 : decode cX5_beginAs 104 = .ok (.getfield 34, 3) := by decide +kernel
theorem dX5_beginAs_107 : decode cX5_beginAs 107 = .ok (.aload_n 1, 1) := by decide +kernel
theorem dX5_beginAs_108 : decode cX5_beginAs 108 = .ok (.getfield 82, 3) := by decide +kernel
theorem dX5_beginAs_111 : decode cX5_beginAs 111 = .ok (.aload_n 1, 1) := by decide +kernel
theorem dX5_beginAs_112 : decode cX5_beginAs 112 = .ok (.getfield 85, 3) := by decide +kernel
theorem dX5_beginAs_115 : decode cX5_beginAs 115 = .ok (.invokevirtual 88, 3) := by decide +kernel
theorem dX5_beginAs_118 : decode cX5_beginAs 118 = .ok (.aload_n 0, 1) := by decide +kernel
theorem dX5_beginAs_119 : decode cX5_beginAs 119 = .ok (.getfield 41, 3) := by decide +kernel
theorem dX5_beginAs_122 : decode cX5_beginAs 122 = .ok (.invokevirtual 91, 3) := by decide +kernel
theorem dX5_beginAs_125 : decode cX5_beginAs 125 = .ok (.aload_n 0, 1) := by decide +kernel
theorem dX5_beginAs_126 : decode cX5_beginAs 126 = .ok (.iconst 0, 1) := by decide +kernel
theorem dX5_beginAs_127 : decode cX5_beginAs 127 = .ok (.putfield 94, 3) := by decide +kernel
theorem dX5_beginAs_130 : decode cX5_beginAs 130 = .ok (.aload_n 0, 1) := by decide +kernel
theorem dX5_beginAs_131 : decode cX5_beginAs 131 = .ok (.iconst 0, 1) := by decide +kernel
theorem dX5_beginAs_132 : decode cX5_beginAs 132 = .ok (.putfield 97, 3) := by decide +kernel
theorem dX5_beginAs_135 : decode cX5_beginAs 135 = .ok (.return_, 1) := by decide +kernel
theorem dX5_copyFrom_0 : decode cX5_copyFrom 0 = .ok (.aload_n 0, 1) := by decide +kernel
theorem dX5_copyFrom_1 : decode cX5_copyFrom 1 = .ok (.aload_n 1, 1) := by decide +kernel
theorem dX5_copyFrom_2 : decode cX5_copyFrom 2 = .ok (.getfield 57, 3) := by decide +kernel
theorem dX5_copyFrom_5 : decode cX5_copyFrom 5 = .ok (.putfield 57, 3) := by decide +kernel
theorem dX5_copyFrom_8 : decode cX5_copyFrom 8 = .ok (.iconst 0, 1) := by decide +kernel
theorem dX5_copyFrom_9 : decode cX5_copyFrom 9 = .ok (.istore_n 2, 1) := by decide +kernel
theorem dX5_copyFrom_10 : decode cX5_copyFrom 10 = .ok (.iload_n 2, 1) := by decide +kernel
theorem dX5_copyFrom_11 : decode cX5_copyFrom 11 = .ok (.aload_n 0, 1) := by decide +kernel
theorem dX5_copyFrom_12 : decode cX5_copyFrom 12 = .ok (.getfield 57, 3) := by decide +kernel
theorem dX5_copyFrom_15 : decode cX5_copyFrom 15 = .ok (.if_icmp .ge 24, 3) := by decide +kernel
theorem dX5_copyFrom_18 : decode cX5_copyFrom 18 = .ok (.aload_n 0, 1) := by decide +kernel
theorem dX5_copyFrom_19 : decode cX5_copyFrom 19 = .ok (.getfield 11, 3) := by decide +kernel
theorem dX5_copyFrom_22 : decode cX5_copyFrom 22 = .ok (.iload_n 2, 1) := by decide +kernel
theorem dX5_copyFrom_23 : decode cX5_copyFrom 23 = .ok (.aaload, 1) := by decide +kernel
theorem dX5_copyFrom_24 : decode cX5_copyFrom 24 = .ok (.aload_n 1, 1) := by decide +kernel
theorem dX5_copyFrom_25 : decode cX5_copyFrom 25 = .ok (.getfield 11, 3) := by decide +kernel
theorem dX5_copyFrom_28 : decode cX5_copyFrom 28 = .ok (.iload_n 2, 1) := by decide +kernel
theorem dX5_copyFrom_29 : decode cX5_copyFrom 29 = .ok (.aaload, 1) := by decide +kernel
theorem dX5_copyFrom_30 : decode cX5_copyFrom 30 = .ok (.invokevirtual 100, 3) := by decide +kernel
theorem dX5_copyFrom_33 : decode cX5_copyFrom 33 = .ok (.iinc 2 1, 3) := by decide +kernel
theorem dX5_copyFrom_36 : decode cX5_copyFrom 36 = .ok (.goto (-26), 3) := by decide +kernel
theorem dX5_copyFrom_39 : decode cX5_copyFrom 39 = .ok (.aload_n 0, 1) := by decide +kernel
theorem dX5_copyFrom_40 : decode cX5_copyFrom 40 = .ok (.getfield 20, 3) := by decide +kernel
theorem dX5_copyFrom_43 : decode cX5_copyFrom 43 = .ok (.aload_n 1, 1) := by decide +kernel
theorem dX5_copyFrom_44 : decode cX5_copyFrom 44 = .ok (.getfield 20, 3) := by decide +kernel
theorem dX5_copyFrom_47 : decode cX5_copyFrom 47 = .ok (.invokevirtual 104, 3) := by decide +kernel
theorem dX5_copyFrom_50 : decode cX5_copyFrom 50 = .ok (.aload_n 0, 1) := by decide +kernel
theorem dX5_copyFrom_51 : decode cX5_copyFrom 51 = .ok (.getfield 24, 3) := by decide +kernel
theorem dX5_copyFrom_54 : decode cX5_copyFrom 54 = .ok (.aload_n 1, 1) := by decide +kernel
theorem dX5_copyFrom_55 : decode cX5_copyFrom 55 = .ok (.getfield 24, 3) := by decide +kernel
theorem dX5_copyFrom_58 : decode cX5_copyFrom 58 = .ok (.invokevirtual 104, 3) := by decide +kernel
theorem dX5_copyFrom_61 : decode cX5_copyFrom 61 = .ok (.iconst 0, 1) := by decide +kernel
theorem dX5_copyFrom_62 : decode cX5_copyFrom 62 = .ok (.istore_n 2, 1) := by decide +kernel
theorem dX5_copyFrom_63 : decode cX5_copyFrom 63 = .ok (.iload_n 2, 1) := by decide +kernel
theorem dX5_copyFrom_64 : decode cX5_copyFrom 64 = .ok (.aload_n 0, 1) := by decide +kernel
theorem dX5_copyFrom_65 : decode cX5_copyFrom 65 = .ok (.getfield 27, 3) := by decide +kernel
theorem dX5_copyFrom_68 : decode cX5_copyFrom 68 = .ok (.arraylength, 1) := by decide +kernel
theorem dX5_copyFrom_69 : decode cX5_copyFrom 69 = .ok (.if_icmp .ge 21, 3) := by decide +kernel
theorem dX5_copyFrom_72 : decode cX5_copyFrom 72 = .ok (.aload_n 0, 1) := by decide +kernel
theorem dX5_copyFrom_73 : decode cX5_copyFrom 73 = .ok (.getfield 27, 3) := by decide +kernel
theorem dX5_copyFrom_76 : decode cX5_copyFrom 76 = .ok (.iload_n 2, 1) := by decide +kernel
theorem dX5_copyFrom_77 : decode cX5_copyFrom 77 = .ok (.aload_n 1, 1) := by decide +kernel
theorem dX5_copyFrom_78 : decode cX5_copyFrom 78 = .ok (.getfield 27, 3) := by decide +kernel
theorem dX5_copyFrom_81 : decode cX5_copyFrom 81 = .ok (.iload_n 2, 1) := by decide +kernel
theorem dX5_copyFrom_82 : decode cX5_copyFrom 82 = .ok (.iaload, 1) := by decide +kernel
theorem dX5_copyFrom_83 : decode cX5_copyFrom 83 = .ok (.iastore, 1) := by decide +kernel
theorem dX5_copyFrom_84 : decode cX5_copyFrom 84 = .ok (.iinc 2 1, 3) := by decide +kernel
theorem dX5_copyFrom_87 : decode cX5_copyFrom 87 = .ok (.goto (-24), 3) := by decide +kernel
theorem dX5_copyFrom_90 : decode cX5_copyFrom 90 = .ok (.aload_n 0, 1) := by decide +kernel
theorem dX5_copyFrom_91 : decode cX5_copyFrom 91 = .ok (.getfield 34, 3) := by decide +kernel
theorem dX5_copyFrom_94 : decode cX5_copyFrom 94 = .ok (.aload_n 1, 1) := by decide +kernel
theorem dX5_copyFrom_95 : decode cX5_copyFrom 95 = .ok (.getfield 34, 3) := by decide +kernel
theorem dX5_copyFrom_98 : decode cX5_copyFrom 98 = .ok (.invokevirtual 107, 3) := by decide +kernel
theorem dX5_copyFrom_101 : decode cX5_copyFrom 101 = .ok (.aload_n 0, 1) := by decide +kernel
theorem dX5_copyFrom_102 : decode cX5_copyFrom 102 = .ok (.getfield 41, 3) := by decide +kernel
theorem dX5_copyFrom_105 : decode cX5_copyFrom 105 = .ok (.aload_n 1, 1) := by decide +kernel
theorem dX5_copyFrom_106 : decode cX5_copyFrom 106 = .ok (.getfield 41, 3) := by decide +kernel
theorem dX5_copyFrom_109 : decode cX5_copyFrom 109 = .ok (.invokevirtual 110, 3) := by decide +kernel
theorem dX5_copyFrom_112 : decode cX5_copyFrom 112 = .ok (.aload_n 0, 1) := by decide +kernel
theorem dX5_copyFrom_113 : decode cX5_copyFrom 113 = .ok (.aload_n 1, 1) := by decide +kernel
theorem dX5_copyFrom_114 : decode cX5_copyFrom 114 = .ok (.getfield 94, 3) := by decide +kernel
theorem dX5_copyFrom_117 : decode cX5_copyFrom 117 = .ok (.putfield 94, 3) := by decide +kernel
theorem dX5_copyFrom_120 : decode cX5_copyFrom 120 = .ok (.aload_n 0, 1) := by decide +kernel
theorem dX5_copyFrom_121 : decode cX5_copyFrom 121 = .ok (.aload_n 1, 1) := by decide +kernel
theorem dX5_copyFrom_122 : decode cX5_copyFrom 122 = .ok (.getfield 97, 3) := by decide +kernel
theorem dX5_copyFrom_125 : decode cX5_copyFrom 125 = .ok (.putfield 97, 3) := by decide +kernel
theorem dX5_copyFrom_128 : decode cX5_copyFrom 128 = .ok (.return_, 1) := by decide +kernel
theorem dX5_hasBoiler_0 : decode cX5_hasBoiler 0 = .ok (.iload_n 1, 1) := by decide +kernel
theorem dX5_hasBoiler_1 : decode cX5_hasBoiler 1 = .ok (.ifCond .lt 15, 3) := by decide +kernel
theorem dX5_hasBoiler_4 : decode cX5_hasBoiler 4 = .ok (.iload_n 1, 1) := by decide +kernel
theorem dX5_hasBoiler_5 : decode cX5_hasBoiler 5 = .ok (.aload_n 0, 1) := by decide +kernel
theorem dX5_hasBoiler_6 : decode cX5_hasBoiler 6 = .ok (.getfield 57, 3) := by decide +kernel
theorem dX5_hasBoiler_9 : decode cX5_hasBoiler 9 = .ok (.if_icmp .ge 7, 3) := by decide +kernel
theorem dX5_hasBoiler_12 : decode cX5_hasBoiler 12 = .ok (.iconst 1, 1) := by decide +kernel
theorem dX5_hasBoiler_13 : decode cX5_hasBoiler 13 = .ok (.goto 4, 3) := by decide +kernel
theorem dX5_hasBoiler_16 : decode cX5_hasBoiler 16 = .ok (.iconst 0, 1) := by decide +kernel
theorem dX5_hasBoiler_17 : decode cX5_hasBoiler 17 = .ok (.ireturn, 1) := by decide +kernel
theorem dX5_flueOf_0 : decode cX5_flueOf 0 = .ok (.iload_n 1, 1) := by decide +kernel
theorem dX5_flueOf_1 : decode cX5_flueOf 1 = .ok (.ifCond .ne 10, 3) := by decide +kernel
theorem dX5_flueOf_4 : decode cX5_flueOf 4 = .ok (.aload_n 0, 1) := by decide +kernel
theorem dX5_flueOf_5 : decode cX5_flueOf 5 = .ok (.getfield 20, 3) := by decide +kernel
theorem dX5_flueOf_8 : decode cX5_flueOf 8 = .ok (.goto 7, 3) := by decide +kernel
theorem dX5_flueOf_11 : decode cX5_flueOf 11 = .ok (.aload_n 0, 1) := by decide +kernel
theorem dX5_flueOf_12 : decode cX5_flueOf 12 = .ok (.getfield 24, 3) := by decide +kernel
theorem dX5_flueOf_15 : decode cX5_flueOf 15 = .ok (.areturn, 1) := by decide +kernel
theorem dX5_useOf_0 : decode cX5_useOf 0 = .ok (.iconst 0, 1) := by decide +kernel
theorem dX5_useOf_1 : decode cX5_useOf 1 = .ok (.istore_n 2, 1) := by decide +kernel
theorem dX5_useOf_2 : decode cX5_useOf 2 = .ok (.iconst 0, 1) := by decide +kernel
theorem dX5_useOf_3 : decode cX5_useOf 3 = .ok (.istore_n 3, 1) := by decide +kernel
theorem dX5_useOf_4 : decode cX5_useOf 4 = .ok (.iload_n 3, 1) := by decide +kernel
theorem dX5_useOf_5 : decode cX5_useOf 5 = .ok (.aload_n 0, 1) := by decide +kernel
theorem dX5_useOf_6 : decode cX5_useOf 6 = .ok (.getfield 57, 3) := by decide +kernel
theorem dX5_useOf_9 : decode cX5_useOf 9 = .ok (.if_icmp .ge 52, 3) := by decide +kernel
theorem dX5_useOf_12 : decode cX5_useOf 12 = .ok (.aload_n 0, 1) := by decide +kernel
theorem dX5_useOf_13 : decode cX5_useOf 13 = .ok (.getfield 11, 3) := by decide +kernel
theorem dX5_useOf_16 : decode cX5_useOf 16 = .ok (.iload_n 3, 1) := by decide +kernel
theorem dX5_useOf_17 : decode cX5_useOf 17 = .ok (.aaload, 1) := by decide +kernel
theorem dX5_useOf_18 : decode cX5_useOf 18 = .ok (.astore 4, 2) := by decide +kernel
theorem dX5_useOf_20 : decode cX5_useOf 20 = .ok (.aload 4, 2) := by decide +kernel
theorem dX5_useOf_22 : decode cX5_useOf 22 = .ok (.getfield 113, 3) := by decide +kernel
theorem dX5_useOf_25 : decode cX5_useOf 25 = .ok (.iload_n 1, 1) := by decide +kernel
theorem dX5_useOf_26 : decode cX5_useOf 26 = .ok (.if_icmp .ne 29, 3) := by decide +kernel
theorem dX5_useOf_29 : decode cX5_useOf 29 = .ok (.aload 4, 2) := by decide +kernel
theorem dX5_useOf_31 : decode cX5_useOf 31 = .ok (.getfield 116, 3) := by decide +kernel
theorem dX5_useOf_34 : decode cX5_useOf 34 = .ok (.iconst 1, 1) := by decide +kernel
theorem dX5_useOf_35 : decode cX5_useOf 35 = .ok (.if_icmp .eq 12, 3) := by decide +kernel
theorem dX5_useOf_38 : decode cX5_useOf 38 = .ok (.aload 4, 2) := by decide +kernel
theorem dX5_useOf_40 : decode cX5_useOf 40 = .ok (.getfield 116, 3) := by decide +kernel
theorem dX5_useOf_43 : decode cX5_useOf 43 = .ok (.iconst 2, 1) := by decide +kernel
theorem dX5_useOf_44 : decode cX5_useOf 44 = .ok (.if_icmp .ne 11, 3) := by decide +kernel
theorem dX5_useOf_47 : decode cX5_useOf 47 = .ok (.iload_n 2, 1) := by decide +kernel
theorem dX5_useOf_48 : decode cX5_useOf 48 = .ok (.aload 4, 2) := by decide +kernel
theorem dX5_useOf_50 : decode cX5_useOf 50 = .ok (.getfield 119, 3) := by decide +kernel
theorem dX5_useOf_53 : decode cX5_useOf 53 = .ok (.iadd, 1) := by decide +kernel
theorem dX5_useOf_54 : decode cX5_useOf 54 = .ok (.istore_n 2, 1) := by decide +kernel
theorem dX5_useOf_55 : decode cX5_useOf 55 = .ok (.iinc 3 1, 3) := by decide +kernel
theorem dX5_useOf_58 : decode cX5_useOf 58 = .ok (.goto (-54), 3) := by decide +kernel
theorem dX5_useOf_61 : decode cX5_useOf 61 = .ok (.iload_n 2, 1) := by decide +kernel
theorem dX5_useOf_62 : decode cX5_useOf 62 = .ok (.ireturn, 1) := by decide +kernel
theorem dX5_countAtFlue_0 : decode cX5_countAtFlue 0 = .ok (.iconst 0, 1) := by decide +kernel
theorem dX5_countAtFlue_1 : decode cX5_countAtFlue 1 = .ok (.istore_n 2, 1) := by decide +kernel
theorem dX5_countAtFlue_2 : decode cX5_countAtFlue 2 = .ok (.iconst 0, 1) := by decide +kernel
theorem dX5_countAtFlue_3 : decode cX5_countAtFlue 3 = .ok (.istore_n 3, 1) := by decide +kernel
theorem dX5_countAtFlue_4 : decode cX5_countAtFlue 4 = .ok (.iload_n 3, 1) := by decide +kernel
theorem dX5_countAtFlue_5 : decode cX5_countAtFlue 5 = .ok (.aload_n 0, 1) := by decide +kernel
theorem dX5_countAtFlue_6 : decode cX5_countAtFlue 6 = .ok (.getfield 57, 3) := by decide +kernel
theorem dX5_countAtFlue_9 : decode cX5_countAtFlue 9 = .ok (.if_icmp .ge 25, 3) := by decide +kernel
theorem dX5_countAtFlue_12 : decode cX5_countAtFlue 12 = .ok (.aload_n 0, 1) := by decide +kernel
theorem dX5_countAtFlue_13 : decode cX5_countAtFlue 13 = .ok (.getfield 11, 3) := by decide +kernel
theorem dX5_countAtFlue_16 : decode cX5_countAtFlue 16 = .ok (.iload_n 3, 1) := by decide +kernel
theorem dX5_countAtFlue_17 : decode cX5_countAtFlue 17 = .ok (.aaload, 1) := by decide +kernel
theorem dX5_countAtFlue_18 : decode cX5_countAtFlue 18 = .ok (.getfield 113, 3) := by decide +kernel
theorem dX5_countAtFlue_21 : decode cX5_countAtFlue 21 = .ok (.iload_n 1, 1) := by decide +kernel
theorem dX5_countAtFlue_22 : decode cX5_countAtFlue 22 = .ok (.if_icmp .ne 6, 3) := by decide +kernel
theorem dX5_countAtFlue_25 : decode cX5_countAtFlue 25 = .ok (.iinc 2 1, 3) := by decide +kernel
theorem dX5_countAtFlue_28 : decode cX5_countAtFlue 28 = .ok (.iinc 3 1, 3) := by decide +kernel
theorem dX5_countAtFlue_31 : decode cX5_countAtFlue 31 = .ok (.goto (-27), 3) := by decide +kernel
theorem dX5_countAtFlue_34 : decode cX5_countAtFlue 34 = .ok (.iload_n 2, 1) := by decide +kernel
theorem dX5_countAtFlue_35 : decode cX5_countAtFlue 35 = .ok (.ireturn, 1) := by decide +kernel
theorem dX5_countInState_0 : decode cX5_countInState 0 = .ok (.iconst 0, 1) := by decide +kernel
theorem dX5_countInState_1 : decode cX5_countInState 1 = .ok (.istore_n 2, 1) := by decide +kernel
theorem dX5_countInState_2 : decode cX5_countInState 2 = .ok (.iconst 0, 1) := by decide +kernel
theorem dX5_countInState_3 : decode cX5_countInState 3 = .ok (.istore_n 3, 1) := by decide +kernel
theorem dX5_countInState_4 : decode cX5_countInState 4 = .ok (.iload_n 3, 1) := by decide +kernel
theorem dX5_countInState_5 : decode cX5_countInState 5 = .ok (.aload_n 0, 1) := by decide +kernel
theorem dX5_countInState_6 : decode cX5_countInState 6 = .ok (.getfield 57, 3) := by decide +kernel
theorem dX5_countInState_9 : decode cX5_countInState 9 = .ok (.if_icmp .ge 25, 3) := by decide +kernel
theorem dX5_countInState_12 : decode cX5_countInState 12 = .ok (.aload_n 0, 1) := by decide +kernel
theorem dX5_countInState_13 : decode cX5_countInState 13 = .ok (.getfield 11, 3) := by decide +kernel
theorem dX5_countInState_16 : decode cX5_countInState 16 = .ok (.iload_n 3, 1) := by decide +kernel
theorem dX5_countInState_17 : decode cX5_countInState 17 = .ok (.aaload, 1) := by decide +kernel
theorem dX5_countInState_18 : decode cX5_countInState 18 = .ok (.getfield 116, 3) := by decide +kernel
theorem dX5_countInState_21 : decode cX5_countInState 21 = .ok (.iload_n 1, 1) := by decide +kernel
theorem dX5_countInState_22 : decode cX5_countInState 22 = .ok (.if_icmp .ne 6, 3) := by decide +kernel
theorem dX5_countInState_25 : decode cX5_countInState 25 = .ok (.iinc 2 1, 3) := by decide +kernel
theorem dX5_countInState_28 : decode cX5_countInState 28 = .ok (.iinc 3 1, 3) := by decide +kernel
theorem dX5_countInState_31 : decode cX5_countInState 31 = .ok (.goto (-27), 3) := by decide +kernel
theorem dX5_countInState_34 : decode cX5_countInState 34 = .ok (.iload_n 2, 1) := by decide +kernel
theorem dX5_countInState_35 : decode cX5_countInState 35 = .ok (.ireturn, 1) := by decide +kernel
theorem dX5_fuel_0 : decode cX5_fuel 0 = .ok (.iconst 0, 1) := by decide +kernel
theorem dX5_fuel_1 : decode cX5_fuel 1 = .ok (.istore_n 1, 1) := by decide +kernel
theorem dX5_fuel_2 : decode cX5_fuel 2 = .ok (.iconst 0, 1) := by decide +kernel
theorem dX5_fuel_3 : decode cX5_fuel 3 = .ok (.istore_n 2, 1) := by decide +kernel
theorem dX5_fuel_4 : decode cX5_fuel 4 = .ok (.iload_n 2, 1) := by decide +kernel
theorem dX5_fuel_5 : decode cX5_fuel 5 = .ok (.aload_n 0, 1) := by decide +kernel
theorem dX5_fuel_6 : decode cX5_fuel 6 = .ok (.getfield 57, 3) := by decide +kernel
theorem dX5_fuel_9 : decode cX5_fuel 9 = .ok (.if_icmp .ge 21, 3) := by decide +kernel
theorem dX5_fuel_12 : decode cX5_fuel 12 = .ok (.iload_n 1, 1) := by decide +kernel
theorem dX5_fuel_13 : decode cX5_fuel 13 = .ok (.aload_n 0, 1) := by decide +kernel
theorem dX5_fuel_14 : decode cX5_fuel 14 = .ok (.getfield 11, 3) := by decide +kernel
theorem dX5_fuel_17 : decode cX5_fuel 17 = .ok (.iload_n 2, 1) := by decide +kernel
theorem dX5_fuel_18 : decode cX5_fuel 18 = .ok (.aaload, 1) := by decide +kernel
theorem dX5_fuel_19 : decode cX5_fuel 19 = .ok (.getfield 122, 3) := by decide +kernel
theorem dX5_fuel_22 : decode cX5_fuel 22 = .ok (.iadd, 1) := by decide +kernel
theorem dX5_fuel_23 : decode cX5_fuel 23 = .ok (.istore_n 1, 1) := by decide +kernel
theorem dX5_fuel_24 : decode cX5_fuel 24 = .ok (.iinc 2 1, 3) := by decide +kernel
theorem dX5_fuel_27 : decode cX5_fuel 27 = .ok (.goto (-23), 3) := by decide +kernel
theorem dX5_fuel_30 : decode cX5_fuel 30 = .ok (.iload_n 1, 1) := by decide +kernel
theorem dX5_fuel_31 : decode cX5_fuel 31 = .ok (.ireturn, 1) := by decide +kernel
theorem dX5_starts_0 : decode cX5_starts 0 = .ok (.iconst 0, 1) := by decide +kernel
theorem dX5_starts_1 : decode cX5_starts 1 = .ok (.istore_n 1, 1) := by decide +kernel
theorem dX5_starts_2 : decode cX5_starts 2 = .ok (.iconst 0, 1) := by decide +kernel
theorem dX5_starts_3 : decode cX5_starts 3 = .ok (.istore_n 2, 1) := by decide +kernel
theorem dX5_starts_4 : decode cX5_starts 4 = .ok (.iload_n 2, 1) := by decide +kernel
theorem dX5_starts_5 : decode cX5_starts 5 = .ok (.aload_n 0, 1) := by decide +kernel
theorem dX5_starts_6 : decode cX5_starts 6 = .ok (.getfield 57, 3) := by decide +kernel
theorem dX5_starts_9 : decode cX5_starts 9 = .ok (.if_icmp .ge 21, 3) := by decide +kernel
theorem dX5_starts_12 : decode cX5_starts 12 = .ok (.iload_n 1, 1) := by decide +kernel
theorem dX5_starts_13 : decode cX5_starts 13 = .ok (.aload_n 0, 1) := by decide +kernel
theorem dX5_starts_14 : decode cX5_starts 14 = .ok (.getfield 11, 3) := by decide +kernel
theorem dX5_starts_17 : decode cX5_starts 17 = .ok (.iload_n 2, 1) := by decide +kernel
theorem dX5_starts_18 : decode cX5_starts 18 = .ok (.aaload, 1) := by decide +kernel
theorem dX5_starts_19 : decode cX5_starts 19 = .ok (.getfield 125, 3) := by decide +kernel
theorem dX5_starts_22 : decode cX5_starts 22 = .ok (.iadd, 1) := by decide +kernel
theorem dX5_starts_23 : decode cX5_starts 23 = .ok (.istore_n 1, 1) := by decide +kernel
theorem dX5_starts_24 : decode cX5_starts 24 = .ok (.iinc 2 1, 3) := by decide +kernel
theorem dX5_starts_27 : decode cX5_starts 27 = .ok (.goto (-23), 3) := by decide +kernel
theorem dX5_starts_30 : decode cX5_starts 30 = .ok (.iload_n 1, 1) := by decide +kernel
theorem dX5_starts_31 : decode cX5_starts 31 = .ok (.ireturn, 1) := by decide +kernel
theorem dX5_hasRoomFor_0 : decode cX5_hasRoomFor 0 = .ok (.aload_n 0, 1) := by decide +kernel
theorem dX5_hasRoomFor_1 : decode cX5_hasRoomFor 1 = .ok (.aload_n 1, 1) := by decide +kernel
theorem dX5_hasRoomFor_2 : decode cX5_hasRoomFor 2 = .ok (.getfield 113, 3) := by decide +kernel
theorem dX5_hasRoomFor_5 : decode cX5_hasRoomFor 5 = .ok (.invokevirtual 128, 3) := by decide +kernel
theorem dX5_hasRoomFor_8 : decode cX5_hasRoomFor 8 = .ok (.astore_n 2, 1) := by decide +kernel
theorem dX5_hasRoomFor_9 : decode cX5_hasRoomFor 9 = .ok (.aload_n 2, 1) := by decide +kernel
theorem dX5_hasRoomFor_10 : decode cX5_hasRoomFor 10 = .ok (.getfield 132, 3) := by decide +kernel
theorem dX5_hasRoomFor_13 : decode cX5_hasRoomFor 13 = .ok (.ifCond .eq 27, 3) := by decide +kernel
theorem dX5_hasRoomFor_16 : decode cX5_hasRoomFor 16 = .ok (.aload_n 0, 1) := by decide +kernel
theorem dX5_hasRoomFor_17 : decode cX5_hasRoomFor 17 = .ok (.aload_n 1, 1) := by decide +kernel
theorem dX5_hasRoomFor_18 : decode cX5_hasRoomFor 18 = .ok (.getfield 113, 3) := by decide +kernel
theorem dX5_hasRoomFor_21 : decode cX5_hasRoomFor 21 = .ok (.invokevirtual 136, 3) := by decide +kernel
theorem dX5_hasRoomFor_24 : decode cX5_hasRoomFor 24 = .ok (.aload_n 1, 1) := by decide +kernel
theorem dX5_hasRoomFor_25 : decode cX5_hasRoomFor 25 = .ok (.getfield 119, 3) := by decide +kernel
theorem dX5_hasRoomFor_28 : decode cX5_hasRoomFor 28 = .ok (.iadd, 1) := by decide +kernel
theorem dX5_hasRoomFor_29 : decode cX5_hasRoomFor 29 = .ok (.aload_n 2, 1) := by decide +kernel
theorem dX5_hasRoomFor_30 : decode cX5_hasRoomFor 30 = .ok (.getfield 140, 3) := by decide +kernel
theorem dX5_hasRoomFor_33 : decode cX5_hasRoomFor 33 = .ok (.if_icmp .gt 7, 3) := by decide +kernel
theorem dX5_hasRoomFor_36 : decode cX5_hasRoomFor 36 = .ok (.iconst 1, 1) := by decide +kernel
theorem dX5_hasRoomFor_37 : decode cX5_hasRoomFor 37 = .ok (.goto 4, 3) := by decide +kernel
theorem dX5_hasRoomFor_40 : decode cX5_hasRoomFor 40 = .ok (.iconst 0, 1) := by decide +kernel
theorem dX5_hasRoomFor_41 : decode cX5_hasRoomFor 41 = .ok (.ireturn, 1) := by decide +kernel
theorem dX5_firstToStart_0 : decode cX5_firstToStart 0 = .ok (.bipush (-9), 2) := by decide +kernel
theorem dX5_firstToStart_2 : decode cX5_firstToStart 2 = .ok (.istore_n 1, 1) := by decide +kernel
theorem dX5_firstToStart_3 : decode cX5_firstToStart 3 = .ok (.iconst 0, 1) := by decide +kernel
theorem dX5_firstToStart_4 : decode cX5_firstToStart 4 = .ok (.istore_n 2, 1) := by decide +kernel
theorem dX5_firstToStart_5 : decode cX5_firstToStart 5 = .ok (.iconst 0, 1) := by decide +kernel
theorem dX5_firstToStart_6 : decode cX5_firstToStart 6 = .ok (.istore_n 3, 1) := by decide +kernel
theorem dX5_firstToStart_7 : decode cX5_firstToStart 7 = .ok (.iload_n 3, 1) := by decide +kernel
theorem dX5_firstToStart_8 : decode cX5_firstToStart 8 = .ok (.aload_n 0, 1) := by decide +kernel
theorem dX5_firstToStart_9 : decode cX5_firstToStart 9 = .ok (.getfield 57, 3) := by decide +kernel
theorem dX5_firstToStart_12 : decode cX5_firstToStart 12 = .ok (.if_icmp .ge 57, 3) := by decide +kernel
theorem dX5_firstToStart_15 : decode cX5_firstToStart 15 = .ok (.aload_n 0, 1) := by decide +kernel
theorem dX5_firstToStart_16 : decode cX5_firstToStart 16 = .ok (.getfield 11, 3) := by decide +kernel
theorem dX5_firstToStart_19 : decode cX5_firstToStart 19 = .ok (.iload_n 3, 1) := by decide +kernel
theorem dX5_firstToStart_20 : decode cX5_firstToStart 20 = .ok (.aaload, 1) := by decide +kernel
theorem dX5_firstToStart_21 : decode cX5_firstToStart 21 = .ok (.astore 4, 2) := by decide +kernel
theorem dX5_firstToStart_23 : decode cX5_firstToStart 23 = .ok (.aload 4, 2) := by decide +kernel
theorem dX5_firstToStart_25 : decode cX5_firstToStart 25 = .ok (.invokevirtual 143, 3) := by decide +kernel
theorem dX5_firstToStart_28 : decode cX5_firstToStart 28 = .ok (.ifCond .eq 35, 3) := by decide +kernel
theorem dX5_firstToStart_31 : decode cX5_firstToStart 31 = .ok (.iload_n 1, 1) := by decide +kernel
theorem dX5_firstToStart_32 : decode cX5_firstToStart 32 = .ok (.bipush (-9), 2) := by decide +kernel
theorem dX5_firstToStart_34 : decode cX5_firstToStart 34 = .ok (.if_icmp .eq 12, 3) := by decide +kernel
theorem dX5_firstToStart_37 : decode cX5_firstToStart 37 = .ok (.aload 4, 2) := by decide +kernel
theorem dX5_firstToStart_39 : decode cX5_firstToStart 39 = .ok (.getfield 147, 3) := by decide +kernel
theorem dX5_firstToStart_42 : decode cX5_firstToStart 42 = .ok (.iload_n 2, 1) := by decide +kernel
theorem dX5_firstToStart_43 : decode cX5_firstToStart 43 = .ok (.if_icmp .ge 20, 3) := by decide +kernel
theorem dX5_firstToStart_46 : decode cX5_firstToStart 46 = .ok (.aload_n 0, 1) := by decide +kernel
theorem dX5_firstToStart_47 : decode cX5_firstToStart 47 = .ok (.aload 4, 2) := by decide +kernel
theorem dX5_firstToStart_49 : decode cX5_firstToStart 49 = .ok (.invokevirtual 150, 3) := by decide +kernel
theorem dX5_firstToStart_52 : decode cX5_firstToStart 52 = .ok (.ifCond .eq 11, 3) := by decide +kernel
theorem dX5_firstToStart_55 : decode cX5_firstToStart 55 = .ok (.iload_n 3, 1) := by decide +kernel
theorem dX5_firstToStart_56 : decode cX5_firstToStart 56 = .ok (.istore_n 1, 1) := by decide +kernel
theorem dX5_firstToStart_57 : decode cX5_firstToStart 57 = .ok (.aload 4, 2) := by decide +kernel
theorem dX5_firstToStart_59 : decode cX5_firstToStart 59 = .ok (.getfield 147, 3) := by decide +kernel
theorem dX5_firstToStart_62 : decode cX5_firstToStart 62 = .ok (.istore_n 2, 1) := by decide +kernel
theorem dX5_firstToStart_63 : decode cX5_firstToStart 63 = .ok (.iinc 3 1, 3) := by decide +kernel
theorem dX5_firstToStart_66 : decode cX5_firstToStart 66 = .ok (.goto (-59), 3) := by decide +kernel
theorem dX5_firstToStart_69 : decode cX5_firstToStart 69 = .ok (.iload_n 1, 1) := by decide +kernel
theorem dX5_firstToStart_70 : decode cX5_firstToStart 70 = .ok (.ireturn, 1) := by decide +kernel
theorem dX5_firstToRest_0 : decode cX5_firstToRest 0 = .ok (.bipush (-9), 2) := by decide +kernel
theorem dX5_firstToRest_2 : decode cX5_firstToRest 2 = .ok (.istore_n 1, 1) := by decide +kernel
theorem dX5_firstToRest_3 : decode cX5_firstToRest 3 = .ok (.iconst 0, 1) := by decide +kernel
theorem dX5_firstToRest_4 : decode cX5_firstToRest 4 = .ok (.istore_n 2, 1) := by decide +kernel
theorem dX5_firstToRest_5 : decode cX5_firstToRest 5 = .ok (.iconst 0, 1) := by decide +kernel
theorem dX5_firstToRest_6 : decode cX5_firstToRest 6 = .ok (.istore_n 3, 1) := by decide +kernel
theorem dX5_firstToRest_7 : decode cX5_firstToRest 7 = .ok (.iload_n 3, 1) := by decide +kernel
theorem dX5_firstToRest_8 : decode cX5_firstToRest 8 = .ok (.aload_n 0, 1) := by decide +kernel
theorem dX5_firstToRest_9 : decode cX5_firstToRest 9 = .ok (.getfield 57, 3) := by decide +kernel
theorem dX5_firstToRest_12 : decode cX5_firstToRest 12 = .ok (.if_icmp .ge 47, 3) := by decide +kernel
theorem dX5_firstToRest_15 : decode cX5_firstToRest 15 = .ok (.aload_n 0, 1) := by decide +kernel
theorem dX5_firstToRest_16 : decode cX5_firstToRest 16 = .ok (.getfield 11, 3) := by decide +kernel
theorem dX5_firstToRest_19 : decode cX5_firstToRest 19 = .ok (.iload_n 3, 1) := by decide +kernel
theorem dX5_firstToRest_20 : decode cX5_firstToRest 20 = .ok (.aaload, 1) := by decide +kernel
theorem dX5_firstToRest_21 : decode cX5_firstToRest 21 = .ok (.getfield 116, 3) := by decide +kernel
theorem dX5_firstToRest_24 : decode cX5_firstToRest 24 = .ok (.iconst 2, 1) := by decide +kernel
theorem dX5_firstToRest_25 : decode cX5_firstToRest 25 = .ok (.if_icmp .ne 28, 3) := by decide +kernel
theorem dX5_firstToRest_28 : decode cX5_firstToRest 28 = .ok (.aload_n 0, 1) := by decide +kernel
theorem dX5_firstToRest_29 : decode cX5_firstToRest 29 = .ok (.getfield 11, 3) := by decide +kernel
theorem dX5_firstToRest_32 : decode cX5_firstToRest 32 = .ok (.iload_n 3, 1) := by decide +kernel
theorem dX5_firstToRest_33 : decode cX5_firstToRest 33 = .ok (.aaload, 1) := by decide +kernel
theorem dX5_firstToRest_34 : decode cX5_firstToRest 34 = .ok (.getfield 147, 3) := by decide +kernel
theorem dX5_firstToRest_37 : decode cX5_firstToRest 37 = .ok (.iload_n 2, 1) := by decide +kernel
theorem dX5_firstToRest_38 : decode cX5_firstToRest 38 = .ok (.if_icmp .lt 15, 3) := by decide +kernel
theorem dX5_firstToRest_41 : decode cX5_firstToRest 41 = .ok (.iload_n 3, 1) := by decide +kernel
theorem dX5_firstToRest_42 : decode cX5_firstToRest 42 = .ok (.istore_n 1, 1) := by decide +kernel
theorem dX5_firstToRest_43 : decode cX5_firstToRest 43 = .ok (.aload_n 0, 1) := by decide +kernel
theorem dX5_firstToRest_44 : decode cX5_firstToRest 44 = .ok (.getfield 11, 3) := by decide +kernel
theorem dX5_firstToRest_47 : decode cX5_firstToRest 47 = .ok (.iload_n 3, 1) := by decide +kernel
theorem dX5_firstToRest_48 : decode cX5_firstToRest 48 = .ok (.aaload, 1) := by decide +kernel
theorem dX5_firstToRest_49 : decode cX5_firstToRest 49 = .ok (.getfield 147, 3) := by decide +kernel
theorem dX5_firstToRest_52 : decode cX5_firstToRest 52 = .ok (.istore_n 2, 1) := by decide +kernel
theorem dX5_firstToRest_53 : decode cX5_firstToRest 53 = .ok (.iinc 3 1, 3) := by decide +kernel
theorem dX5_firstToRest_56 : decode cX5_firstToRest 56 = .ok (.goto (-49), 3) := by decide +kernel
theorem dX5_firstToRest_59 : decode cX5_firstToRest 59 = .ok (.iload_n 1, 1) := by decide +kernel
theorem dX5_firstToRest_60 : decode cX5_firstToRest 60 = .ok (.ireturn, 1) := by decide +kernel
theorem dX5_moveFlue_0 : decode cX5_moveFlue 0 = .ok (.aload_n 0, 1) := by decide +kernel
theorem dX5_moveFlue_1 : decode cX5_moveFlue 1 = .ok (.iload_n 1, 1) := by decide +kernel
theorem dX5_moveFlue_2 : decode cX5_moveFlue 2 = .ok (.invokevirtual 128, 3) := by decide +kernel
theorem dX5_moveFlue_5 : decode cX5_moveFlue 5 = .ok (.iload_n 2, 1) := by decide +kernel
theorem dX5_moveFlue_6 : decode cX5_moveFlue 6 = .ok (.putfield 132, 3) := by decide +kernel
theorem dX5_moveFlue_9 : decode cX5_moveFlue 9 = .ok (.iconst 0, 1) := by decide +kernel
theorem dX5_moveFlue_10 : decode cX5_moveFlue 10 = .ok (.istore_n 3, 1) := by decide +kernel
theorem dX5_moveFlue_11 : decode cX5_moveFlue 11 = .ok (.iconst 0, 1) := by decide +kernel
theorem dX5_moveFlue_12 : decode cX5_moveFlue 12 = .ok (.istore 4, 2) := by decide +kernel
theorem dX5_moveFlue_14 : decode cX5_moveFlue 14 = .ok (.iload 4, 2) := by decide +kernel
theorem dX5_moveFlue_16 : decode cX5_moveFlue 16 = .ok (.aload_n 0, 1) := by decide +kernel
theorem dX5_moveFlue_17 : decode cX5_moveFlue 17 = .ok (.getfield 57, 3) := by decide +kernel
theorem dX5_moveFlue_20 : decode cX5_moveFlue 20 = .ok (.if_icmp .ge 57, 3) := by decide +kernel
theorem dX5_moveFlue_23 : decode cX5_moveFlue 23 = .ok (.iload_n 2, 1) := by decide +kernel
theorem dX5_moveFlue_24 : decode cX5_moveFlue 24 = .ok (.ifCond .ne 53, 3) := by decide +kernel
theorem dX5_moveFlue_27 : decode cX5_moveFlue 27 = .ok (.aload_n 0, 1) := by decide +kernel
theorem dX5_moveFlue_28 : decode cX5_moveFlue 28 = .ok (.getfield 11, 3) := by decide +kernel
theorem dX5_moveFlue_31 : decode cX5_moveFlue 31 = .ok (.iload 4, 2) := by decide +kernel
theorem dX5_moveFlue_33 : decode cX5_moveFlue 33 = .ok (.aaload, 1) := by decide +kernel
theorem dX5_moveFlue_34 : decode cX5_moveFlue 34 = .ok (.astore 5, 2) := by decide +kernel
theorem dX5_moveFlue_36 : decode cX5_moveFlue 36 = .ok (.aload 5, 2) := by decide +kernel
theorem dX5_moveFlue_38 : decode cX5_moveFlue 38 = .ok (.getfield 113, 3) := by decide +kernel
theorem dX5_moveFlue_41 : decode cX5_moveFlue 41 = .ok (.iload_n 1, 1) := by decide +kernel
theorem dX5_moveFlue_42 : decode cX5_moveFlue 42 = .ok (.if_icmp .ne 29, 3) := by decide +kernel
theorem dX5_moveFlue_45 : decode cX5_moveFlue 45 = .ok (.aload 5, 2) := by decide +kernel
theorem dX5_moveFlue_47 : decode cX5_moveFlue 47 = .ok (.getfield 116, 3) := by decide +kernel
theorem dX5_moveFlue_50 : decode cX5_moveFlue 50 = .ok (.ifCond .eq 21, 3) := by decide +kernel
theorem dX5_moveFlue_53 : decode cX5_moveFlue 53 = .ok (.aload 5, 2) := by decide +kernel
theorem dX5_moveFlue_55 : decode cX5_moveFlue 55 = .ok (.getfield 116, 3) := by decide +kernel
theorem dX5_moveFlue_58 : decode cX5_moveFlue 58 = .ok (.iconst 4, 1) := by decide +kernel
theorem dX5_moveFlue_59 : decode cX5_moveFlue 59 = .ok (.if_icmp .eq 12, 3) := by decide +kernel
theorem dX5_moveFlue_62 : decode cX5_moveFlue 62 = .ok (.aload 5, 2) := by decide +kernel
theorem dX5_moveFlue_64 : decode cX5_moveFlue 64 = .ok (.iconst 0, 1) := by decide +kernel
theorem dX5_moveFlue_65 : decode cX5_moveFlue 65 = .ok (.invokevirtual 154, 3) := by decide +kernel
theorem dX5_moveFlue_68 : decode cX5_moveFlue 68 = .ok (.iinc 3 1, 3) := by decide +kernel
theorem dX5_moveFlue_71 : decode cX5_moveFlue 71 = .ok (.iinc 4 1, 3) := by decide +kernel
theorem dX5_moveFlue_74 : decode cX5_moveFlue 74 = .ok (.goto (-60), 3) := by decide +kernel
theorem dX5_moveFlue_77 : decode cX5_moveFlue 77 = .ok (.iload_n 3, 1) := by decide +kernel
theorem dX5_moveFlue_78 : decode cX5_moveFlue 78 = .ok (.ireturn, 1) := by decide +kernel
theorem dX5_passTicks_0 : decode cX5_passTicks 0 = .ok (.iconst 0, 1) := by decide +kernel
theorem dX5_passTicks_1 : decode cX5_passTicks 1 = .ok (.istore_n 3, 1) := by decide +kernel
theorem dX5_passTicks_2 : decode cX5_passTicks 2 = .ok (.iload_n 3, 1) := by decide +kernel
theorem dX5_passTicks_3 : decode cX5_passTicks 3 = .ok (.iload_n 1, 1) := by decide +kernel
theorem dX5_passTicks_4 : decode cX5_passTicks 4 = .ok (.if_icmp .ge 164, 3) := by decide +kernel
theorem dX5_passTicks_7 : decode cX5_passTicks 7 = .ok (.aload_n 0, 1) := by decide +kernel
theorem dX5_passTicks_8 : decode cX5_passTicks 8 = .ok (.getfield 34, 3) := by decide +kernel
theorem dX5_passTicks_11 : decode cX5_passTicks 11 = .ok (.iload_n 2, 1) := by decide +kernel
theorem dX5_passTicks_12 : decode cX5_passTicks 12 = .ok (.invokevirtual 157, 3) := by decide +kernel
theorem dX5_passTicks_15 : decode cX5_passTicks 15 = .ok (.pop, 1) := by decide +kernel
theorem dX5_passTicks_16 : decode cX5_passTicks 16 = .ok (.aload_n 0, 1) := by decide +kernel
theorem dX5_passTicks_17 : decode cX5_passTicks 17 = .ok (.getfield 94, 3) := by decide +kernel
theorem dX5_passTicks_20 : decode cX5_passTicks 20 = .ok (.bipush 24, 2) := by decide +kernel
theorem dX5_passTicks_22 : decode cX5_passTicks 22 = .ok (.irem, 1) := by decide +kernel
theorem dX5_passTicks_23 : decode cX5_passTicks 23 = .ok (.aload_n 0, 1) := by decide +kernel
theorem dX5_passTicks_24 : decode cX5_passTicks 24 = .ok (.getfield 27, 3) := by decide +kernel
theorem dX5_passTicks_27 : decode cX5_passTicks 27 = .ok (.iconst 5, 1) := by decide +kernel
theorem dX5_passTicks_28 : decode cX5_passTicks 28 = .ok (.iaload, 1) := by decide +kernel
theorem dX5_passTicks_29 : decode cX5_passTicks 29 = .ok (.if_icmp .ne 11, 3) := by decide +kernel
theorem dX5_passTicks_32 : decode cX5_passTicks 32 = .ok (.aload_n 0, 1) := by decide +kernel
theorem dX5_passTicks_33 : decode cX5_passTicks 33 = .ok (.getfield 41, 3) := by decide +kernel
theorem dX5_passTicks_36 : decode cX5_passTicks 36 = .ok (.iconst 1, 1) := by decide +kernel
theorem dX5_passTicks_37 : decode cX5_passTicks 37 = .ok (.putfield 160, 3) := by decide +kernel
theorem dX5_passTicks_40 : decode cX5_passTicks 40 = .ok (.aload_n 0, 1) := by decide +kernel
theorem dX5_passTicks_41 : decode cX5_passTicks 41 = .ok (.aload_n 0, 1) := by decide +kernel
theorem dX5_passTicks_42 : decode cX5_passTicks 42 = .ok (.getfield 41, 3) := by decide +kernel
theorem dX5_passTicks_45 : decode cX5_passTicks 45 = .ok (.getfield 160, 3) := by decide +kernel
theorem dX5_passTicks_48 : decode cX5_passTicks 48 = .ok (.ifCond .eq 12, 3) := by decide +kernel
theorem dX5_passTicks_51 : decode cX5_passTicks 51 = .ok (.aload_n 0, 1) := by decide +kernel
theorem dX5_passTicks_52 : decode cX5_passTicks 52 = .ok (.getfield 27, 3) := by decide +kernel
theorem dX5_passTicks_55 : decode cX5_passTicks 55 = .ok (.iconst 3, 1) := by decide +kernel
theorem dX5_passTicks_56 : decode cX5_passTicks 56 = .ok (.iaload, 1) := by decide +kernel
theorem dX5_passTicks_57 : decode cX5_passTicks 57 = .ok (.goto 9, 3) := by decide +kernel
theorem dX5_passTicks_60 : decode cX5_passTicks 60 = .ok (.aload_n 0, 1) := by decide +kernel
theorem dX5_passTicks_61 : decode cX5_passTicks 61 = .ok (.getfield 27, 3) := by decide +kernel
theorem dX5_passTicks_64 : decode cX5_passTicks 64 = .ok (.iconst 0, 1) := by decide +kernel
theorem dX5_passTicks_65 : decode cX5_passTicks 65 = .ok (.iaload, 1) := by decide +kernel
theorem dX5_passTicks_66 : decode cX5_passTicks 66 = .ok (.invokevirtual 163, 3) := by decide +kernel
theorem dX5_passTicks_69 : decode cX5_passTicks 69 = .ok (.iconst 0, 1) := by decide +kernel
theorem dX5_passTicks_70 : decode cX5_passTicks 70 = .ok (.istore 4, 2) := by decide +kernel
theorem dX5_passTicks_72 : decode cX5_passTicks 72 = .ok (.iload 4, 2) := by decide +kernel
theorem dX5_passTicks_74 : decode cX5_passTicks 74 = .ok (.aload_n 0, 1) := by decide +kernel
theorem dX5_passTicks_75 : decode cX5_passTicks 75 = .ok (.getfield 57, 3) := by decide +kernel
theorem dX5_passTicks_78 : decode cX5_passTicks 78 = .ok (.if_icmp .ge 26, 3) := by decide +kernel
theorem dX5_passTicks_81 : decode cX5_passTicks 81 = .ok (.aload_n 0, 1) := by decide +kernel
theorem dX5_passTicks_82 : decode cX5_passTicks 82 = .ok (.getfield 34, 3) := by decide +kernel
theorem dX5_passTicks_85 : decode cX5_passTicks 85 = .ok (.aload_n 0, 1) := by decide +kernel
theorem dX5_passTicks_86 : decode cX5_passTicks 86 = .ok (.getfield 11, 3) := by decide +kernel
theorem dX5_passTicks_89 : decode cX5_passTicks 89 = .ok (.iload 4, 2) := by decide +kernel
theorem dX5_passTicks_91 : decode cX5_passTicks 91 = .ok (.aaload, 1) := by decide +kernel
theorem dX5_passTicks_92 : decode cX5_passTicks 92 = .ok (.invokevirtual 166, 3) := by decide +kernel
theorem dX5_passTicks_95 : decode cX5_passTicks 95 = .ok (.invokevirtual 170, 3) := by decide +kernel
theorem dX5_passTicks_98 : decode cX5_passTicks 98 = .ok (.iinc 4 1, 3) := by decide +kernel
theorem dX5_passTicks_101 : decode cX5_passTicks 101 = .ok (.goto (-29), 3) := by decide +kernel
theorem dX5_passTicks_104 : decode cX5_passTicks 104 = .ok (.aload_n 0, 1) := by decide +kernel
theorem dX5_passTicks_105 : decode cX5_passTicks 105 = .ok (.getfield 34, 3) := by decide +kernel
theorem dX5_passTicks_108 : decode cX5_passTicks 108 = .ok (.invokevirtual 173, 3) := by decide +kernel
theorem dX5_passTicks_111 : decode cX5_passTicks 111 = .ok (.aload_n 0, 1) := by decide +kernel
theorem dX5_passTicks_112 : decode cX5_passTicks 112 = .ok (.getfield 34, 3) := by decide +kernel
theorem dX5_passTicks_115 : decode cX5_passTicks 115 = .ok (.invokevirtual 176, 3) := by decide +kernel
theorem dX5_passTicks_118 : decode cX5_passTicks 118 = .ok (.aload_n 0, 1) := by decide +kernel
theorem dX5_passTicks_119 : decode cX5_passTicks 119 = .ok (.getfield 41, 3) := by decide +kernel
theorem dX5_passTicks_122 : decode cX5_passTicks 122 = .ok (.aload_n 0, 1) := by decide +kernel
theorem dX5_passTicks_123 : decode cX5_passTicks 123 = .ok (.getfield 34, 3) := by decide +kernel
theorem dX5_passTicks_126 : decode cX5_passTicks 126 = .ok (.invokevirtual 179, 3) := by decide +kernel
theorem dX5_passTicks_129 : decode cX5_passTicks 129 = .ok (.aload_n 0, 1) := by decide +kernel
theorem dX5_passTicks_130 : decode cX5_passTicks 130 = .ok (.getfield 27, 3) := by decide +kernel
theorem dX5_passTicks_133 : decode cX5_passTicks 133 = .ok (.iconst 3, 1) := by decide +kernel
theorem dX5_passTicks_134 : decode cX5_passTicks 134 = .ok (.iaload, 1) := by decide +kernel
theorem dX5_passTicks_135 : decode cX5_passTicks 135 = .ok (.if_icmp .lt 7, 3) := by decide +kernel
theorem dX5_passTicks_138 : decode cX5_passTicks 138 = .ok (.iconst 1, 1) := by decide +kernel
theorem dX5_passTicks_139 : decode cX5_passTicks 139 = .ok (.goto 4, 3) := by decide +kernel
theorem dX5_passTicks_142 : decode cX5_passTicks 142 = .ok (.iconst 0, 1) := by decide +kernel
theorem dX5_passTicks_143 : decode cX5_passTicks 143 = .ok (.aload_n 0, 1) := by decide +kernel
theorem dX5_passTicks_144 : decode cX5_passTicks 144 = .ok (.getfield 27, 3) := by decide +kernel
theorem dX5_passTicks_147 : decode cX5_passTicks 147 = .ok (.iconst 4, 1) := by decide +kernel
theorem dX5_passTicks_148 : decode cX5_passTicks 148 = .ok (.iaload, 1) := by decide +kernel
theorem dX5_passTicks_149 : decode cX5_passTicks 149 = .ok (.invokevirtual 182, 3) := by decide +kernel
theorem dX5_passTicks_152 : decode cX5_passTicks 152 = .ok (.aload_n 0, 1) := by decide +kernel
theorem dX5_passTicks_153 : decode cX5_passTicks 153 = .ok (.dup, 1) := by decide +kernel
theorem dX5_passTicks_154 : decode cX5_passTicks 154 = .ok (.getfield 94, 3) := by decide +kernel
theorem dX5_passTicks_157 : decode cX5_passTicks 157 = .ok (.iconst 1, 1) := by decide +kernel
theorem dX5_passTicks_158 : decode cX5_passTicks 158 = .ok (.iadd, 1) := by decide +kernel
theorem dX5_passTicks_159 : decode cX5_passTicks 159 = .ok (.putfield 94, 3) := by decide +kernel
theorem dX5_passTicks_162 : decode cX5_passTicks 162 = .ok (.iinc 3 1, 3) := by decide +kernel
theorem dX5_passTicks_165 : decode cX5_passTicks 165 = .ok (.goto (-163), 3) := by decide +kernel
theorem dX5_passTicks_168 : decode cX5_passTicks 168 = .ok (.return_, 1) := by decide +kernel
theorem dX5_control_0 : decode cX5_control 0 = .ok (.aload_n 0, 1) := by decide +kernel
theorem dX5_control_1 : decode cX5_control 1 = .ok (.getfield 34, 3) := by decide +kernel
theorem dX5_control_4 : decode cX5_control 4 = .ok (.invokevirtual 186, 3) := by decide +kernel
theorem dX5_control_7 : decode cX5_control 7 = .ok (.istore_n 2, 1) := by decide +kernel
theorem dX5_control_8 : decode cX5_control 8 = .ok (.aload_n 0, 1) := by decide +kernel
theorem dX5_control_9 : decode cX5_control 9 = .ok (.iconst 0, 1) := by decide +kernel
theorem dX5_control_10 : decode cX5_control 10 = .ok (.putfield 97, 3) := by decide +kernel
theorem dX5_control_13 : decode cX5_control 13 = .ok (.iload_n 2, 1) := by decide +kernel
theorem dX5_control_14 : decode cX5_control 14 = .ok (.iload_n 1, 1) := by decide +kernel
theorem dX5_control_15 : decode cX5_control 15 = .ok (.aload_n 0, 1) := by decide +kernel
theorem dX5_control_16 : decode cX5_control 16 = .ok (.getfield 27, 3) := by decide +kernel
theorem dX5_control_19 : decode cX5_control 19 = .ok (.iconst 1, 1) := by decide +kernel
theorem dX5_control_20 : decode cX5_control 20 = .ok (.iaload, 1) := by decide +kernel
theorem dX5_control_21 : decode cX5_control 21 = .ok (.isub, 1) := by decide +kernel
theorem dX5_control_22 : decode cX5_control 22 = .ok (.if_icmp .ge 45, 3) := by decide +kernel
theorem dX5_control_25 : decode cX5_control 25 = .ok (.aload_n 0, 1) := by decide +kernel
theorem dX5_control_26 : decode cX5_control 26 = .ok (.invokevirtual 189, 3) := by decide +kernel
theorem dX5_control_29 : decode cX5_control 29 = .ok (.istore_n 3, 1) := by decide +kernel
theorem dX5_control_30 : decode cX5_control 30 = .ok (.aload_n 0, 1) := by decide +kernel
theorem dX5_control_31 : decode cX5_control 31 = .ok (.iload_n 3, 1) := by decide +kernel
theorem dX5_control_32 : decode cX5_control 32 = .ok (.invokevirtual 192, 3) := by decide +kernel
theorem dX5_control_35 : decode cX5_control 35 = .ok (.ifCond .eq 21, 3) := by decide +kernel
theorem dX5_control_38 : decode cX5_control 38 = .ok (.aload_n 0, 1) := by decide +kernel
theorem dX5_control_39 : decode cX5_control 39 = .ok (.getfield 11, 3) := by decide +kernel
theorem dX5_control_42 : decode cX5_control 42 = .ok (.iload_n 3, 1) := by decide +kernel
theorem dX5_control_43 : decode cX5_control 43 = .ok (.aaload, 1) := by decide +kernel
theorem dX5_control_44 : decode cX5_control 44 = .ok (.aload_n 0, 1) := by decide +kernel
theorem dX5_control_45 : decode cX5_control 45 = .ok (.getfield 27, 3) := by decide +kernel
theorem dX5_control_48 : decode cX5_control 48 = .ok (.iconst 2, 1) := by decide +kernel
theorem dX5_control_49 : decode cX5_control 49 = .ok (.iaload, 1) := by decide +kernel
theorem dX5_control_50 : decode cX5_control 50 = .ok (.invokevirtual 196, 3) := by decide +kernel
theorem dX5_control_53 : decode cX5_control 53 = .ok (.goto 11, 3) := by decide +kernel
theorem dX5_control_56 : decode cX5_control 56 = .ok (.aload_n 0, 1) := by decide +kernel
theorem dX5_control_57 : decode cX5_control 57 = .ok (.aload_n 0, 1) := by decide +kernel
theorem dX5_control_58 : decode cX5_control 58 = .ok (.invokevirtual 199, 3) := by decide +kernel
theorem dX5_control_61 : decode cX5_control 61 = .ok (.putfield 97, 3) := by decide +kernel
theorem dX5_control_64 : decode cX5_control 64 = .ok (.goto 38, 3) := by decide +kernel
theorem dX5_control_67 : decode cX5_control 67 = .ok (.iload_n 2, 1) := by decide +kernel
theorem dX5_control_68 : decode cX5_control 68 = .ok (.iload_n 1, 1) := by decide +kernel
theorem dX5_control_69 : decode cX5_control 69 = .ok (.aload_n 0, 1) := by decide +kernel
theorem dX5_control_70 : decode cX5_control 70 = .ok (.getfield 27, 3) := by decide +kernel
theorem dX5_control_73 : decode cX5_control 73 = .ok (.iconst 1, 1) := by decide +kernel
theorem dX5_control_74 : decode cX5_control 74 = .ok (.iaload, 1) := by decide +kernel
theorem dX5_control_75 : decode cX5_control 75 = .ok (.iadd, 1) := by decide +kernel
theorem dX5_control_76 : decode cX5_control 76 = .ok (.if_icmp .le 26, 3) := by decide +kernel
theorem dX5_control_79 : decode cX5_control 79 = .ok (.aload_n 0, 1) := by decide +kernel
theorem dX5_control_80 : decode cX5_control 80 = .ok (.invokevirtual 202, 3) := by decide +kernel
theorem dX5_control_83 : decode cX5_control 83 = .ok (.istore_n 3, 1) := by decide +kernel
theorem dX5_control_84 : decode cX5_control 84 = .ok (.aload_n 0, 1) := by decide +kernel
theorem dX5_control_85 : decode cX5_control 85 = .ok (.iload_n 3, 1) := by decide +kernel
theorem dX5_control_86 : decode cX5_control 86 = .ok (.invokevirtual 192, 3) := by decide +kernel
theorem dX5_control_89 : decode cX5_control 89 = .ok (.ifCond .eq 13, 3) := by decide +kernel
theorem dX5_control_92 : decode cX5_control 92 = .ok (.aload_n 0, 1) := by decide +kernel
theorem dX5_control_93 : decode cX5_control 93 = .ok (.getfield 11, 3) := by decide +kernel
theorem dX5_control_96 : decode cX5_control 96 = .ok (.iload_n 3, 1) := by decide +kernel
theorem dX5_control_97 : decode cX5_control 97 = .ok (.aaload, 1) := by decide +kernel
theorem dX5_control_98 : decode cX5_control 98 = .ok (.iconst 3, 1) := by decide +kernel
theorem dX5_control_99 : decode cX5_control 99 = .ok (.invokevirtual 154, 3) := by decide +kernel
theorem dX5_control_102 : decode cX5_control 102 = .ok (.return_, 1) := by decide +kernel
theorem dX5_whyNoneStarts_0 : decode cX5_whyNoneStarts 0 = .ok (.iconst 3, 1) := by decide +kernel
theorem dX5_whyNoneStarts_1 : decode cX5_whyNoneStarts 1 = .ok (.istore_n 1, 1) := by decide +kernel
theorem dX5_whyNoneStarts_2 : decode cX5_whyNoneStarts 2 = .ok (.iconst 0, 1) := by decide +kernel
theorem dX5_whyNoneStarts_3 : decode cX5_whyNoneStarts 3 = .ok (.istore_n 2, 1) := by decide +kernel
theorem dX5_whyNoneStarts_4 : decode cX5_whyNoneStarts 4 = .ok (.iload_n 2, 1) := by decide +kernel
theorem dX5_whyNoneStarts_5 : decode cX5_whyNoneStarts 5 = .ok (.aload_n 0, 1) := by decide +kernel
theorem dX5_whyNoneStarts_6 : decode cX5_whyNoneStarts 6 = .ok (.getfield 57, 3) := by decide +kernel
theorem dX5_whyNoneStarts_9 : decode cX5_whyNoneStarts 9 = .ok (.if_icmp .ge 50, 3) := by decide +kernel
theorem dX5_whyNoneStarts_12 : decode cX5_whyNoneStarts 12 = .ok (.aload_n 0, 1) := by decide +kernel
theorem dX5_whyNoneStarts_13 : decode cX5_whyNoneStarts 13 = .ok (.getfield 11, 3) := by decide +kernel
theorem dX5_whyNoneStarts_16 : decode cX5_whyNoneStarts 16 = .ok (.iload_n 2, 1) := by decide +kernel
theorem dX5_whyNoneStarts_17 : decode cX5_whyNoneStarts 17 = .ok (.aaload, 1) := by decide +kernel
theorem dX5_whyNoneStarts_18 : decode cX5_whyNoneStarts 18 = .ok (.invokevirtual 143, 3) := by decide +kernel
theorem dX5_whyNoneStarts_21 : decode cX5_whyNoneStarts 21 = .ok (.ifCond .eq 32, 3) := by decide +kernel
theorem dX5_whyNoneStarts_24 : decode cX5_whyNoneStarts 24 = .ok (.iload_n 1, 1) := by decide +kernel
theorem dX5_whyNoneStarts_25 : decode cX5_whyNoneStarts 25 = .ok (.aload_n 0, 1) := by decide +kernel
theorem dX5_whyNoneStarts_26 : decode cX5_whyNoneStarts 26 = .ok (.aload_n 0, 1) := by decide +kernel
theorem dX5_whyNoneStarts_27 : decode cX5_whyNoneStarts 27 = .ok (.getfield 11, 3) := by decide +kernel
theorem dX5_whyNoneStarts_30 : decode cX5_whyNoneStarts 30 = .ok (.iload_n 2, 1) := by decide +kernel
theorem dX5_whyNoneStarts_31 : decode cX5_whyNoneStarts 31 = .ok (.aaload, 1) := by decide +kernel
theorem dX5_whyNoneStarts_32 : decode cX5_whyNoneStarts 32 = .ok (.getfield 113, 3) := by decide +kernel
theorem dX5_whyNoneStarts_35 : decode cX5_whyNoneStarts 35 = .ok (.invokevirtual 128, 3) := by decide +kernel
theorem dX5_whyNoneStarts_38 : decode cX5_whyNoneStarts 38 = .ok (.getfield 132, 3) := by decide +kernel
theorem dX5_whyNoneStarts_41 : decode cX5_whyNoneStarts 41 = .ok (.ifCond .eq 7, 3) := by decide +kernel
theorem dX5_whyNoneStarts_44 : decode cX5_whyNoneStarts 44 = .ok (.iconst 1, 1) := by decide +kernel
theorem dX5_whyNoneStarts_45 : decode cX5_whyNoneStarts 45 = .ok (.goto 4, 3) := by decide +kernel
theorem dX5_whyNoneStarts_48 : decode cX5_whyNoneStarts 48 = .ok (.iconst 2, 1) := by decide +kernel
theorem dX5_whyNoneStarts_49 : decode cX5_whyNoneStarts 49 = .ok (.invokestatic 51, 3) := by decide +kernel
theorem dX5_whyNoneStarts_52 : decode cX5_whyNoneStarts 52 = .ok (.istore_n 1, 1) := by decide +kernel
theorem dX5_whyNoneStarts_53 : decode cX5_whyNoneStarts 53 = .ok (.iinc 2 1, 3) := by decide +kernel
theorem dX5_whyNoneStarts_56 : decode cX5_whyNoneStarts 56 = .ok (.goto (-52), 3) := by decide +kernel
theorem dX5_whyNoneStarts_59 : decode cX5_whyNoneStarts 59 = .ok (.iload_n 1, 1) := by decide +kernel
theorem dX5_whyNoneStarts_60 : decode cX5_whyNoneStarts 60 = .ok (.ireturn, 1) := by decide +kernel
theorem dX5_powerOf_0 : decode cX5_powerOf 0 = .ok (.aload_n 0, 1) := by decide +kernel
theorem dX5_powerOf_1 : decode cX5_powerOf 1 = .ok (.iconst 0, 1) := by decide +kernel
theorem dX5_powerOf_2 : decode cX5_powerOf 2 = .ok (.iload_n 1, 1) := by decide +kernel
theorem dX5_powerOf_3 : decode cX5_powerOf 3 = .ok (.invokevirtual 205, 3) := by decide +kernel
theorem dX5_powerOf_6 : decode cX5_powerOf 6 = .ok (.aload_n 0, 1) := by decide +kernel
theorem dX5_powerOf_7 : decode cX5_powerOf 7 = .ok (.iconst 1, 1) := by decide +kernel
theorem dX5_powerOf_8 : decode cX5_powerOf 8 = .ok (.iload_n 1, 1) := by decide +kernel
theorem dX5_powerOf_9 : decode cX5_powerOf 9 = .ok (.invokevirtual 205, 3) := by decide +kernel
theorem dX5_powerOf_12 : decode cX5_powerOf 12 = .ok (.iadd, 1) := by decide +kernel
theorem dX5_powerOf_13 : decode cX5_powerOf 13 = .ok (.ireturn, 1) := by decide +kernel
theorem dX5_fitsDrafts_0 : decode cX5_fitsDrafts 0 = .ok (.aload_n 0, 1) := by decide +kernel
theorem dX5_fitsDrafts_1 : decode cX5_fitsDrafts 1 = .ok (.iconst 0, 1) := by decide +kernel
theorem dX5_fitsDrafts_2 : decode cX5_fitsDrafts 2 = .ok (.iload_n 1, 1) := by decide +kernel
theorem dX5_fitsDrafts_3 : decode cX5_fitsDrafts 3 = .ok (.invokevirtual 205, 3) := by decide +kernel
theorem dX5_fitsDrafts_6 : decode cX5_fitsDrafts 6 = .ok (.aload_n 0, 1) := by decide +kernel
theorem dX5_fitsDrafts_7 : decode cX5_fitsDrafts 7 = .ok (.getfield 20, 3) := by decide +kernel
theorem dX5_fitsDrafts_10 : decode cX5_fitsDrafts 10 = .ok (.getfield 140, 3) := by decide +kernel
theorem dX5_fitsDrafts_13 : decode cX5_fitsDrafts 13 = .ok (.if_icmp .gt 23, 3) := by decide +kernel
theorem dX5_fitsDrafts_16 : decode cX5_fitsDrafts 16 = .ok (.aload_n 0, 1) := by decide +kernel
theorem dX5_fitsDrafts_17 : decode cX5_fitsDrafts 17 = .ok (.iconst 1, 1) := by decide +kernel
theorem dX5_fitsDrafts_18 : decode cX5_fitsDrafts 18 = .ok (.iload_n 1, 1) := by decide +kernel
theorem dX5_fitsDrafts_19 : decode cX5_fitsDrafts 19 = .ok (.invokevirtual 205, 3) := by decide +kernel
theorem dX5_fitsDrafts_22 : decode cX5_fitsDrafts 22 = .ok (.aload_n 0, 1) := by decide +kernel
theorem dX5_fitsDrafts_23 : decode cX5_fitsDrafts 23 = .ok (.getfield 24, 3) := by decide +kernel
theorem dX5_fitsDrafts_26 : decode cX5_fitsDrafts 26 = .ok (.getfield 140, 3) := by decide +kernel
theorem dX5_fitsDrafts_29 : decode cX5_fitsDrafts 29 = .ok (.if_icmp .gt 7, 3) := by decide +kernel
theorem dX5_fitsDrafts_32 : decode cX5_fitsDrafts 32 = .ok (.iconst 1, 1) := by decide +kernel
theorem dX5_fitsDrafts_33 : decode cX5_fitsDrafts 33 = .ok (.goto 4, 3) := by decide +kernel
theorem dX5_fitsDrafts_36 : decode cX5_fitsDrafts 36 = .ok (.iconst 0, 1) := by decide +kernel
theorem dX5_fitsDrafts_37 : decode cX5_fitsDrafts 37 = .ok (.ireturn, 1) := by decide +kernel
theorem dX5_isSmallerSet_0 : decode cX5_isSmallerSet 0 = .ok (.iload_n 1, 1) := by decide +kernel
theorem dX5_isSmallerSet_1 : decode cX5_isSmallerSet 1 = .ok (.invokestatic 208, 3) := by decide +kernel
theorem dX5_isSmallerSet_4 : decode cX5_isSmallerSet 4 = .ok (.istore_n 3, 1) := by decide +kernel
theorem dX5_isSmallerSet_5 : decode cX5_isSmallerSet 5 = .ok (.iload_n 2, 1) := by decide +kernel
theorem dX5_isSmallerSet_6 : decode cX5_isSmallerSet 6 = .ok (.invokestatic 208, 3) := by decide +kernel
theorem dX5_isSmallerSet_9 : decode cX5_isSmallerSet 9 = .ok (.istore 4, 2) := by decide +kernel
theorem dX5_isSmallerSet_11 : decode cX5_isSmallerSet 11 = .ok (.iload_n 3, 1) := by decide +kernel
theorem dX5_isSmallerSet_12 : decode cX5_isSmallerSet 12 = .ok (.iload 4, 2) := by decide +kernel
theorem dX5_isSmallerSet_14 : decode cX5_isSmallerSet 14 = .ok (.if_icmp .lt 22, 3) := by decide +kernel
theorem dX5_isSmallerSet_17 : decode cX5_isSmallerSet 17 = .ok (.iload_n 3, 1) := by decide +kernel
theorem dX5_isSmallerSet_18 : decode cX5_isSmallerSet 18 = .ok (.iload 4, 2) := by decide +kernel
theorem dX5_isSmallerSet_20 : decode cX5_isSmallerSet 20 = .ok (.if_icmp .ne 20, 3) := by decide +kernel
theorem dX5_isSmallerSet_23 : decode cX5_isSmallerSet 23 = .ok (.aload_n 0, 1) := by decide +kernel
theorem dX5_isSmallerSet_24 : decode cX5_isSmallerSet 24 = .ok (.iload_n 1, 1) := by decide +kernel
theorem dX5_isSmallerSet_25 : decode cX5_isSmallerSet 25 = .ok (.invokevirtual 213, 3) := by decide +kernel
theorem dX5_isSmallerSet_28 : decode cX5_isSmallerSet 28 = .ok (.aload_n 0, 1) := by decide +kernel
theorem dX5_isSmallerSet_29 : decode cX5_isSmallerSet 29 = .ok (.iload_n 2, 1) := by decide +kernel
theorem dX5_isSmallerSet_30 : decode cX5_isSmallerSet 30 = .ok (.invokevirtual 213, 3) := by decide +kernel
theorem dX5_isSmallerSet_33 : decode cX5_isSmallerSet 33 = .ok (.if_icmp .ge 7, 3) := by decide +kernel
theorem dX5_isSmallerSet_36 : decode cX5_isSmallerSet 36 = .ok (.iconst 1, 1) := by decide +kernel
theorem dX5_isSmallerSet_37 : decode cX5_isSmallerSet 37 = .ok (.goto 4, 3) := by decide +kernel
theorem dX5_isSmallerSet_40 : decode cX5_isSmallerSet 40 = .ok (.iconst 0, 1) := by decide +kernel
theorem dX5_isSmallerSet_41 : decode cX5_isSmallerSet 41 = .ok (.ireturn, 1) := by decide +kernel
theorem dX5_powerAt_0 : decode cX5_powerAt 0 = .ok (.iconst 0, 1) := by decide +kernel
theorem dX5_powerAt_1 : decode cX5_powerAt 1 = .ok (.istore_n 3, 1) := by decide +kernel
theorem dX5_powerAt_2 : decode cX5_powerAt 2 = .ok (.iconst 0, 1) := by decide +kernel
theorem dX5_powerAt_3 : decode cX5_powerAt 3 = .ok (.istore 4, 2) := by decide +kernel
theorem dX5_powerAt_5 : decode cX5_powerAt 5 = .ok (.iload 4, 2) := by decide +kernel
theorem dX5_powerAt_7 : decode cX5_powerAt 7 = .ok (.aload_n 0, 1) := by decide +kernel
theorem dX5_powerAt_8 : decode cX5_powerAt 8 = .ok (.getfield 57, 3) := by decide +kernel
theorem dX5_powerAt_11 : decode cX5_powerAt 11 = .ok (.if_icmp .ge 46, 3) := by decide +kernel
theorem dX5_powerAt_14 : decode cX5_powerAt 14 = .ok (.iload_n 2, 1) := by decide +kernel
theorem dX5_powerAt_15 : decode cX5_powerAt 15 = .ok (.iload 4, 2) := by decide +kernel
theorem dX5_powerAt_17 : decode cX5_powerAt 17 = .ok (.ishr, 1) := by decide +kernel
theorem dX5_powerAt_18 : decode cX5_powerAt 18 = .ok (.iconst 1, 1) := by decide +kernel
theorem dX5_powerAt_19 : decode cX5_powerAt 19 = .ok (.iand, 1) := by decide +kernel
theorem dX5_powerAt_20 : decode cX5_powerAt 20 = .ok (.iconst 1, 1) := by decide +kernel
theorem dX5_powerAt_21 : decode cX5_powerAt 21 = .ok (.if_icmp .ne 30, 3) := by decide +kernel
theorem dX5_powerAt_24 : decode cX5_powerAt 24 = .ok (.aload_n 0, 1) := by decide +kernel
theorem dX5_powerAt_25 : decode cX5_powerAt 25 = .ok (.getfield 11, 3) := by decide +kernel
theorem dX5_powerAt_28 : decode cX5_powerAt 28 = .ok (.iload 4, 2) := by decide +kernel
theorem dX5_powerAt_30 : decode cX5_powerAt 30 = .ok (.aaload, 1) := by decide +kernel
theorem dX5_powerAt_31 : decode cX5_powerAt 31 = .ok (.getfield 113, 3) := by decide +kernel
theorem dX5_powerAt_34 : decode cX5_powerAt 34 = .ok (.iload_n 1, 1) := by decide +kernel
theorem dX5_powerAt_35 : decode cX5_powerAt 35 = .ok (.if_icmp .ne 16, 3) := by decide +kernel
theorem dX5_powerAt_38 : decode cX5_powerAt 38 = .ok (.iload_n 3, 1) := by decide +kernel
theorem dX5_powerAt_39 : decode cX5_powerAt 39 = .ok (.aload_n 0, 1) := by decide +kernel
theorem dX5_powerAt_40 : decode cX5_powerAt 40 = .ok (.getfield 11, 3) := by decide +kernel
theorem dX5_powerAt_43 : decode cX5_powerAt 43 = .ok (.iload 4, 2) := by decide +kernel
theorem dX5_powerAt_45 : decode cX5_powerAt 45 = .ok (.aaload, 1) := by decide +kernel
theorem dX5_powerAt_46 : decode cX5_powerAt 46 = .ok (.getfield 119, 3) := by decide +kernel
theorem dX5_powerAt_49 : decode cX5_powerAt 49 = .ok (.iadd, 1) := by decide +kernel
theorem dX5_powerAt_50 : decode cX5_powerAt 50 = .ok (.istore_n 3, 1) := by decide +kernel
theorem dX5_powerAt_51 : decode cX5_powerAt 51 = .ok (.iinc 4 1, 3) := by decide +kernel
theorem dX5_powerAt_54 : decode cX5_powerAt 54 = .ok (.goto (-49), 3) := by decide +kernel
theorem dX5_powerAt_57 : decode cX5_powerAt 57 = .ok (.iload_n 3, 1) := by decide +kernel
theorem dX5_powerAt_58 : decode cX5_powerAt 58 = .ok (.ireturn, 1) := by decide +kernel
theorem dX6_init_0 : decode cX6_init 0 = .ok (.aload_n 0, 1) := by decide +kernel
theorem dX6_init_1 : decode cX6_init 1 = .ok (.invokespecial 1, 3) := by decide +kernel
theorem dX6_init_4 : decode cX6_init 4 = .ok (.aload_n 0, 1) := by decide +kernel
theorem dX6_init_5 : decode cX6_init 5 = .ok (.new 7, 3) := by decide +kernel
theorem dX6_init_8 : decode cX6_init 8 = .ok (.dup, 1) := by decide +kernel
theorem dX6_init_9 : decode cX6_init 9 = .ok (.invokespecial 9, 3) := by decide +kernel
theorem dX6_init_12 : decode cX6_init 12 = .ok (.putfield 10, 3) := by decide +kernel
theorem dX6_init_15 : decode cX6_init 15 = .ok (.return_, 1) := by decide +kernel
theorem dX7_init_0 : decode cX7_init 0 = .ok (.aload_n 0, 1) := by decide +kernel
theorem dX7_init_1 : decode cX7_init 1 = .ok (.invokespecial 3, 3) := by decide +kernel
theorem dX7_init_4 : decode cX7_init 4 = .ok (.aload_n 0, 1) := by decide +kernel
theorem dX7_init_5 : decode cX7_init 5 = .ok (.bipush 8, 2) := by decide +kernel
theorem dX7_init_7 : decode cX7_init 7 = .ok (.newarray .int, 2) := by decide +kernel
theorem dX7_init_9 : decode cX7_init 9 = .ok (.putfield 9, 3) := by decide +kernel
theorem dX7_init_12 : decode cX7_init 12 = .ok (.return_, 1) := by decide +kernel
theorem dX7_beginAs_0 : decode cX7_beginAs 0 = .ok (.aload_n 0, 1) := by decide +kernel
theorem dX7_beginAs_1 : decode cX7_beginAs 1 = .ok (.iload_n 1, 1) := by decide +kernel
theorem dX7_beginAs_2 : decode cX7_beginAs 2 = .ok (.aload_n 0, 1) := by decide +kernel
theorem dX7_beginAs_3 : decode cX7_beginAs 3 = .ok (.getfield 9, 3) := by decide +kernel
theorem dX7_beginAs_6 : decode cX7_beginAs 6 = .ok (.arraylength, 1) := by decide +kernel
theorem dX7_beginAs_7 : decode cX7_beginAs 7 = .ok (.aload_n 2, 1) := by decide +kernel
theorem dX7_beginAs_8 : decode cX7_beginAs 8 = .ok (.arraylength, 1) := by decide +kernel
theorem dX7_beginAs_9 : decode cX7_beginAs 9 = .ok (.invokestatic 15, 3) := by decide +kernel
theorem dX7_beginAs_12 : decode cX7_beginAs 12 = .ok (.invokestatic 15, 3) := by decide +kernel
theorem dX7_beginAs_15 : decode cX7_beginAs 15 = .ok (.putfield 21, 3) := by decide +kernel
theorem dX7_beginAs_18 : decode cX7_beginAs 18 = .ok (.iconst 0, 1) := by decide +kernel
theorem dX7_beginAs_19 : decode cX7_beginAs 19 = .ok (.istore_n 3, 1) := by decide +kernel
theorem dX7_beginAs_20 : decode cX7_beginAs 20 = .ok (.iload_n 3, 1) := by decide +kernel
theorem dX7_beginAs_21 : decode cX7_beginAs 21 = .ok (.aload_n 0, 1) := by decide +kernel
theorem dX7_beginAs_22 : decode cX7_beginAs 22 = .ok (.getfield 21, 3) := by decide +kernel
theorem dX7_beginAs_25 : decode cX7_beginAs 25 = .ok (.if_icmp .ge 18, 3) := by decide +kernel
theorem dX7_beginAs_28 : decode cX7_beginAs 28 = .ok (.aload_n 0, 1) := by decide +kernel
theorem dX7_beginAs_29 : decode cX7_beginAs 29 = .ok (.getfield 9, 3) := by decide +kernel
theorem dX7_beginAs_32 : decode cX7_beginAs 32 = .ok (.iload_n 3, 1) := by decide +kernel
theorem dX7_beginAs_33 : decode cX7_beginAs 33 = .ok (.aload_n 2, 1) := by decide +kernel
theorem dX7_beginAs_34 : decode cX7_beginAs 34 = .ok (.iload_n 3, 1) := by decide +kernel
theorem dX7_beginAs_35 : decode cX7_beginAs 35 = .ok (.iaload, 1) := by decide +kernel
theorem dX7_beginAs_36 : decode cX7_beginAs 36 = .ok (.iastore, 1) := by decide +kernel
theorem dX7_beginAs_37 : decode cX7_beginAs 37 = .ok (.iinc 3 1, 3) := by decide +kernel
theorem dX7_beginAs_40 : decode cX7_beginAs 40 = .ok (.goto (-20), 3) := by decide +kernel
theorem dX7_beginAs_43 : decode cX7_beginAs 43 = .ok (.aload_n 0, 1) := by decide +kernel
theorem dX7_beginAs_44 : decode cX7_beginAs 44 = .ok (.iconst 0, 1) := by decide +kernel
theorem dX7_beginAs_45 : decode cX7_beginAs 45 = .ok (.putfield 25, 3) := by decide +kernel
theorem dX7_beginAs_48 : decode cX7_beginAs 48 = .ok (.aload_n 0, 1) := by decide +kernel
theorem dX7_beginAs_49 : decode cX7_beginAs 49 = .ok (.iconst 0, 1) := by decide +kernel
theorem dX7_beginAs_50 : decode cX7_beginAs 50 = .ok (.putfield 28, 3) := by decide +kernel
theorem dX7_beginAs_53 : decode cX7_beginAs 53 = .ok (.aload_n 0, 1) := by decide +kernel
theorem dX7_beginAs_54 : decode cX7_beginAs 54 = .ok (.iconst 0, 1) := by decide +kernel
theorem dX7_beginAs_55 : decode cX7_beginAs 55 = .ok (.putfield 31, 3) := by decide +kernel
theorem dX7_beginAs_58 : decode cX7_beginAs 58 = .ok (.aload_n 0, 1) := by decide +kernel
theorem dX7_beginAs_59 : decode cX7_beginAs 59 = .ok (.iconst 0, 1) := by decide +kernel
theorem dX7_beginAs_60 : decode cX7_beginAs 60 = .ok (.putfield 34, 3) := by decide +kernel
theorem dX7_beginAs_63 : decode cX7_beginAs 63 = .ok (.aload_n 0, 1) := by decide +kernel
theorem dX7_beginAs_64 : decode cX7_beginAs 64 = .ok (.iconst 0, 1) := by decide +kernel
theorem dX7_beginAs_65 : decode cX7_beginAs 65 = .ok (.putfield 37, 3) := by decide +kernel
theorem dX7_beginAs_68 : decode cX7_beginAs 68 = .ok (.return_, 1) := by decide +kernel
theorem dX7_copyFrom_0 : decode cX7_copyFrom 0 = .ok (.aload_n 0, 1) := by decide +kernel
theorem dX7_copyFrom_1 : decode cX7_copyFrom 1 = .ok (.aload_n 1, 1) := by decide +kernel
theorem dX7_copyFrom_2 : decode cX7_copyFrom 2 = .ok (.getfield 21, 3) := by decide +kernel
theorem dX7_copyFrom_5 : decode cX7_copyFrom 5 = .ok (.putfield 21, 3) := by decide +kernel
theorem dX7_copyFrom_8 : decode cX7_copyFrom 8 = .ok (.iconst 0, 1) := by decide +kernel
theorem dX7_copyFrom_9 : decode cX7_copyFrom 9 = .ok (.istore_n 2, 1) := by decide +kernel
theorem dX7_copyFrom_10 : decode cX7_copyFrom 10 = .ok (.iload_n 2, 1) := by decide +kernel
theorem dX7_copyFrom_11 : decode cX7_copyFrom 11 = .ok (.aload_n 0, 1) := by decide +kernel
theorem dX7_copyFrom_12 : decode cX7_copyFrom 12 = .ok (.getfield 21, 3) := by decide +kernel
theorem dX7_copyFrom_15 : decode cX7_copyFrom 15 = .ok (.if_icmp .ge 21, 3) := by decide +kernel
theorem dX7_copyFrom_18 : decode cX7_copyFrom 18 = .ok (.aload_n 0, 1) := by decide +kernel
theorem dX7_copyFrom_19 : decode cX7_copyFrom 19 = .ok (.getfield 9, 3) := by decide +kernel
theorem dX7_copyFrom_22 : decode cX7_copyFrom 22 = .ok (.iload_n 2, 1) := by decide +kernel
theorem dX7_copyFrom_23 : decode cX7_copyFrom 23 = .ok (.aload_n 1, 1) := by decide +kernel
theorem dX7_copyFrom_24 : decode cX7_copyFrom 24 = .ok (.getfield 9, 3) := by decide +kernel
theorem dX7_copyFrom_27 : decode cX7_copyFrom 27 = .ok (.iload_n 2, 1) := by decide +kernel
theorem dX7_copyFrom_28 : decode cX7_copyFrom 28 = .ok (.iaload, 1) := by decide +kernel
theorem dX7_copyFrom_29 : decode cX7_copyFrom 29 = .ok (.iastore, 1) := by decide +kernel
theorem dX7_copyFrom_30 : decode cX7_copyFrom 30 = .ok (.iinc 2 1, 3) := by decide +kernel
theorem dX7_copyFrom_33 : decode cX7_copyFrom 33 = .ok (.goto (-23), 3) := by decide +kernel
theorem dX7_copyFrom_36 : decode cX7_copyFrom 36 = .ok (.aload_n 0, 1) := by decide +kernel
theorem dX7_copyFrom_37 : decode cX7_copyFrom 37 = .ok (.aload_n 1, 1) := by decide +kernel
theorem dX7_copyFrom_38 : decode cX7_copyFrom 38 = .ok (.getfield 25, 3) := by decide +kernel
theorem dX7_copyFrom_41 : decode cX7_copyFrom 41 = .ok (.putfield 25, 3) := by decide +kernel
theorem dX7_copyFrom_44 : decode cX7_copyFrom 44 = .ok (.aload_n 0, 1) := by decide +kernel
theorem dX7_copyFrom_45 : decode cX7_copyFrom 45 = .ok (.aload_n 1, 1) := by decide +kernel
theorem dX7_copyFrom_46 : decode cX7_copyFrom 46 = .ok (.getfield 28, 3) := by decide +kernel
theorem dX7_copyFrom_49 : decode cX7_copyFrom 49 = .ok (.putfield 28, 3) := by decide +kernel
theorem dX7_copyFrom_52 : decode cX7_copyFrom 52 = .ok (.aload_n 0, 1) := by decide +kernel
theorem dX7_copyFrom_53 : decode cX7_copyFrom 53 = .ok (.aload_n 1, 1) := by decide +kernel
theorem dX7_copyFrom_54 : decode cX7_copyFrom 54 = .ok (.getfield 31, 3) := by decide +kernel
theorem dX7_copyFrom_57 : decode cX7_copyFrom 57 = .ok (.putfield 31, 3) := by decide +kernel
theorem dX7_copyFrom_60 : decode cX7_copyFrom 60 = .ok (.aload_n 0, 1) := by decide +kernel
theorem dX7_copyFrom_61 : decode cX7_copyFrom 61 = .ok (.aload_n 1, 1) := by decide +kernel
theorem dX7_copyFrom_62 : decode cX7_copyFrom 62 = .ok (.getfield 34, 3) := by decide +kernel
theorem dX7_copyFrom_65 : decode cX7_copyFrom 65 = .ok (.putfield 34, 3) := by decide +kernel
theorem dX7_copyFrom_68 : decode cX7_copyFrom 68 = .ok (.aload_n 0, 1) := by decide +kernel
theorem dX7_copyFrom_69 : decode cX7_copyFrom 69 = .ok (.aload_n 1, 1) := by decide +kernel
theorem dX7_copyFrom_70 : decode cX7_copyFrom 70 = .ok (.getfield 37, 3) := by decide +kernel
theorem dX7_copyFrom_73 : decode cX7_copyFrom 73 = .ok (.putfield 37, 3) := by decide +kernel
theorem dX7_copyFrom_76 : decode cX7_copyFrom 76 = .ok (.return_, 1) := by decide +kernel
theorem dX7_mean_0 : decode cX7_mean 0 = .ok (.iconst 0, 1) := by decide +kernel
theorem dX7_mean_1 : decode cX7_mean 1 = .ok (.istore_n 1, 1) := by decide +kernel
theorem dX7_mean_2 : decode cX7_mean 2 = .ok (.iconst 0, 1) := by decide +kernel
theorem dX7_mean_3 : decode cX7_mean 3 = .ok (.istore_n 2, 1) := by decide +kernel
theorem dX7_mean_4 : decode cX7_mean 4 = .ok (.iload_n 2, 1) := by decide +kernel
theorem dX7_mean_5 : decode cX7_mean 5 = .ok (.aload_n 0, 1) := by decide +kernel
theorem dX7_mean_6 : decode cX7_mean 6 = .ok (.getfield 21, 3) := by decide +kernel
theorem dX7_mean_9 : decode cX7_mean 9 = .ok (.if_icmp .ge 18, 3) := by decide +kernel
theorem dX7_mean_12 : decode cX7_mean 12 = .ok (.iload_n 1, 1) := by decide +kernel
theorem dX7_mean_13 : decode cX7_mean 13 = .ok (.aload_n 0, 1) := by decide +kernel
theorem dX7_mean_14 : decode cX7_mean 14 = .ok (.getfield 9, 3) := by decide +kernel
theorem dX7_mean_17 : decode cX7_mean 17 = .ok (.iload_n 2, 1) := by decide +kernel
theorem dX7_mean_18 : decode cX7_mean 18 = .ok (.iaload, 1) := by decide +kernel
theorem dX7_mean_19 : decode cX7_mean 19 = .ok (.iadd, 1) := by decide +kernel
theorem dX7_mean_20 : decode cX7_mean 20 = .ok (.istore_n 1, 1) := by decide +kernel
theorem dX7_mean_21 : decode cX7_mean 21 = .ok (.iinc 2 1, 3) := by decide +kernel
theorem dX7_mean_24 : decode cX7_mean 24 = .ok (.goto (-20), 3) := by decide +kernel
theorem dX7_mean_27 : decode cX7_mean 27 = .ok (.aload_n 0, 1) := by decide +kernel
theorem dX7_mean_28 : decode cX7_mean 28 = .ok (.getfield 21, 3) := by decide +kernel
theorem dX7_mean_31 : decode cX7_mean 31 = .ok (.ifCond .le 12, 3) := by decide +kernel
theorem dX7_mean_34 : decode cX7_mean 34 = .ok (.iload_n 1, 1) := by decide +kernel
theorem dX7_mean_35 : decode cX7_mean 35 = .ok (.aload_n 0, 1) := by decide +kernel
theorem dX7_mean_36 : decode cX7_mean 36 = .ok (.getfield 21, 3) := by decide +kernel
theorem dX7_mean_39 : decode cX7_mean 39 = .ok (.idiv, 1) := by decide +kernel
theorem dX7_mean_40 : decode cX7_mean 40 = .ok (.goto 4, 3) := by decide +kernel
theorem dX7_mean_43 : decode cX7_mean 43 = .ok (.iconst 0, 1) := by decide +kernel
theorem dX7_mean_44 : decode cX7_mean 44 = .ok (.ireturn, 1) := by decide +kernel
theorem dX7_highest_0 : decode cX7_highest 0 = .ok (.aload_n 0, 1) := by decide +kernel
theorem dX7_highest_1 : decode cX7_highest 1 = .ok (.getfield 21, 3) := by decide +kernel
theorem dX7_highest_4 : decode cX7_highest 4 = .ok (.ifCond .le 17, 3) := by decide +kernel
theorem dX7_highest_7 : decode cX7_highest 7 = .ok (.aload_n 0, 1) := by decide +kernel
theorem dX7_highest_8 : decode cX7_highest 8 = .ok (.getfield 9, 3) := by decide +kernel
theorem dX7_highest_11 : decode cX7_highest 11 = .ok (.aload_n 0, 1) := by decide +kernel
theorem dX7_highest_12 : decode cX7_highest 12 = .ok (.getfield 21, 3) := by decide +kernel
theorem dX7_highest_15 : decode cX7_highest 15 = .ok (.iconst 1, 1) := by decide +kernel
theorem dX7_highest_16 : decode cX7_highest 16 = .ok (.isub, 1) := by decide +kernel
theorem dX7_highest_17 : decode cX7_highest 17 = .ok (.iaload, 1) := by decide +kernel
theorem dX7_highest_18 : decode cX7_highest 18 = .ok (.goto 4, 3) := by decide +kernel
theorem dX7_highest_21 : decode cX7_highest 21 = .ok (.iconst 0, 1) := by decide +kernel
theorem dX7_highest_22 : decode cX7_highest 22 = .ok (.ireturn, 1) := by decide +kernel
theorem dX7_coldest_0 : decode cX7_coldest 0 = .ok (.bipush 99, 2) := by decide +kernel
theorem dX7_coldest_2 : decode cX7_coldest 2 = .ok (.istore_n 1, 1) := by decide +kernel
theorem dX7_coldest_3 : decode cX7_coldest 3 = .ok (.iconst 0, 1) := by decide +kernel
theorem dX7_coldest_4 : decode cX7_coldest 4 = .ok (.istore_n 2, 1) := by decide +kernel
theorem dX7_coldest_5 : decode cX7_coldest 5 = .ok (.iload_n 2, 1) := by decide +kernel
theorem dX7_coldest_6 : decode cX7_coldest 6 = .ok (.aload_n 0, 1) := by decide +kernel
theorem dX7_coldest_7 : decode cX7_coldest 7 = .ok (.getfield 21, 3) := by decide +kernel
theorem dX7_coldest_10 : decode cX7_coldest 10 = .ok (.if_icmp .ge 20, 3) := by decide +kernel
theorem dX7_coldest_13 : decode cX7_coldest 13 = .ok (.iload_n 1, 1) := by decide +kernel
theorem dX7_coldest_14 : decode cX7_coldest 14 = .ok (.aload_n 0, 1) := by decide +kernel
theorem dX7_coldest_15 : decode cX7_coldest 15 = .ok (.getfield 9, 3) := by decide +kernel
theorem dX7_coldest_18 : decode cX7_coldest 18 = .ok (.iload_n 2, 1) := by decide +kernel
theorem dX7_coldest_19 : decode cX7_coldest 19 = .ok (.iaload, 1) := by decide +kernel
theorem dX7_coldest_20 : decode cX7_coldest 20 = .ok (.invokestatic 15, 3) := by decide +kernel
theorem dX7_coldest_23 : decode cX7_coldest 23 = .ok (.istore_n 1, 1) := by decide +kernel
theorem dX7_coldest_24 : decode cX7_coldest 24 = .ok (.iinc 2 1, 3) := by decide +kernel
theorem dX7_coldest_27 : decode cX7_coldest 27 = .ok (.goto (-22), 3) := by decide +kernel
theorem dX7_coldest_30 : decode cX7_coldest 30 = .ok (.iload_n 1, 1) := by decide +kernel
theorem dX7_coldest_31 : decode cX7_coldest 31 = .ok (.ireturn, 1) := by decide +kernel
theorem dX7_deliver_0 : decode cX7_deliver 0 = .ok (.iconst 0, 1) := by decide +kernel
theorem dX7_deliver_1 : decode cX7_deliver 1 = .ok (.istore_n 2, 1) := by decide +kernel
theorem dX7_deliver_2 : decode cX7_deliver 2 = .ok (.iconst 0, 1) := by decide +kernel
theorem dX7_deliver_3 : decode cX7_deliver 3 = .ok (.istore_n 3, 1) := by decide +kernel
theorem dX7_deliver_4 : decode cX7_deliver 4 = .ok (.iload_n 3, 1) := by decide +kernel
theorem dX7_deliver_5 : decode cX7_deliver 5 = .ok (.iload_n 1, 1) := by decide +kernel
theorem dX7_deliver_6 : decode cX7_deliver 6 = .ok (.if_icmp .ge 80, 3) := by decide +kernel
theorem dX7_deliver_9 : decode cX7_deliver 9 = .ok (.iload_n 2, 1) := by decide +kernel
theorem dX7_deliver_10 : decode cX7_deliver 10 = .ok (.aload_n 0, 1) := by decide +kernel
theorem dX7_deliver_11 : decode cX7_deliver 11 = .ok (.invokevirtual 40, 3) := by decide +kernel
theorem dX7_deliver_14 : decode cX7_deliver 14 = .ok (.iadd, 1) := by decide +kernel
theorem dX7_deliver_15 : decode cX7_deliver 15 = .ok (.istore_n 2, 1) := by decide +kernel
theorem dX7_deliver_16 : decode cX7_deliver 16 = .ok (.aload_n 0, 1) := by decide +kernel
theorem dX7_deliver_17 : decode cX7_deliver 17 = .ok (.getfield 21, 3) := by decide +kernel
theorem dX7_deliver_20 : decode cX7_deliver 20 = .ok (.iconst 1, 1) := by decide +kernel
theorem dX7_deliver_21 : decode cX7_deliver 21 = .ok (.isub, 1) := by decide +kernel
theorem dX7_deliver_22 : decode cX7_deliver 22 = .ok (.istore 4, 2) := by decide +kernel
theorem dX7_deliver_24 : decode cX7_deliver 24 = .ok (.iload 4, 2) := by decide +kernel
theorem dX7_deliver_26 : decode cX7_deliver 26 = .ok (.ifCond .le 25, 3) := by decide +kernel
theorem dX7_deliver_29 : decode cX7_deliver 29 = .ok (.aload_n 0, 1) := by decide +kernel
theorem dX7_deliver_30 : decode cX7_deliver 30 = .ok (.getfield 9, 3) := by decide +kernel
theorem dX7_deliver_33 : decode cX7_deliver 33 = .ok (.iload 4, 2) := by decide +kernel
theorem dX7_deliver_35 : decode cX7_deliver 35 = .ok (.aload_n 0, 1) := by decide +kernel
theorem dX7_deliver_36 : decode cX7_deliver 36 = .ok (.getfield 9, 3) := by decide +kernel
theorem dX7_deliver_39 : decode cX7_deliver 39 = .ok (.iload 4, 2) := by decide +kernel
theorem dX7_deliver_41 : decode cX7_deliver 41 = .ok (.iconst 1, 1) := by decide +kernel
theorem dX7_deliver_42 : decode cX7_deliver 42 = .ok (.isub, 1) := by decide +kernel
theorem dX7_deliver_43 : decode cX7_deliver 43 = .ok (.iaload, 1) := by decide +kernel
theorem dX7_deliver_44 : decode cX7_deliver 44 = .ok (.iastore, 1) := by decide +kernel
theorem dX7_deliver_45 : decode cX7_deliver 45 = .ok (.iinc 4 (-1), 3) := by decide +kernel
theorem dX7_deliver_48 : decode cX7_deliver 48 = .ok (.goto (-24), 3) := by decide +kernel
theorem dX7_deliver_51 : decode cX7_deliver 51 = .ok (.aload_n 0, 1) := by decide +kernel
theorem dX7_deliver_52 : decode cX7_deliver 52 = .ok (.getfield 9, 3) := by decide +kernel
theorem dX7_deliver_55 : decode cX7_deliver 55 = .ok (.iconst 0, 1) := by decide +kernel
theorem dX7_deliver_56 : decode cX7_deliver 56 = .ok (.bipush 10, 2) := by decide +kernel
theorem dX7_deliver_58 : decode cX7_deliver 58 = .ok (.iastore, 1) := by decide +kernel
theorem dX7_deliver_59 : decode cX7_deliver 59 = .ok (.aload_n 0, 1) := by decide +kernel
theorem dX7_deliver_60 : decode cX7_deliver 60 = .ok (.dup, 1) := by decide +kernel
theorem dX7_deliver_61 : decode cX7_deliver 61 = .ok (.getfield 28, 3) := by decide +kernel
theorem dX7_deliver_64 : decode cX7_deliver 64 = .ok (.bipush 10, 2) := by decide +kernel
theorem dX7_deliver_66 : decode cX7_deliver 66 = .ok (.iadd, 1) := by decide +kernel
theorem dX7_deliver_67 : decode cX7_deliver 67 = .ok (.putfield 28, 3) := by decide +kernel
theorem dX7_deliver_70 : decode cX7_deliver 70 = .ok (.aload_n 0, 1) := by decide +kernel
theorem dX7_deliver_71 : decode cX7_deliver 71 = .ok (.dup, 1) := by decide +kernel
theorem dX7_deliver_72 : decode cX7_deliver 72 = .ok (.getfield 37, 3) := by decide +kernel
theorem dX7_deliver_75 : decode cX7_deliver 75 = .ok (.iconst 1, 1) := by decide +kernel
theorem dX7_deliver_76 : decode cX7_deliver 76 = .ok (.iadd, 1) := by decide +kernel
theorem dX7_deliver_77 : decode cX7_deliver 77 = .ok (.putfield 37, 3) := by decide +kernel
theorem dX7_deliver_80 : decode cX7_deliver 80 = .ok (.iinc 3 1, 3) := by decide +kernel
theorem dX7_deliver_83 : decode cX7_deliver 83 = .ok (.goto (-79), 3) := by decide +kernel
theorem dX7_deliver_86 : decode cX7_deliver 86 = .ok (.aload_n 0, 1) := by decide +kernel
theorem dX7_deliver_87 : decode cX7_deliver 87 = .ok (.dup, 1) := by decide +kernel
theorem dX7_deliver_88 : decode cX7_deliver 88 = .ok (.getfield 31, 3) := by decide +kernel
theorem dX7_deliver_91 : decode cX7_deliver 91 = .ok (.iload_n 2, 1) := by decide +kernel
theorem dX7_deliver_92 : decode cX7_deliver 92 = .ok (.iadd, 1) := by decide +kernel
theorem dX7_deliver_93 : decode cX7_deliver 93 = .ok (.putfield 31, 3) := by decide +kernel
theorem dX7_deliver_96 : decode cX7_deliver 96 = .ok (.iload_n 2, 1) := by decide +kernel
theorem dX7_deliver_97 : decode cX7_deliver 97 = .ok (.ireturn, 1) := by decide +kernel
theorem dX7_warm_0 : decode cX7_warm 0 = .ok (.iload_n 1, 1) := by decide +kernel
theorem dX7_warm_1 : decode cX7_warm 1 = .ok (.istore_n 2, 1) := by decide +kernel
theorem dX7_warm_2 : decode cX7_warm 2 = .ok (.aload_n 0, 1) := by decide +kernel
theorem dX7_warm_3 : decode cX7_warm 3 = .ok (.invokevirtual 44, 3) := by decide +kernel
theorem dX7_warm_6 : decode cX7_warm 6 = .ok (.istore_n 3, 1) := by decide +kernel
theorem dX7_warm_7 : decode cX7_warm 7 = .ok (.iload_n 3, 1) := by decide +kernel
theorem dX7_warm_8 : decode cX7_warm 8 = .ok (.bipush 99, 2) := by decide +kernel
theorem dX7_warm_10 : decode cX7_warm 10 = .ok (.if_icmp .ge 60, 3) := by decide +kernel
theorem dX7_warm_13 : decode cX7_warm 13 = .ok (.iload_n 2, 1) := by decide +kernel
theorem dX7_warm_14 : decode cX7_warm 14 = .ok (.ifCond .le 56, 3) := by decide +kernel
theorem dX7_warm_17 : decode cX7_warm 17 = .ok (.iconst 0, 1) := by decide +kernel
theorem dX7_warm_18 : decode cX7_warm 18 = .ok (.istore 4, 2) := by decide +kernel
theorem dX7_warm_20 : decode cX7_warm 20 = .ok (.iload 4, 2) := by decide +kernel
theorem dX7_warm_22 : decode cX7_warm 22 = .ok (.aload_n 0, 1) := by decide +kernel
theorem dX7_warm_23 : decode cX7_warm 23 = .ok (.getfield 21, 3) := by decide +kernel
theorem dX7_warm_26 : decode cX7_warm 26 = .ok (.if_icmp .ge 38, 3) := by decide +kernel
theorem dX7_warm_29 : decode cX7_warm 29 = .ok (.iload_n 2, 1) := by decide +kernel
theorem dX7_warm_30 : decode cX7_warm 30 = .ok (.ifCond .le 34, 3) := by decide +kernel
theorem dX7_warm_33 : decode cX7_warm 33 = .ok (.aload_n 0, 1) := by decide +kernel
theorem dX7_warm_34 : decode cX7_warm 34 = .ok (.getfield 9, 3) := by decide +kernel
theorem dX7_warm_37 : decode cX7_warm 37 = .ok (.iload 4, 2) := by decide +kernel
theorem dX7_warm_39 : decode cX7_warm 39 = .ok (.iaload, 1) := by decide +kernel
theorem dX7_warm_40 : decode cX7_warm 40 = .ok (.iload_n 3, 1) := by decide +kernel
theorem dX7_warm_41 : decode cX7_warm 41 = .ok (.if_icmp .ne 17, 3) := by decide +kernel
theorem dX7_warm_44 : decode cX7_warm 44 = .ok (.aload_n 0, 1) := by decide +kernel
theorem dX7_warm_45 : decode cX7_warm 45 = .ok (.getfield 9, 3) := by decide +kernel
theorem dX7_warm_48 : decode cX7_warm 48 = .ok (.iload 4, 2) := by decide +kernel
theorem dX7_warm_50 : decode cX7_warm 50 = .ok (.dup2, 1) := by decide +kernel
theorem dX7_warm_51 : decode cX7_warm 51 = .ok (.iaload, 1) := by decide +kernel
theorem dX7_warm_52 : decode cX7_warm 52 = .ok (.iconst 1, 1) := by decide +kernel
theorem dX7_warm_53 : decode cX7_warm 53 = .ok (.iadd, 1) := by decide +kernel
theorem dX7_warm_54 : decode cX7_warm 54 = .ok (.iastore, 1) := by decide +kernel
theorem dX7_warm_55 : decode cX7_warm 55 = .ok (.iinc 2 (-1), 3) := by decide +kernel
theorem dX7_warm_58 : decode cX7_warm 58 = .ok (.iinc 4 1, 3) := by decide +kernel
theorem dX7_warm_61 : decode cX7_warm 61 = .ok (.goto (-41), 3) := by decide +kernel
theorem dX7_warm_64 : decode cX7_warm 64 = .ok (.iinc 3 1, 3) := by decide +kernel
theorem dX7_warm_67 : decode cX7_warm 67 = .ok (.goto (-60), 3) := by decide +kernel
theorem dX7_warm_70 : decode cX7_warm 70 = .ok (.aload_n 0, 1) := by decide +kernel
theorem dX7_warm_71 : decode cX7_warm 71 = .ok (.dup, 1) := by decide +kernel
theorem dX7_warm_72 : decode cX7_warm 72 = .ok (.getfield 25, 3) := by decide +kernel
theorem dX7_warm_75 : decode cX7_warm 75 = .ok (.iload_n 1, 1) := by decide +kernel
theorem dX7_warm_76 : decode cX7_warm 76 = .ok (.iadd, 1) := by decide +kernel
theorem dX7_warm_77 : decode cX7_warm 77 = .ok (.putfield 25, 3) := by decide +kernel
theorem dX7_warm_80 : decode cX7_warm 80 = .ok (.aload_n 0, 1) := by decide +kernel
theorem dX7_warm_81 : decode cX7_warm 81 = .ok (.dup, 1) := by decide +kernel
theorem dX7_warm_82 : decode cX7_warm 82 = .ok (.getfield 34, 3) := by decide +kernel
theorem dX7_warm_85 : decode cX7_warm 85 = .ok (.iload_n 2, 1) := by decide +kernel
theorem dX7_warm_86 : decode cX7_warm 86 = .ok (.iadd, 1) := by decide +kernel
theorem dX7_warm_87 : decode cX7_warm 87 = .ok (.putfield 34, 3) := by decide +kernel
theorem dX7_warm_90 : decode cX7_warm 90 = .ok (.return_, 1) := by decide +kernel
theorem dX7_cool_0 : decode cX7_cool 0 = .ok (.iconst 0, 1) := by decide +kernel
theorem dX7_cool_1 : decode cX7_cool 1 = .ok (.istore_n 1, 1) := by decide +kernel
theorem dX7_cool_2 : decode cX7_cool 2 = .ok (.iload_n 1, 1) := by decide +kernel
theorem dX7_cool_3 : decode cX7_cool 3 = .ok (.aload_n 0, 1) := by decide +kernel
theorem dX7_cool_4 : decode cX7_cool 4 = .ok (.getfield 21, 3) := by decide +kernel
theorem dX7_cool_7 : decode cX7_cool 7 = .ok (.if_icmp .ge 53, 3) := by decide +kernel
theorem dX7_cool_10 : decode cX7_cool 10 = .ok (.aload_n 0, 1) := by decide +kernel
theorem dX7_cool_11 : decode cX7_cool 11 = .ok (.getfield 9, 3) := by decide +kernel
theorem dX7_cool_14 : decode cX7_cool 14 = .ok (.iload_n 1, 1) := by decide +kernel
theorem dX7_cool_15 : decode cX7_cool 15 = .ok (.iaload, 1) := by decide +kernel
theorem dX7_cool_16 : decode cX7_cool 16 = .ok (.bipush 20, 2) := by decide +kernel
theorem dX7_cool_18 : decode cX7_cool 18 = .ok (.if_icmp .le 36, 3) := by decide +kernel
theorem dX7_cool_21 : decode cX7_cool 21 = .ok (.aload_n 0, 1) := by decide +kernel
theorem dX7_cool_22 : decode cX7_cool 22 = .ok (.getfield 9, 3) := by decide +kernel
theorem dX7_cool_25 : decode cX7_cool 25 = .ok (.iload_n 1, 1) := by decide +kernel
theorem dX7_cool_26 : decode cX7_cool 26 = .ok (.iaload, 1) := by decide +kernel
theorem dX7_cool_27 : decode cX7_cool 27 = .ok (.bipush 20, 2) := by decide +kernel
theorem dX7_cool_29 : decode cX7_cool 29 = .ok (.isub, 1) := by decide +kernel
theorem dX7_cool_30 : decode cX7_cool 30 = .ok (.bipush 20, 2) := by decide +kernel
theorem dX7_cool_32 : decode cX7_cool 32 = .ok (.idiv, 1) := by decide +kernel
theorem dX7_cool_33 : decode cX7_cool 33 = .ok (.istore_n 2, 1) := by decide +kernel
theorem dX7_cool_34 : decode cX7_cool 34 = .ok (.aload_n 0, 1) := by decide +kernel
theorem dX7_cool_35 : decode cX7_cool 35 = .ok (.getfield 9, 3) := by decide +kernel
theorem dX7_cool_38 : decode cX7_cool 38 = .ok (.iload_n 1, 1) := by decide +kernel
theorem dX7_cool_39 : decode cX7_cool 39 = .ok (.dup2, 1) := by decide +kernel
theorem dX7_cool_40 : decode cX7_cool 40 = .ok (.iaload, 1) := by decide +kernel
theorem dX7_cool_41 : decode cX7_cool 41 = .ok (.iload_n 2, 1) := by decide +kernel
theorem dX7_cool_42 : decode cX7_cool 42 = .ok (.isub, 1) := by decide +kernel
theorem dX7_cool_43 : decode cX7_cool 43 = .ok (.iastore, 1) := by decide +kernel
theorem dX7_cool_44 : decode cX7_cool 44 = .ok (.aload_n 0, 1) := by decide +kernel
theorem dX7_cool_45 : decode cX7_cool 45 = .ok (.dup, 1) := by decide +kernel
theorem dX7_cool_46 : decode cX7_cool 46 = .ok (.getfield 34, 3) := by decide +kernel
theorem dX7_cool_49 : decode cX7_cool 49 = .ok (.iload_n 2, 1) := by decide +kernel
theorem dX7_cool_50 : decode cX7_cool 50 = .ok (.iadd, 1) := by decide +kernel
theorem dX7_cool_51 : decode cX7_cool 51 = .ok (.putfield 34, 3) := by decide +kernel
theorem dX7_cool_54 : decode cX7_cool 54 = .ok (.iinc 1 1, 3) := by decide +kernel
theorem dX7_cool_57 : decode cX7_cool 57 = .ok (.goto (-55), 3) := by decide +kernel
theorem dX7_cool_60 : decode cX7_cool 60 = .ok (.return_, 1) := by decide +kernel
theorem dX7_putInOrder_0 : decode cX7_putInOrder 0 = .ok (.iconst 1, 1) := by decide +kernel
theorem dX7_putInOrder_1 : decode cX7_putInOrder 1 = .ok (.istore_n 1, 1) := by decide +kernel
theorem dX7_putInOrder_2 : decode cX7_putInOrder 2 = .ok (.iload_n 1, 1) := by decide +kernel
theorem dX7_putInOrder_3 : decode cX7_putInOrder 3 = .ok (.aload_n 0, 1) := by decide +kernel
theorem dX7_putInOrder_4 : decode cX7_putInOrder 4 = .ok (.getfield 21, 3) := by decide +kernel
theorem dX7_putInOrder_7 : decode cX7_putInOrder 7 = .ok (.if_icmp .ge 61, 3) := by decide +kernel
theorem dX7_putInOrder_10 : decode cX7_putInOrder 10 = .ok (.aload_n 0, 1) := by decide +kernel
theorem dX7_putInOrder_11 : decode cX7_putInOrder 11 = .ok (.getfield 9, 3) := by decide +kernel
theorem dX7_putInOrder_14 : decode cX7_putInOrder 14 = .ok (.iload_n 1, 1) := by decide +kernel
theorem dX7_putInOrder_15 : decode cX7_putInOrder 15 = .ok (.iaload, 1) := by decide +kernel
theorem dX7_putInOrder_16 : decode cX7_putInOrder 16 = .ok (.istore_n 2, 1) := by decide +kernel
theorem dX7_putInOrder_17 : decode cX7_putInOrder 17 = .ok (.iload_n 1, 1) := by decide +kernel
theorem dX7_putInOrder_18 : decode cX7_putInOrder 18 = .ok (.istore_n 3, 1) := by decide +kernel
theorem dX7_putInOrder_19 : decode cX7_putInOrder 19 = .ok (.iload_n 3, 1) := by decide +kernel
theorem dX7_putInOrder_20 : decode cX7_putInOrder 20 = .ok (.ifCond .le 35, 3) := by decide +kernel
theorem dX7_putInOrder_23 : decode cX7_putInOrder 23 = .ok (.aload_n 0, 1) := by decide +kernel
theorem dX7_putInOrder_24 : decode cX7_putInOrder 24 = .ok (.getfield 9, 3) := by decide +kernel
theorem dX7_putInOrder_27 : decode cX7_putInOrder 27 = .ok (.iload_n 3, 1) := by decide +kernel
theorem dX7_putInOrder_28 : decode cX7_putInOrder 28 = .ok (.iconst 1, 1) := by decide +kernel
theorem dX7_putInOrder_29 : decode cX7_putInOrder 29 = .ok (.isub, 1) := by decide +kernel
theorem dX7_putInOrder_30 : decode cX7_putInOrder 30 = .ok (.iaload, 1) := by decide +kernel
theorem dX7_putInOrder_31 : decode cX7_putInOrder 31 = .ok (.iload_n 2, 1) := by decide +kernel
theorem dX7_putInOrder_32 : decode cX7_putInOrder 32 = .ok (.if_icmp .le 23, 3) := by decide +kernel
theorem dX7_putInOrder_35 : decode cX7_putInOrder 35 = .ok (.aload_n 0, 1) := by decide +kernel
theorem dX7_putInOrder_36 : decode cX7_putInOrder 36 = .ok (.getfield 9, 3) := by decide +kernel
theorem dX7_putInOrder_39 : decode cX7_putInOrder 39 = .ok (.iload_n 3, 1) := by decide +kernel
theorem dX7_putInOrder_40 : decode cX7_putInOrder 40 = .ok (.aload_n 0, 1) := by decide +kernel
theorem dX7_putInOrder_41 : decode cX7_putInOrder 41 = .ok (.getfield 9, 3) := by decide +kernel
theorem dX7_putInOrder_44 : decode cX7_putInOrder 44 = .ok (.iload_n 3, 1) := by decide +kernel
theorem dX7_putInOrder_45 : decode cX7_putInOrder 45 = .ok (.iconst 1, 1) := by decide +kernel
theorem dX7_putInOrder_46 : decode cX7_putInOrder 46 = .ok (.isub, 1) := by decide +kernel
theorem dX7_putInOrder_47 : decode cX7_putInOrder 47 = .ok (.iaload, 1) := by decide +kernel
theorem dX7_putInOrder_48 : decode cX7_putInOrder 48 = .ok (.iastore, 1) := by decide +kernel
theorem dX7_putInOrder_49 : decode cX7_putInOrder 49 = .ok (.iinc 3 (-1), 3) := by decide +kernel
theorem dX7_putInOrder_52 : decode cX7_putInOrder 52 = .ok (.goto (-33), 3) := by decide +kernel
theorem dX7_putInOrder_55 : decode cX7_putInOrder 55 = .ok (.aload_n 0, 1) := by decide +kernel
theorem dX7_putInOrder_56 : decode cX7_putInOrder 56 = .ok (.getfield 9, 3) := by decide +kernel
theorem dX7_putInOrder_59 : decode cX7_putInOrder 59 = .ok (.iload_n 3, 1) := by decide +kernel
theorem dX7_putInOrder_60 : decode cX7_putInOrder 60 = .ok (.iload_n 2, 1) := by decide +kernel
theorem dX7_putInOrder_61 : decode cX7_putInOrder 61 = .ok (.iastore, 1) := by decide +kernel
theorem dX7_putInOrder_62 : decode cX7_putInOrder 62 = .ok (.iinc 1 1, 3) := by decide +kernel
theorem dX7_putInOrder_65 : decode cX7_putInOrder 65 = .ok (.goto (-63), 3) := by decide +kernel
theorem dX7_putInOrder_68 : decode cX7_putInOrder 68 = .ok (.return_, 1) := by decide +kernel
theorem dX8_init_0 : decode cX8_init 0 = .ok (.aload_n 0, 1) := by decide +kernel
theorem dX8_init_1 : decode cX8_init 1 = .ok (.invokespecial 1, 3) := by decide +kernel
theorem dX8_init_4 : decode cX8_init 4 = .ok (.aload_n 0, 1) := by decide +kernel
theorem dX8_init_5 : decode cX8_init 5 = .ok (.new 7, 3) := by decide +kernel
theorem dX8_init_8 : decode cX8_init 8 = .ok (.dup, 1) := by decide +kernel
theorem dX8_init_9 : decode cX8_init 9 = .ok (.invokespecial 9, 3) := by decide +kernel
theorem dX8_init_12 : decode cX8_init 12 = .ok (.putfield 10, 3) := by decide +kernel
theorem dX8_init_15 : decode cX8_init 15 = .ok (.aload_n 0, 1) := by decide +kernel
theorem dX8_init_16 : decode cX8_init 16 = .ok (.new 16, 3) := by decide +kernel
theorem dX8_init_19 : decode cX8_init 19 = .ok (.dup, 1) := by decide +kernel
theorem dX8_init_20 : decode cX8_init 20 = .ok (.invokespecial 18, 3) := by decide +kernel
theorem dX8_init_23 : decode cX8_init 23 = .ok (.putfield 19, 3) := by decide +kernel
theorem dX8_init_26 : decode cX8_init 26 = .ok (.aload_n 0, 1) := by decide +kernel
theorem dX8_init_27 : decode cX8_init 27 = .ok (.new 16, 3) := by decide +kernel
theorem dX8_init_30 : decode cX8_init 30 = .ok (.dup, 1) := by decide +kernel
theorem dX8_init_31 : decode cX8_init 31 = .ok (.invokespecial 18, 3) := by decide +kernel
theorem dX8_init_34 : decode cX8_init 34 = .ok (.putfield 23, 3) := by decide +kernel
theorem dX8_init_37 : decode cX8_init 37 = .ok (.aload_n 0, 1) := by decide +kernel
theorem dX8_init_38 : decode cX8_init 38 = .ok (.new 26, 3) := by decide +kernel
theorem dX8_init_41 : decode cX8_init 41 = .ok (.dup, 1) := by decide +kernel
theorem dX8_init_42 : decode cX8_init 42 = .ok (.invokespecial 28, 3) := by decide +kernel
theorem dX8_init_45 : decode cX8_init 45 = .ok (.putfield 29, 3) := by decide +kernel
theorem dX8_init_48 : decode cX8_init 48 = .ok (.aload_n 0, 1) := by decide +kernel
theorem dX8_init_49 : decode cX8_init 49 = .ok (.new 33, 3) := by decide +kernel
theorem dX8_init_52 : decode cX8_init 52 = .ok (.dup, 1) := by decide +kernel
theorem dX8_init_53 : decode cX8_init 53 = .ok (.invokespecial 35, 3) := by decide +kernel
theorem dX8_init_56 : decode cX8_init 56 = .ok (.putfield 36, 3) := by decide +kernel
theorem dX8_init_59 : decode cX8_init 59 = .ok (.aload_n 0, 1) := by decide +kernel
theorem dX8_init_60 : decode cX8_init 60 = .ok (.new 33, 3) := by decide +kernel
theorem dX8_init_63 : decode cX8_init 63 = .ok (.dup, 1) := by decide +kernel
theorem dX8_init_64 : decode cX8_init 64 = .ok (.invokespecial 35, 3) := by decide +kernel
theorem dX8_init_67 : decode cX8_init 67 = .ok (.putfield 40, 3) := by decide +kernel
theorem dX8_init_70 : decode cX8_init 70 = .ok (.aload_n 0, 1) := by decide +kernel
theorem dX8_init_71 : decode cX8_init 71 = .ok (.getfield 19, 3) := by decide +kernel
theorem dX8_init_74 : decode cX8_init 74 = .ok (.aload_n 0, 1) := by decide +kernel
theorem dX8_init_75 : decode cX8_init 75 = .ok (.getfield 10, 3) := by decide +kernel
theorem dX8_init_78 : decode cX8_init 78 = .ok (.invokevirtual 43, 3) := by decide +kernel
theorem dX8_init_81 : decode cX8_init 81 = .ok (.return_, 1) := by decide +kernel
theorem dX8_append_0 : decode cX8_append 0 = .ok (.iload_n 1, 1) := by decide +kernel
theorem dX8_append_1 : decode cX8_append 1 = .ok (.iconst 0, 1) := by decide +kernel
theorem dX8_append_2 : decode cX8_append 2 = .ok (.sipush 255, 3) := by decide +kernel
theorem dX8_append_5 : decode cX8_append 5 = .ok (.invokestatic 47, 3) := by decide +kernel
theorem dX8_append_8 : decode cX8_append 8 = .ok (.aload_n 0, 1) := by decide +kernel
theorem dX8_append_9 : decode cX8_append 9 = .ok (.getfield 10, 3) := by decide +kernel
theorem dX8_append_12 : decode cX8_append 12 = .ok (.iload_n 1, 1) := by decide +kernel
theorem dX8_append_13 : decode cX8_append 13 = .ok (.invokevirtual 51, 3) := by decide +kernel
theorem dX8_append_16 : decode cX8_append 16 = .ok (.ifCond .ne 13, 3) := by decide +kernel
theorem dX8_append_19 : decode cX8_append 19 = .ok (.new 55, 3) := by decide +kernel
theorem dX8_append_22 : decode cX8_append 22 = .ok (.dup, 1) := by decide +kernel
theorem dX8_append_23 : decode cX8_append 23 = .ok (.ldc 57, 2) := by decide +kernel
theorem dX8_append_25 : decode cX8_append 25 = .ok (.invokespecial 59, 3) := by decide +kernel
theorem dX8_append_28 : decode cX8_append 28 = .ok (.athrow, 1) := by decide +kernel
theorem dX8_append_29 : decode cX8_append 29 = .ok (.aload_n 0, 1) := by decide +kernel
theorem dX8_append_30 : decode cX8_append 30 = .ok (.getfield 10, 3) := by decide +kernel
theorem dX8_append_33 : decode cX8_append 33 = .ok (.getfield 62, 3) := by decide +kernel
theorem dX8_append_36 : decode cX8_append 36 = .ok (.ireturn, 1) := by decide +kernel
theorem dX8_clearText_0 : decode cX8_clearText 0 = .ok (.aload_n 0, 1) := by decide +kernel
theorem dX8_clearText_1 : decode cX8_clearText 1 = .ok (.getfield 10, 3) := by decide +kernel
theorem dX8_clearText_4 : decode cX8_clearText 4 = .ok (.getfield 62, 3) := by decide +kernel
theorem dX8_clearText_7 : decode cX8_clearText 7 = .ok (.istore_n 1, 1) := by decide +kernel
theorem dX8_clearText_8 : decode cX8_clearText 8 = .ok (.aload_n 0, 1) := by decide +kernel
theorem dX8_clearText_9 : decode cX8_clearText 9 = .ok (.getfield 10, 3) := by decide +kernel
theorem dX8_clearText_12 : decode cX8_clearText 12 = .ok (.iconst 0, 1) := by decide +kernel
theorem dX8_clearText_13 : decode cX8_clearText 13 = .ok (.putfield 62, 3) := by decide +kernel
theorem dX8_clearText_16 : decode cX8_clearText 16 = .ok (.iload_n 1, 1) := by decide +kernel
theorem dX8_clearText_17 : decode cX8_clearText 17 = .ok (.ireturn, 1) := by decide +kernel
theorem dX8_errorPosition_0 : decode cX8_errorPosition 0 = .ok (.aload_n 0, 1) := by decide +kernel
theorem dX8_errorPosition_1 : decode cX8_errorPosition 1 = .ok (.getfield 10, 3) := by decide +kernel
theorem dX8_errorPosition_4 : decode cX8_errorPosition 4 = .ok (.invokevirtual 66, 3) := by decide +kernel
theorem dX8_errorPosition_7 : decode cX8_errorPosition 7 = .ok (.ireturn, 1) := by decide +kernel
theorem dX8_load_0 : decode cX8_load 0 = .ok (.aload_n 0, 1) := by decide +kernel
theorem dX8_load_1 : decode cX8_load 1 = .ok (.getfield 10, 3) := by decide +kernel
theorem dX8_load_4 : decode cX8_load 4 = .ok (.invokevirtual 66, 3) := by decide +kernel
theorem dX8_load_7 : decode cX8_load 7 = .ok (.bipush (-9), 2) := by decide +kernel
theorem dX8_load_9 : decode cX8_load 9 = .ok (.if_icmp .eq 13, 3) := by decide +kernel
theorem dX8_load_12 : decode cX8_load 12 = .ok (.new 55, 3) := by decide +kernel
theorem dX8_load_15 : decode cX8_load 15 = .ok (.dup, 1) := by decide +kernel
theorem dX8_load_16 : decode cX8_load 16 = .ok (.ldc 70, 2) := by decide +kernel
theorem dX8_load_18 : decode cX8_load 18 = .ok (.invokespecial 59, 3) := by decide +kernel
theorem dX8_load_21 : decode cX8_load 21 = .ok (.athrow, 1) := by decide +kernel
theorem dX8_load_22 : decode cX8_load 22 = .ok (.aload_n 0, 1) := by decide +kernel
theorem dX8_load_23 : decode cX8_load 23 = .ok (.getfield 19, 3) := by decide +kernel
theorem dX8_load_26 : decode cX8_load 26 = .ok (.aload_n 0, 1) := by decide +kernel
theorem dX8_load_27 : decode cX8_load 27 = .ok (.getfield 10, 3) := by decide +kernel
theorem dX8_load_30 : decode cX8_load 30 = .ok (.invokevirtual 43, 3) := by decide +kernel
theorem dX8_load_33 : decode cX8_load 33 = .ok (.aload_n 0, 1) := by decide +kernel
theorem dX8_load_34 : decode cX8_load 34 = .ok (.getfield 29, 3) := by decide +kernel
theorem dX8_load_37 : decode cX8_load 37 = .ok (.invokevirtual 72, 3) := by decide +kernel
theorem dX8_load_40 : decode cX8_load 40 = .ok (.aload_n 0, 1) := by decide +kernel
theorem dX8_load_41 : decode cX8_load 41 = .ok (.getfield 36, 3) := by decide +kernel
theorem dX8_load_44 : decode cX8_load 44 = .ok (.iconst 0, 1) := by decide +kernel
theorem dX8_load_45 : decode cX8_load 45 = .ok (.putfield 75, 3) := by decide +kernel
theorem dX8_load_48 : decode cX8_load 48 = .ok (.aload_n 0, 1) := by decide +kernel
theorem dX8_load_49 : decode cX8_load 49 = .ok (.getfield 40, 3) := by decide +kernel
theorem dX8_load_52 : decode cX8_load 52 = .ok (.iconst 0, 1) := by decide +kernel
theorem dX8_load_53 : decode cX8_load 53 = .ok (.putfield 75, 3) := by decide +kernel
theorem dX8_load_56 : decode cX8_load 56 = .ok (.aload_n 0, 1) := by decide +kernel
theorem dX8_load_57 : decode cX8_load 57 = .ok (.getfield 19, 3) := by decide +kernel
theorem dX8_load_60 : decode cX8_load 60 = .ok (.getfield 79, 3) := by decide +kernel
theorem dX8_load_63 : decode cX8_load 63 = .ok (.ireturn, 1) := by decide +kernel
theorem dX8_about_0 : decode cX8_about 0 = .ok (.iload_n 1, 1) := by decide +kernel
theorem dX8_about_1 : decode cX8_about 1 = .ok (.iconst 0, 1) := by decide +kernel
theorem dX8_about_2 : decode cX8_about 2 = .ok (.bipush 16, 2) := by decide +kernel
theorem dX8_about_4 : decode cX8_about 4 = .ok (.invokestatic 47, 3) := by decide +kernel
theorem dX8_about_7 : decode cX8_about 7 = .ok (.iload_n 1, 1) := by decide +kernel
theorem dX8_about_8 : decode cX8_about 8 = .ok (.bipush 6, 2) := by decide +kernel
theorem dX8_about_10 : decode cX8_about 10 = .ok (.if_icmp .ge 13, 3) := by decide +kernel
theorem dX8_about_13 : decode cX8_about 13 = .ok (.aload_n 0, 1) := by decide +kernel
theorem dX8_about_14 : decode cX8_about 14 = .ok (.getfield 19, 3) := by decide +kernel
theorem dX8_about_17 : decode cX8_about 17 = .ok (.getfield 82, 3) := by decide +kernel
theorem dX8_about_20 : decode cX8_about 20 = .ok (.iload_n 1, 1) := by decide +kernel
theorem dX8_about_21 : decode cX8_about 21 = .ok (.iaload, 1) := by decide +kernel
theorem dX8_about_22 : decode cX8_about 22 = .ok (.ireturn, 1) := by decide +kernel
theorem dX8_about_23 : decode cX8_about 23 = .ok (.iload_n 1, 1) := by decide +kernel
theorem dX8_about_24 : decode cX8_about 24 = .ok (.tableswitch 165 6 15 #[56, 64, 75, 83, 94, 102, 121, 132, 143, 154], 56) := by decide +kernel
theorem dX8_about_80 : decode cX8_about 80 = .ok (.aload_n 0, 1) := by decide +kernel
theorem dX8_about_81 : decode cX8_about 81 = .ok (.getfield 19, 3) := by decide +kernel
theorem dX8_about_84 : decode cX8_about 84 = .ok (.getfield 79, 3) := by decide +kernel
theorem dX8_about_87 : decode cX8_about 87 = .ok (.ireturn, 1) := by decide +kernel
theorem dX8_about_88 : decode cX8_about 88 = .ok (.aload_n 0, 1) := by decide +kernel
theorem dX8_about_89 : decode cX8_about 89 = .ok (.getfield 19, 3) := by decide +kernel
theorem dX8_about_92 : decode cX8_about 92 = .ok (.getfield 86, 3) := by decide +kernel
theorem dX8_about_95 : decode cX8_about 95 = .ok (.getfield 90, 3) := by decide +kernel
theorem dX8_about_98 : decode cX8_about 98 = .ok (.ireturn, 1) := by decide +kernel
theorem dX8_about_99 : decode cX8_about 99 = .ok (.aload_n 0, 1) := by decide +kernel
theorem dX8_about_100 : decode cX8_about 100 = .ok (.getfield 19, 3) := by decide +kernel
theorem dX8_about_103 : decode cX8_about 103 = .ok (.getfield 95, 3) := by decide +kernel
theorem dX8_about_106 : decode cX8_about 106 = .ok (.ireturn, 1) := by decide +kernel
theorem dX8_about_107 : decode cX8_about 107 = .ok (.aload_n 0, 1) := by decide +kernel
theorem dX8_about_108 : decode cX8_about 108 = .ok (.getfield 19, 3) := by decide +kernel
theorem dX8_about_111 : decode cX8_about 111 = .ok (.getfield 86, 3) := by decide +kernel
theorem dX8_about_114 : decode cX8_about 114 = .ok (.invokevirtual 98, 3) := by decide +kernel
theorem dX8_about_117 : decode cX8_about 117 = .ok (.ireturn, 1) := by decide +kernel
theorem dX8_about_118 : decode cX8_about 118 = .ok (.aload_n 0, 1) := by decide +kernel
theorem dX8_about_119 : decode cX8_about 119 = .ok (.getfield 19, 3) := by decide +kernel
theorem dX8_about_122 : decode cX8_about 122 = .ok (.getfield 101, 3) := by decide +kernel
theorem dX8_about_125 : decode cX8_about 125 = .ok (.ireturn, 1) := by decide +kernel
theorem dX8_about_126 : decode cX8_about 126 = .ok (.aload_n 0, 1) := by decide +kernel
theorem dX8_about_127 : decode cX8_about 127 = .ok (.getfield 19, 3) := by decide +kernel
theorem dX8_about_130 : decode cX8_about 130 = .ok (.getfield 104, 3) := by decide +kernel
theorem dX8_about_133 : decode cX8_about 133 = .ok (.getfield 108, 3) := by decide +kernel
theorem dX8_about_136 : decode cX8_about 136 = .ok (.ifCond .eq 7, 3) := by decide +kernel
theorem dX8_about_139 : decode cX8_about 139 = .ok (.iconst 1, 1) := by decide +kernel
theorem dX8_about_140 : decode cX8_about 140 = .ok (.goto 4, 3) := by decide +kernel
theorem dX8_about_143 : decode cX8_about 143 = .ok (.iconst 0, 1) := by decide +kernel
theorem dX8_about_144 : decode cX8_about 144 = .ok (.ireturn, 1) := by decide +kernel
theorem dX8_about_145 : decode cX8_about 145 = .ok (.aload_n 0, 1) := by decide +kernel
theorem dX8_about_146 : decode cX8_about 146 = .ok (.getfield 19, 3) := by decide +kernel
theorem dX8_about_149 : decode cX8_about 149 = .ok (.getfield 104, 3) := by decide +kernel
theorem dX8_about_152 : decode cX8_about 152 = .ok (.getfield 113, 3) := by decide +kernel
theorem dX8_about_155 : decode cX8_about 155 = .ok (.ireturn, 1) := by decide +kernel
theorem dX8_about_156 : decode cX8_about 156 = .ok (.aload_n 0, 1) := by decide +kernel
theorem dX8_about_157 : decode cX8_about 157 = .ok (.getfield 19, 3) := by decide +kernel
theorem dX8_about_160 : decode cX8_about 160 = .ok (.getfield 104, 3) := by decide +kernel
theorem dX8_about_163 : decode cX8_about 163 = .ok (.getfield 116, 3) := by decide +kernel
theorem dX8_about_166 : decode cX8_about 166 = .ok (.ireturn, 1) := by decide +kernel
theorem dX8_about_167 : decode cX8_about 167 = .ok (.aload_n 0, 1) := by decide +kernel
theorem dX8_about_168 : decode cX8_about 168 = .ok (.getfield 19, 3) := by decide +kernel
theorem dX8_about_171 : decode cX8_about 171 = .ok (.getfield 104, 3) := by decide +kernel
theorem dX8_about_174 : decode cX8_about 174 = .ok (.getfield 119, 3) := by decide +kernel
theorem dX8_about_177 : decode cX8_about 177 = .ok (.ireturn, 1) := by decide +kernel
theorem dX8_about_178 : decode cX8_about 178 = .ok (.aload_n 0, 1) := by decide +kernel
theorem dX8_about_179 : decode cX8_about 179 = .ok (.getfield 19, 3) := by decide +kernel
theorem dX8_about_182 : decode cX8_about 182 = .ok (.getfield 104, 3) := by decide +kernel
theorem dX8_about_185 : decode cX8_about 185 = .ok (.getfield 122, 3) := by decide +kernel
theorem dX8_about_188 : decode cX8_about 188 = .ok (.ireturn, 1) := by decide +kernel
theorem dX8_about_189 : decode cX8_about 189 = .ok (.aload_n 0, 1) := by decide +kernel
theorem dX8_about_190 : decode cX8_about 190 = .ok (.getfield 19, 3) := by decide +kernel
theorem dX8_about_193 : decode cX8_about 193 = .ok (.iconst 2, 1) := by decide +kernel
theorem dX8_about_194 : decode cX8_about 194 = .ok (.invokevirtual 125, 3) := by decide +kernel
theorem dX8_about_197 : decode cX8_about 197 = .ok (.ireturn, 1) := by decide +kernel
theorem dX8_boiler_0 : decode cX8_boiler 0 = .ok (.aload_n 0, 1) := by decide +kernel
theorem dX8_boiler_1 : decode cX8_boiler 1 = .ok (.iload_n 1, 1) := by decide +kernel
theorem dX8_boiler_2 : decode cX8_boiler 2 = .ok (.invokevirtual 129, 3) := by decide +kernel
theorem dX8_boiler_5 : decode cX8_boiler 5 = .ok (.iload_n 2, 1) := by decide +kernel
theorem dX8_boiler_6 : decode cX8_boiler 6 = .ok (.iconst 0, 1) := by decide +kernel
theorem dX8_boiler_7 : decode cX8_boiler 7 = .ok (.bipush 7, 2) := by decide +kernel
theorem dX8_boiler_9 : decode cX8_boiler 9 = .ok (.invokestatic 47, 3) := by decide +kernel
theorem dX8_boiler_12 : decode cX8_boiler 12 = .ok (.aload_n 0, 1) := by decide +kernel
theorem dX8_boiler_13 : decode cX8_boiler 13 = .ok (.getfield 19, 3) := by decide +kernel
theorem dX8_boiler_16 : decode cX8_boiler 16 = .ok (.getfield 133, 3) := by decide +kernel
theorem dX8_boiler_19 : decode cX8_boiler 19 = .ok (.iload_n 1, 1) := by decide +kernel
theorem dX8_boiler_20 : decode cX8_boiler 20 = .ok (.aaload, 1) := by decide +kernel
theorem dX8_boiler_21 : decode cX8_boiler 21 = .ok (.astore_n 3, 1) := by decide +kernel
theorem dX8_boiler_22 : decode cX8_boiler 22 = .ok (.iload_n 2, 1) := by decide +kernel
theorem dX8_boiler_23 : decode cX8_boiler 23 = .ok (.tableswitch 76 0 6 #[41, 46, 51, 56, 61, 66, 71], 41) := by decide +kernel
theorem dX8_boiler_64 : decode cX8_boiler 64 = .ok (.aload_n 3, 1) := by decide +kernel
theorem dX8_boiler_65 : decode cX8_boiler 65 = .ok (.getfield 137, 3) := by decide +kernel
theorem dX8_boiler_68 : decode cX8_boiler 68 = .ok (.ireturn, 1) := by decide +kernel
theorem dX8_boiler_69 : decode cX8_boiler 69 = .ok (.aload_n 3, 1) := by decide +kernel
theorem dX8_boiler_70 : decode cX8_boiler 70 = .ok (.getfield 142, 3) := by decide +kernel
theorem dX8_boiler_73 : decode cX8_boiler 73 = .ok (.ireturn, 1) := by decide +kernel
theorem dX8_boiler_74 : decode cX8_boiler 74 = .ok (.aload_n 3, 1) := by decide +kernel
theorem dX8_boiler_75 : decode cX8_boiler 75 = .ok (.getfield 145, 3) := by decide +kernel
theorem dX8_boiler_78 : decode cX8_boiler 78 = .ok (.ireturn, 1) := by decide +kernel
theorem dX8_boiler_79 : decode cX8_boiler 79 = .ok (.aload_n 3, 1) := by decide +kernel
theorem dX8_boiler_80 : decode cX8_boiler 80 = .ok (.getfield 148, 3) := by decide +kernel
theorem dX8_boiler_83 : decode cX8_boiler 83 = .ok (.ireturn, 1) := by decide +kernel
theorem dX8_boiler_84 : decode cX8_boiler 84 = .ok (.aload_n 3, 1) := by decide +kernel
theorem dX8_boiler_85 : decode cX8_boiler 85 = .ok (.getfield 151, 3) := by decide +kernel
theorem dX8_boiler_88 : decode cX8_boiler 88 = .ok (.ireturn, 1) := by decide +kernel
theorem dX8_boiler_89 : decode cX8_boiler 89 = .ok (.aload_n 3, 1) := by decide +kernel
theorem dX8_boiler_90 : decode cX8_boiler 90 = .ok (.getfield 154, 3) := by decide +kernel
theorem dX8_boiler_93 : decode cX8_boiler 93 = .ok (.ireturn, 1) := by decide +kernel
theorem dX8_boiler_94 : decode cX8_boiler 94 = .ok (.aload_n 3, 1) := by decide +kernel
theorem dX8_boiler_95 : decode cX8_boiler 95 = .ok (.getfield 157, 3) := by decide +kernel
theorem dX8_boiler_98 : decode cX8_boiler 98 = .ok (.ireturn, 1) := by decide +kernel
theorem dX8_boiler_99 : decode cX8_boiler 99 = .ok (.aload_n 0, 1) := by decide +kernel
theorem dX8_boiler_100 : decode cX8_boiler 100 = .ok (.getfield 19, 3) := by decide +kernel
theorem dX8_boiler_103 : decode cX8_boiler 103 = .ok (.aload_n 3, 1) := by decide +kernel
theorem dX8_boiler_104 : decode cX8_boiler 104 = .ok (.invokevirtual 160, 3) := by decide +kernel
theorem dX8_boiler_107 : decode cX8_boiler 107 = .ok (.ifCond .eq 7, 3) := by decide +kernel
theorem dX8_boiler_110 : decode cX8_boiler 110 = .ok (.iconst 1, 1) := by decide +kernel
theorem dX8_boiler_111 : decode cX8_boiler 111 = .ok (.goto 4, 3) := by decide +kernel
theorem dX8_boiler_114 : decode cX8_boiler 114 = .ok (.iconst 0, 1) := by decide +kernel
theorem dX8_boiler_115 : decode cX8_boiler 115 = .ok (.ireturn, 1) := by decide +kernel
theorem dX8_flue_0 : decode cX8_flue 0 = .ok (.iload_n 1, 1) := by decide +kernel
theorem dX8_flue_1 : decode cX8_flue 1 = .ok (.invokestatic 164, 3) := by decide +kernel
theorem dX8_flue_4 : decode cX8_flue 4 = .ok (.iload_n 2, 1) := by decide +kernel
theorem dX8_flue_5 : decode cX8_flue 5 = .ok (.iconst 0, 1) := by decide +kernel
theorem dX8_flue_6 : decode cX8_flue 6 = .ok (.iconst 3, 1) := by decide +kernel
theorem dX8_flue_7 : decode cX8_flue 7 = .ok (.invokestatic 47, 3) := by decide +kernel
theorem dX8_flue_10 : decode cX8_flue 10 = .ok (.aload_n 0, 1) := by decide +kernel
theorem dX8_flue_11 : decode cX8_flue 11 = .ok (.getfield 19, 3) := by decide +kernel
theorem dX8_flue_14 : decode cX8_flue 14 = .ok (.iload_n 1, 1) := by decide +kernel
theorem dX8_flue_15 : decode cX8_flue 15 = .ok (.invokevirtual 167, 3) := by decide +kernel
theorem dX8_flue_18 : decode cX8_flue 18 = .ok (.astore_n 3, 1) := by decide +kernel
theorem dX8_flue_19 : decode cX8_flue 19 = .ok (.iload_n 2, 1) := by decide +kernel
theorem dX8_flue_20 : decode cX8_flue 20 = .ok (.tableswitch 55 0 2 #[28, 33, 42], 28) := by decide +kernel
theorem dX8_flue_48 : decode cX8_flue 48 = .ok (.aload_n 3, 1) := by decide +kernel
theorem dX8_flue_49 : decode cX8_flue 49 = .ok (.getfield 171, 3) := by decide +kernel
theorem dX8_flue_52 : decode cX8_flue 52 = .ok (.ireturn, 1) := by decide +kernel
theorem dX8_flue_53 : decode cX8_flue 53 = .ok (.aload_n 0, 1) := by decide +kernel
theorem dX8_flue_54 : decode cX8_flue 54 = .ok (.getfield 19, 3) := by decide +kernel
theorem dX8_flue_57 : decode cX8_flue 57 = .ok (.iload_n 1, 1) := by decide +kernel
theorem dX8_flue_58 : decode cX8_flue 58 = .ok (.invokevirtual 176, 3) := by decide +kernel
theorem dX8_flue_61 : decode cX8_flue 61 = .ok (.ireturn, 1) := by decide +kernel
theorem dX8_flue_62 : decode cX8_flue 62 = .ok (.aload_n 3, 1) := by decide +kernel
theorem dX8_flue_63 : decode cX8_flue 63 = .ok (.getfield 179, 3) := by decide +kernel
theorem dX8_flue_66 : decode cX8_flue 66 = .ok (.ifCond .eq 7, 3) := by decide +kernel
theorem dX8_flue_69 : decode cX8_flue 69 = .ok (.iconst 1, 1) := by decide +kernel
theorem dX8_flue_70 : decode cX8_flue 70 = .ok (.goto 4, 3) := by decide +kernel
theorem dX8_flue_73 : decode cX8_flue 73 = .ok (.iconst 0, 1) := by decide +kernel
theorem dX8_flue_74 : decode cX8_flue 74 = .ok (.ireturn, 1) := by decide +kernel
theorem dX8_flue_75 : decode cX8_flue 75 = .ok (.aload_n 0, 1) := by decide +kernel
theorem dX8_flue_76 : decode cX8_flue 76 = .ok (.getfield 19, 3) := by decide +kernel
theorem dX8_flue_79 : decode cX8_flue 79 = .ok (.iload_n 1, 1) := by decide +kernel
theorem dX8_flue_80 : decode cX8_flue 80 = .ok (.invokevirtual 182, 3) := by decide +kernel
theorem dX8_flue_83 : decode cX8_flue 83 = .ok (.ireturn, 1) := by decide +kernel
theorem dX8_layer_0 : decode cX8_layer 0 = .ok (.iload_n 1, 1) := by decide +kernel
theorem dX8_layer_1 : decode cX8_layer 1 = .ok (.ifCond .lt 17, 3) := by decide +kernel
theorem dX8_layer_4 : decode cX8_layer 4 = .ok (.iload_n 1, 1) := by decide +kernel
theorem dX8_layer_5 : decode cX8_layer 5 = .ok (.aload_n 0, 1) := by decide +kernel
theorem dX8_layer_6 : decode cX8_layer 6 = .ok (.getfield 19, 3) := by decide +kernel
theorem dX8_layer_9 : decode cX8_layer 9 = .ok (.getfield 86, 3) := by decide +kernel
theorem dX8_layer_12 : decode cX8_layer 12 = .ok (.getfield 90, 3) := by decide +kernel
theorem dX8_layer_15 : decode cX8_layer 15 = .ok (.if_icmp .lt 13, 3) := by decide +kernel
theorem dX8_layer_18 : decode cX8_layer 18 = .ok (.new 185, 3) := by decide +kernel
theorem dX8_layer_21 : decode cX8_layer 21 = .ok (.dup, 1) := by decide +kernel
theorem dX8_layer_22 : decode cX8_layer 22 = .ok (.ldc 187, 2) := by decide +kernel
theorem dX8_layer_24 : decode cX8_layer 24 = .ok (.invokespecial 189, 3) := by decide +kernel
theorem dX8_layer_27 : decode cX8_layer 27 = .ok (.athrow, 1) := by decide +kernel
theorem dX8_layer_28 : decode cX8_layer 28 = .ok (.aload_n 0, 1) := by decide +kernel
theorem dX8_layer_29 : decode cX8_layer 29 = .ok (.getfield 19, 3) := by decide +kernel
theorem dX8_layer_32 : decode cX8_layer 32 = .ok (.getfield 86, 3) := by decide +kernel
theorem dX8_layer_35 : decode cX8_layer 35 = .ok (.getfield 190, 3) := by decide +kernel
theorem dX8_layer_38 : decode cX8_layer 38 = .ok (.iload_n 1, 1) := by decide +kernel
theorem dX8_layer_39 : decode cX8_layer 39 = .ok (.iaload, 1) := by decide +kernel
theorem dX8_layer_40 : decode cX8_layer 40 = .ok (.ireturn, 1) := by decide +kernel
theorem dX8_account_0 : decode cX8_account 0 = .ok (.iload_n 1, 1) := by decide +kernel
theorem dX8_account_1 : decode cX8_account 1 = .ok (.iconst 0, 1) := by decide +kernel
theorem dX8_account_2 : decode cX8_account 2 = .ok (.iconst 5, 1) := by decide +kernel
theorem dX8_account_3 : decode cX8_account 3 = .ok (.invokestatic 47, 3) := by decide +kernel
theorem dX8_account_6 : decode cX8_account 6 = .ok (.iload_n 1, 1) := by decide +kernel
theorem dX8_account_7 : decode cX8_account 7 = .ok (.tableswitch 85 0 4 #[33, 44, 55, 66, 77], 33) := by decide +kernel
theorem dX8_account_40 : decode cX8_account 40 = .ok (.aload_n 0, 1) := by decide +kernel
theorem dX8_account_41 : decode cX8_account 41 = .ok (.getfield 19, 3) := by decide +kernel
theorem dX8_account_44 : decode cX8_account 44 = .ok (.getfield 86, 3) := by decide +kernel
theorem dX8_account_47 : decode cX8_account 47 = .ok (.getfield 193, 3) := by decide +kernel
theorem dX8_account_50 : decode cX8_account 50 = .ok (.ireturn, 1) := by decide +kernel
theorem dX8_account_51 : decode cX8_account 51 = .ok (.aload_n 0, 1) := by decide +kernel
theorem dX8_account_52 : decode cX8_account 52 = .ok (.getfield 19, 3) := by decide +kernel
theorem dX8_account_55 : decode cX8_account 55 = .ok (.getfield 86, 3) := by decide +kernel
theorem dX8_account_58 : decode cX8_account 58 = .ok (.getfield 196, 3) := by decide +kernel
theorem dX8_account_61 : decode cX8_account 61 = .ok (.ireturn, 1) := by decide +kernel
theorem dX8_account_62 : decode cX8_account 62 = .ok (.aload_n 0, 1) := by decide +kernel
theorem dX8_account_63 : decode cX8_account 63 = .ok (.getfield 19, 3) := by decide +kernel
theorem dX8_account_66 : decode cX8_account 66 = .ok (.getfield 86, 3) := by decide +kernel
theorem dX8_account_69 : decode cX8_account 69 = .ok (.getfield 199, 3) := by decide +kernel
theorem dX8_account_72 : decode cX8_account 72 = .ok (.ireturn, 1) := by decide +kernel
theorem dX8_account_73 : decode cX8_account 73 = .ok (.aload_n 0, 1) := by decide +kernel
theorem dX8_account_74 : decode cX8_account 74 = .ok (.getfield 19, 3) := by decide +kernel
theorem dX8_account_77 : decode cX8_account 77 = .ok (.getfield 86, 3) := by decide +kernel
theorem dX8_account_80 : decode cX8_account 80 = .ok (.getfield 202, 3) := by decide +kernel
theorem dX8_account_83 : decode cX8_account 83 = .ok (.ireturn, 1) := by decide +kernel
theorem dX8_account_84 : decode cX8_account 84 = .ok (.aload_n 0, 1) := by decide +kernel
theorem dX8_account_85 : decode cX8_account 85 = .ok (.getfield 19, 3) := by decide +kernel
theorem dX8_account_88 : decode cX8_account 88 = .ok (.invokevirtual 205, 3) := by decide +kernel
theorem dX8_account_91 : decode cX8_account 91 = .ok (.ireturn, 1) := by decide +kernel
theorem dX8_account_92 : decode cX8_account 92 = .ok (.aload_n 0, 1) := by decide +kernel
theorem dX8_account_93 : decode cX8_account 93 = .ok (.getfield 19, 3) := by decide +kernel
theorem dX8_account_96 : decode cX8_account 96 = .ok (.getfield 86, 3) := by decide +kernel
theorem dX8_account_99 : decode cX8_account 99 = .ok (.getfield 207, 3) := by decide +kernel
theorem dX8_account_102 : decode cX8_account 102 = .ok (.ireturn, 1) := by decide +kernel
theorem dX8_tick_0 : decode cX8_tick 0 = .ok (.iload_n 1, 1) := by decide +kernel
theorem dX8_tick_1 : decode cX8_tick 1 = .ok (.iload_n 2, 1) := by decide +kernel
theorem dX8_tick_2 : decode cX8_tick 2 = .ok (.invokestatic 210, 3) := by decide +kernel
theorem dX8_tick_5 : decode cX8_tick 5 = .ok (.aload_n 0, 1) := by decide +kernel
theorem dX8_tick_6 : decode cX8_tick 6 = .ok (.getfield 29, 3) := by decide +kernel
theorem dX8_tick_9 : decode cX8_tick 9 = .ok (.aload_n 0, 1) := by decide +kernel
theorem dX8_tick_10 : decode cX8_tick 10 = .ok (.getfield 19, 3) := by decide +kernel
theorem dX8_tick_13 : decode cX8_tick 13 = .ok (.invokevirtual 214, 3) := by decide +kernel
theorem dX8_tick_16 : decode cX8_tick 16 = .ok (.aload_n 0, 1) := by decide +kernel
theorem dX8_tick_17 : decode cX8_tick 17 = .ok (.getfield 19, 3) := by decide +kernel
theorem dX8_tick_20 : decode cX8_tick 20 = .ok (.iload_n 1, 1) := by decide +kernel
theorem dX8_tick_21 : decode cX8_tick 21 = .ok (.iload_n 2, 1) := by decide +kernel
theorem dX8_tick_22 : decode cX8_tick 22 = .ok (.invokevirtual 218, 3) := by decide +kernel
theorem dX8_tick_25 : decode cX8_tick 25 = .ok (.aload_n 0, 1) := by decide +kernel
theorem dX8_tick_26 : decode cX8_tick 26 = .ok (.getfield 19, 3) := by decide +kernel
theorem dX8_tick_29 : decode cX8_tick 29 = .ok (.getfield 86, 3) := by decide +kernel
theorem dX8_tick_32 : decode cX8_tick 32 = .ok (.invokevirtual 98, 3) := by decide +kernel
theorem dX8_tick_35 : decode cX8_tick 35 = .ok (.ireturn, 1) := by decide +kernel
theorem dX8_draw_0 : decode cX8_draw 0 = .ok (.iload_n 1, 1) := by decide +kernel
theorem dX8_draw_1 : decode cX8_draw 1 = .ok (.iconst 1, 1) := by decide +kernel
theorem dX8_draw_2 : decode cX8_draw 2 = .ok (.bipush 20, 2) := by decide +kernel
theorem dX8_draw_4 : decode cX8_draw 4 = .ok (.invokestatic 47, 3) := by decide +kernel
theorem dX8_draw_7 : decode cX8_draw 7 = .ok (.aload_n 0, 1) := by decide +kernel
theorem dX8_draw_8 : decode cX8_draw 8 = .ok (.getfield 29, 3) := by decide +kernel
theorem dX8_draw_11 : decode cX8_draw 11 = .ok (.aload_n 0, 1) := by decide +kernel
theorem dX8_draw_12 : decode cX8_draw 12 = .ok (.getfield 19, 3) := by decide +kernel
theorem dX8_draw_15 : decode cX8_draw 15 = .ok (.invokevirtual 214, 3) := by decide +kernel
theorem dX8_draw_18 : decode cX8_draw 18 = .ok (.aload_n 0, 1) := by decide +kernel
theorem dX8_draw_19 : decode cX8_draw 19 = .ok (.getfield 19, 3) := by decide +kernel
theorem dX8_draw_22 : decode cX8_draw 22 = .ok (.getfield 86, 3) := by decide +kernel
theorem dX8_draw_25 : decode cX8_draw 25 = .ok (.iload_n 1, 1) := by decide +kernel
theorem dX8_draw_26 : decode cX8_draw 26 = .ok (.invokevirtual 221, 3) := by decide +kernel
theorem dX8_draw_29 : decode cX8_draw 29 = .ok (.ireturn, 1) := by decide +kernel
theorem dX8_set_0 : decode cX8_set 0 = .ok (.iload_n 1, 1) := by decide +kernel
theorem dX8_set_1 : decode cX8_set 1 = .ok (.iload_n 2, 1) := by decide +kernel
theorem dX8_set_2 : decode cX8_set 2 = .ok (.invokestatic 224, 3) := by decide +kernel
theorem dX8_set_5 : decode cX8_set 5 = .ok (.ifCond .ne 13, 3) := by decide +kernel
theorem dX8_set_8 : decode cX8_set 8 = .ok (.new 228, 3) := by decide +kernel
theorem dX8_set_11 : decode cX8_set 11 = .ok (.dup, 1) := by decide +kernel
theorem dX8_set_12 : decode cX8_set 12 = .ok (.ldc 230, 2) := by decide +kernel
theorem dX8_set_14 : decode cX8_set 14 = .ok (.invokespecial 232, 3) := by decide +kernel
theorem dX8_set_17 : decode cX8_set 17 = .ok (.athrow, 1) := by decide +kernel
theorem dX8_set_18 : decode cX8_set 18 = .ok (.aload_n 0, 1) := by decide +kernel
theorem dX8_set_19 : decode cX8_set 19 = .ok (.getfield 29, 3) := by decide +kernel
theorem dX8_set_22 : decode cX8_set 22 = .ok (.aload_n 0, 1) := by decide +kernel
theorem dX8_set_23 : decode cX8_set 23 = .ok (.getfield 19, 3) := by decide +kernel
theorem dX8_set_26 : decode cX8_set 26 = .ok (.invokevirtual 214, 3) := by decide +kernel
theorem dX8_set_29 : decode cX8_set 29 = .ok (.aload_n 0, 1) := by decide +kernel
theorem dX8_set_30 : decode cX8_set 30 = .ok (.getfield 19, 3) := by decide +kernel
theorem dX8_set_33 : decode cX8_set 33 = .ok (.getfield 82, 3) := by decide +kernel
theorem dX8_set_36 : decode cX8_set 36 = .ok (.iload_n 1, 1) := by decide +kernel
theorem dX8_set_37 : decode cX8_set 37 = .ok (.iaload, 1) := by decide +kernel
theorem dX8_set_38 : decode cX8_set 38 = .ok (.istore_n 3, 1) := by decide +kernel
theorem dX8_set_39 : decode cX8_set 39 = .ok (.aload_n 0, 1) := by decide +kernel
theorem dX8_set_40 : decode cX8_set 40 = .ok (.getfield 19, 3) := by decide +kernel
theorem dX8_set_43 : decode cX8_set 43 = .ok (.getfield 82, 3) := by decide +kernel
theorem dX8_set_46 : decode cX8_set 46 = .ok (.iload_n 1, 1) := by decide +kernel
theorem dX8_set_47 : decode cX8_set 47 = .ok (.iload_n 2, 1) := by decide +kernel
theorem dX8_set_48 : decode cX8_set 48 = .ok (.iastore, 1) := by decide +kernel
theorem dX8_set_49 : decode cX8_set 49 = .ok (.iload_n 3, 1) := by decide +kernel
theorem dX8_set_50 : decode cX8_set 50 = .ok (.ireturn, 1) := by decide +kernel
theorem dX8_setFlue_0 : decode cX8_setFlue 0 = .ok (.iload_n 1, 1) := by decide +kernel
theorem dX8_setFlue_1 : decode cX8_setFlue 1 = .ok (.invokestatic 164, 3) := by decide +kernel
theorem dX8_setFlue_4 : decode cX8_setFlue 4 = .ok (.aload_n 0, 1) := by decide +kernel
theorem dX8_setFlue_5 : decode cX8_setFlue 5 = .ok (.getfield 29, 3) := by decide +kernel
theorem dX8_setFlue_8 : decode cX8_setFlue 8 = .ok (.aload_n 0, 1) := by decide +kernel
theorem dX8_setFlue_9 : decode cX8_setFlue 9 = .ok (.getfield 19, 3) := by decide +kernel
theorem dX8_setFlue_12 : decode cX8_setFlue 12 = .ok (.invokevirtual 214, 3) := by decide +kernel
theorem dX8_setFlue_15 : decode cX8_setFlue 15 = .ok (.aload_n 0, 1) := by decide +kernel
theorem dX8_setFlue_16 : decode cX8_setFlue 16 = .ok (.getfield 19, 3) := by decide +kernel
theorem dX8_setFlue_19 : decode cX8_setFlue 19 = .ok (.iload_n 1, 1) := by decide +kernel
theorem dX8_setFlue_20 : decode cX8_setFlue 20 = .ok (.iload_n 2, 1) := by decide +kernel
theorem dX8_setFlue_21 : decode cX8_setFlue 21 = .ok (.invokevirtual 233, 3) := by decide +kernel
theorem dX8_setFlue_24 : decode cX8_setFlue 24 = .ok (.ireturn, 1) := by decide +kernel
theorem dX8_setDraft_0 : decode cX8_setDraft 0 = .ok (.iload_n 1, 1) := by decide +kernel
theorem dX8_setDraft_1 : decode cX8_setDraft 1 = .ok (.invokestatic 164, 3) := by decide +kernel
theorem dX8_setDraft_4 : decode cX8_setDraft 4 = .ok (.iload_n 2, 1) := by decide +kernel
theorem dX8_setDraft_5 : decode cX8_setDraft 5 = .ok (.iconst 0, 1) := by decide +kernel
theorem dX8_setDraft_6 : decode cX8_setDraft 6 = .ok (.bipush 99, 2) := by decide +kernel
theorem dX8_setDraft_8 : decode cX8_setDraft 8 = .ok (.invokestatic 47, 3) := by decide +kernel
theorem dX8_setDraft_11 : decode cX8_setDraft 11 = .ok (.aload_n 0, 1) := by decide +kernel
theorem dX8_setDraft_12 : decode cX8_setDraft 12 = .ok (.getfield 29, 3) := by decide +kernel
theorem dX8_setDraft_15 : decode cX8_setDraft 15 = .ok (.aload_n 0, 1) := by decide +kernel
theorem dX8_setDraft_16 : decode cX8_setDraft 16 = .ok (.getfield 19, 3) := by decide +kernel
theorem dX8_setDraft_19 : decode cX8_setDraft 19 = .ok (.invokevirtual 214, 3) := by decide +kernel
theorem dX8_setDraft_22 : decode cX8_setDraft 22 = .ok (.aload_n 0, 1) := by decide +kernel
theorem dX8_setDraft_23 : decode cX8_setDraft 23 = .ok (.getfield 19, 3) := by decide +kernel
theorem dX8_setDraft_26 : decode cX8_setDraft 26 = .ok (.iload_n 1, 1) := by decide +kernel
theorem dX8_setDraft_27 : decode cX8_setDraft 27 = .ok (.invokevirtual 167, 3) := by decide +kernel
theorem dX8_setDraft_30 : decode cX8_setDraft 30 = .ok (.astore_n 3, 1) := by decide +kernel
theorem dX8_setDraft_31 : decode cX8_setDraft 31 = .ok (.aload_n 3, 1) := by decide +kernel
theorem dX8_setDraft_32 : decode cX8_setDraft 32 = .ok (.getfield 171, 3) := by decide +kernel
theorem dX8_setDraft_35 : decode cX8_setDraft 35 = .ok (.istore 4, 2) := by decide +kernel
theorem dX8_setDraft_37 : decode cX8_setDraft 37 = .ok (.aload_n 3, 1) := by decide +kernel
theorem dX8_setDraft_38 : decode cX8_setDraft 38 = .ok (.iload_n 2, 1) := by decide +kernel
theorem dX8_setDraft_39 : decode cX8_setDraft 39 = .ok (.putfield 171, 3) := by decide +kernel
theorem dX8_setDraft_42 : decode cX8_setDraft 42 = .ok (.iload 4, 2) := by decide +kernel
theorem dX8_setDraft_44 : decode cX8_setDraft 44 = .ok (.ireturn, 1) := by decide +kernel
theorem dX8_lock_0 : decode cX8_lock 0 = .ok (.aload_n 0, 1) := by decide +kernel
theorem dX8_lock_1 : decode cX8_lock 1 = .ok (.iload_n 1, 1) := by decide +kernel
theorem dX8_lock_2 : decode cX8_lock 2 = .ok (.invokevirtual 129, 3) := by decide +kernel
theorem dX8_lock_5 : decode cX8_lock 5 = .ok (.aload_n 0, 1) := by decide +kernel
theorem dX8_lock_6 : decode cX8_lock 6 = .ok (.getfield 19, 3) := by decide +kernel
theorem dX8_lock_9 : decode cX8_lock 9 = .ok (.getfield 133, 3) := by decide +kernel
theorem dX8_lock_12 : decode cX8_lock 12 = .ok (.iload_n 1, 1) := by decide +kernel
theorem dX8_lock_13 : decode cX8_lock 13 = .ok (.aaload, 1) := by decide +kernel
theorem dX8_lock_14 : decode cX8_lock 14 = .ok (.getfield 145, 3) := by decide +kernel
theorem dX8_lock_17 : decode cX8_lock 17 = .ok (.istore_n 2, 1) := by decide +kernel
theorem dX8_lock_18 : decode cX8_lock 18 = .ok (.iload_n 2, 1) := by decide +kernel
theorem dX8_lock_19 : decode cX8_lock 19 = .ok (.iconst 4, 1) := by decide +kernel
theorem dX8_lock_20 : decode cX8_lock 20 = .ok (.if_icmp .ne 13, 3) := by decide +kernel
theorem dX8_lock_23 : decode cX8_lock 23 = .ok (.new 55, 3) := by decide +kernel
theorem dX8_lock_26 : decode cX8_lock 26 = .ok (.dup, 1) := by decide +kernel
theorem dX8_lock_27 : decode cX8_lock 27 = .ok (.ldc 237, 2) := by decide +kernel
theorem dX8_lock_29 : decode cX8_lock 29 = .ok (.invokespecial 59, 3) := by decide +kernel
theorem dX8_lock_32 : decode cX8_lock 32 = .ok (.athrow, 1) := by decide +kernel
theorem dX8_lock_33 : decode cX8_lock 33 = .ok (.aload_n 0, 1) := by decide +kernel
theorem dX8_lock_34 : decode cX8_lock 34 = .ok (.getfield 29, 3) := by decide +kernel
theorem dX8_lock_37 : decode cX8_lock 37 = .ok (.aload_n 0, 1) := by decide +kernel
theorem dX8_lock_38 : decode cX8_lock 38 = .ok (.getfield 19, 3) := by decide +kernel
theorem dX8_lock_41 : decode cX8_lock 41 = .ok (.invokevirtual 214, 3) := by decide +kernel
theorem dX8_lock_44 : decode cX8_lock 44 = .ok (.aload_n 0, 1) := by decide +kernel
theorem dX8_lock_45 : decode cX8_lock 45 = .ok (.getfield 19, 3) := by decide +kernel
theorem dX8_lock_48 : decode cX8_lock 48 = .ok (.getfield 133, 3) := by decide +kernel
theorem dX8_lock_51 : decode cX8_lock 51 = .ok (.iload_n 1, 1) := by decide +kernel
theorem dX8_lock_52 : decode cX8_lock 52 = .ok (.aaload, 1) := by decide +kernel
theorem dX8_lock_53 : decode cX8_lock 53 = .ok (.iconst 4, 1) := by decide +kernel
theorem dX8_lock_54 : decode cX8_lock 54 = .ok (.invokevirtual 239, 3) := by decide +kernel
theorem dX8_lock_57 : decode cX8_lock 57 = .ok (.iload_n 2, 1) := by decide +kernel
theorem dX8_lock_58 : decode cX8_lock 58 = .ok (.ireturn, 1) := by decide +kernel
theorem dX8_unlock_0 : decode cX8_unlock 0 = .ok (.aload_n 0, 1) := by decide +kernel
theorem dX8_unlock_1 : decode cX8_unlock 1 = .ok (.iload_n 1, 1) := by decide +kernel
theorem dX8_unlock_2 : decode cX8_unlock 2 = .ok (.invokevirtual 129, 3) := by decide +kernel
theorem dX8_unlock_5 : decode cX8_unlock 5 = .ok (.aload_n 0, 1) := by decide +kernel
theorem dX8_unlock_6 : decode cX8_unlock 6 = .ok (.getfield 19, 3) := by decide +kernel
theorem dX8_unlock_9 : decode cX8_unlock 9 = .ok (.getfield 133, 3) := by decide +kernel
theorem dX8_unlock_12 : decode cX8_unlock 12 = .ok (.iload_n 1, 1) := by decide +kernel
theorem dX8_unlock_13 : decode cX8_unlock 13 = .ok (.aaload, 1) := by decide +kernel
theorem dX8_unlock_14 : decode cX8_unlock 14 = .ok (.getfield 145, 3) := by decide +kernel
theorem dX8_unlock_17 : decode cX8_unlock 17 = .ok (.iconst 4, 1) := by decide +kernel
theorem dX8_unlock_18 : decode cX8_unlock 18 = .ok (.if_icmp .eq 13, 3) := by decide +kernel
theorem dX8_unlock_21 : decode cX8_unlock 21 = .ok (.new 55, 3) := by decide +kernel
theorem dX8_unlock_24 : decode cX8_unlock 24 = .ok (.dup, 1) := by decide +kernel
theorem dX8_unlock_25 : decode cX8_unlock 25 = .ok (.ldc 242, 2) := by decide +kernel
theorem dX8_unlock_27 : decode cX8_unlock 27 = .ok (.invokespecial 59, 3) := by decide +kernel
theorem dX8_unlock_30 : decode cX8_unlock 30 = .ok (.athrow, 1) := by decide +kernel
theorem dX8_unlock_31 : decode cX8_unlock 31 = .ok (.aload_n 0, 1) := by decide +kernel
theorem dX8_unlock_32 : decode cX8_unlock 32 = .ok (.getfield 29, 3) := by decide +kernel
theorem dX8_unlock_35 : decode cX8_unlock 35 = .ok (.aload_n 0, 1) := by decide +kernel
theorem dX8_unlock_36 : decode cX8_unlock 36 = .ok (.getfield 19, 3) := by decide +kernel
theorem dX8_unlock_39 : decode cX8_unlock 39 = .ok (.invokevirtual 214, 3) := by decide +kernel
theorem dX8_unlock_42 : decode cX8_unlock 42 = .ok (.aload_n 0, 1) := by decide +kernel
theorem dX8_unlock_43 : decode cX8_unlock 43 = .ok (.getfield 19, 3) := by decide +kernel
theorem dX8_unlock_46 : decode cX8_unlock 46 = .ok (.getfield 133, 3) := by decide +kernel
theorem dX8_unlock_49 : decode cX8_unlock 49 = .ok (.iload_n 1, 1) := by decide +kernel
theorem dX8_unlock_50 : decode cX8_unlock 50 = .ok (.aaload, 1) := by decide +kernel
theorem dX8_unlock_51 : decode cX8_unlock 51 = .ok (.iconst 0, 1) := by decide +kernel
theorem dX8_unlock_52 : decode cX8_unlock 52 = .ok (.invokevirtual 239, 3) := by decide +kernel
theorem dX8_unlock_55 : decode cX8_unlock 55 = .ok (.aload_n 0, 1) := by decide +kernel
theorem dX8_unlock_56 : decode cX8_unlock 56 = .ok (.getfield 19, 3) := by decide +kernel
theorem dX8_unlock_59 : decode cX8_unlock 59 = .ok (.iconst 4, 1) := by decide +kernel
theorem dX8_unlock_60 : decode cX8_unlock 60 = .ok (.invokevirtual 125, 3) := by decide +kernel
theorem dX8_unlock_63 : decode cX8_unlock 63 = .ok (.ireturn, 1) := by decide +kernel
theorem dX8_putOff_0 : decode cX8_putOff 0 = .ok (.aload_n 0, 1) := by decide +kernel
theorem dX8_putOff_1 : decode cX8_putOff 1 = .ok (.iload_n 1, 1) := by decide +kernel
theorem dX8_putOff_2 : decode cX8_putOff 2 = .ok (.invokevirtual 129, 3) := by decide +kernel
theorem dX8_putOff_5 : decode cX8_putOff 5 = .ok (.aload_n 0, 1) := by decide +kernel
theorem dX8_putOff_6 : decode cX8_putOff 6 = .ok (.getfield 19, 3) := by decide +kernel
theorem dX8_putOff_9 : decode cX8_putOff 9 = .ok (.getfield 133, 3) := by decide +kernel
theorem dX8_putOff_12 : decode cX8_putOff 12 = .ok (.iload_n 1, 1) := by decide +kernel
theorem dX8_putOff_13 : decode cX8_putOff 13 = .ok (.aaload, 1) := by decide +kernel
theorem dX8_putOff_14 : decode cX8_putOff 14 = .ok (.getfield 145, 3) := by decide +kernel
theorem dX8_putOff_17 : decode cX8_putOff 17 = .ok (.iconst 3, 1) := by decide +kernel
theorem dX8_putOff_18 : decode cX8_putOff 18 = .ok (.if_icmp .eq 13, 3) := by decide +kernel
theorem dX8_putOff_21 : decode cX8_putOff 21 = .ok (.new 55, 3) := by decide +kernel
theorem dX8_putOff_24 : decode cX8_putOff 24 = .ok (.dup, 1) := by decide +kernel
theorem dX8_putOff_25 : decode cX8_putOff 25 = .ok (.ldc 244, 2) := by decide +kernel
theorem dX8_putOff_27 : decode cX8_putOff 27 = .ok (.invokespecial 59, 3) := by decide +kernel
theorem dX8_putOff_30 : decode cX8_putOff 30 = .ok (.athrow, 1) := by decide +kernel
theorem dX8_putOff_31 : decode cX8_putOff 31 = .ok (.aload_n 0, 1) := by decide +kernel
theorem dX8_putOff_32 : decode cX8_putOff 32 = .ok (.getfield 29, 3) := by decide +kernel
theorem dX8_putOff_35 : decode cX8_putOff 35 = .ok (.aload_n 0, 1) := by decide +kernel
theorem dX8_putOff_36 : decode cX8_putOff 36 = .ok (.getfield 19, 3) := by decide +kernel
theorem dX8_putOff_39 : decode cX8_putOff 39 = .ok (.invokevirtual 214, 3) := by decide +kernel
theorem dX8_putOff_42 : decode cX8_putOff 42 = .ok (.aload_n 0, 1) := by decide +kernel
theorem dX8_putOff_43 : decode cX8_putOff 43 = .ok (.getfield 19, 3) := by decide +kernel
theorem dX8_putOff_46 : decode cX8_putOff 46 = .ok (.getfield 133, 3) := by decide +kernel
theorem dX8_putOff_49 : decode cX8_putOff 49 = .ok (.iload_n 1, 1) := by decide +kernel
theorem dX8_putOff_50 : decode cX8_putOff 50 = .ok (.aaload, 1) := by decide +kernel
theorem dX8_putOff_51 : decode cX8_putOff 51 = .ok (.iconst 0, 1) := by decide +kernel
theorem dX8_putOff_52 : decode cX8_putOff 52 = .ok (.invokevirtual 239, 3) := by decide +kernel
theorem dX8_putOff_55 : decode cX8_putOff 55 = .ok (.aload_n 0, 1) := by decide +kernel
theorem dX8_putOff_56 : decode cX8_putOff 56 = .ok (.getfield 19, 3) := by decide +kernel
theorem dX8_putOff_59 : decode cX8_putOff 59 = .ok (.getfield 133, 3) := by decide +kernel
theorem dX8_putOff_62 : decode cX8_putOff 62 = .ok (.iload_n 1, 1) := by decide +kernel
theorem dX8_putOff_63 : decode cX8_putOff 63 = .ok (.aaload, 1) := by decide +kernel
theorem dX8_putOff_64 : decode cX8_putOff 64 = .ok (.getfield 157, 3) := by decide +kernel
theorem dX8_putOff_67 : decode cX8_putOff 67 = .ok (.ireturn, 1) := by decide +kernel
theorem dX8_undo_0 : decode cX8_undo 0 = .ok (.aload_n 0, 1) := by decide +kernel
theorem dX8_undo_1 : decode cX8_undo 1 = .ok (.getfield 29, 3) := by decide +kernel
theorem dX8_undo_4 : decode cX8_undo 4 = .ok (.aload_n 0, 1) := by decide +kernel
theorem dX8_undo_5 : decode cX8_undo 5 = .ok (.getfield 19, 3) := by decide +kernel
theorem dX8_undo_8 : decode cX8_undo 8 = .ok (.invokevirtual 246, 3) := by decide +kernel
theorem dX8_undo_11 : decode cX8_undo 11 = .ok (.ifCond .ne 13, 3) := by decide +kernel
theorem dX8_undo_14 : decode cX8_undo 14 = .ok (.new 55, 3) := by decide +kernel
theorem dX8_undo_17 : decode cX8_undo 17 = .ok (.dup, 1) := by decide +kernel
theorem dX8_undo_18 : decode cX8_undo 18 = .ok (.ldc 250, 2) := by decide +kernel
theorem dX8_undo_20 : decode cX8_undo 20 = .ok (.invokespecial 59, 3) := by decide +kernel
theorem dX8_undo_23 : decode cX8_undo 23 = .ok (.athrow, 1) := by decide +kernel
theorem dX8_undo_24 : decode cX8_undo 24 = .ok (.aload_n 0, 1) := by decide +kernel
theorem dX8_undo_25 : decode cX8_undo 25 = .ok (.getfield 29, 3) := by decide +kernel
theorem dX8_undo_28 : decode cX8_undo 28 = .ok (.getfield 252, 3) := by decide +kernel
theorem dX8_undo_31 : decode cX8_undo 31 = .ok (.ireturn, 1) := by decide +kernel
theorem dX8_next_0 : decode cX8_next 0 = .ok (.aload_n 0, 1) := by decide +kernel
theorem dX8_next_1 : decode cX8_next 1 = .ok (.getfield 19, 3) := by decide +kernel
theorem dX8_next_4 : decode cX8_next 4 = .ok (.invokevirtual 253, 3) := by decide +kernel
theorem dX8_next_7 : decode cX8_next 7 = .ok (.ireturn, 1) := by decide +kernel
theorem dX8_whyNot_0 : decode cX8_whyNot 0 = .ok (.aload_n 0, 1) := by decide +kernel
theorem dX8_whyNot_1 : decode cX8_whyNot 1 = .ok (.iload_n 1, 1) := by decide +kernel
theorem dX8_whyNot_2 : decode cX8_whyNot 2 = .ok (.invokevirtual 129, 3) := by decide +kernel
theorem dX8_whyNot_5 : decode cX8_whyNot 5 = .ok (.aload_n 0, 1) := by decide +kernel
theorem dX8_whyNot_6 : decode cX8_whyNot 6 = .ok (.getfield 19, 3) := by decide +kernel
theorem dX8_whyNot_9 : decode cX8_whyNot 9 = .ok (.getfield 133, 3) := by decide +kernel
theorem dX8_whyNot_12 : decode cX8_whyNot 12 = .ok (.iload_n 1, 1) := by decide +kernel
theorem dX8_whyNot_13 : decode cX8_whyNot 13 = .ok (.aaload, 1) := by decide +kernel
theorem dX8_whyNot_14 : decode cX8_whyNot 14 = .ok (.astore_n 2, 1) := by decide +kernel
theorem dX8_whyNot_15 : decode cX8_whyNot 15 = .ok (.aload_n 2, 1) := by decide +kernel
theorem dX8_whyNot_16 : decode cX8_whyNot 16 = .ok (.getfield 145, 3) := by decide +kernel
theorem dX8_whyNot_19 : decode cX8_whyNot 19 = .ok (.iconst 4, 1) := by decide +kernel
theorem dX8_whyNot_20 : decode cX8_whyNot 20 = .ok (.if_icmp .ne 5, 3) := by decide +kernel
theorem dX8_whyNot_23 : decode cX8_whyNot 23 = .ok (.iconst 2, 1) := by decide +kernel
theorem dX8_whyNot_24 : decode cX8_whyNot 24 = .ok (.ireturn, 1) := by decide +kernel
theorem dX8_whyNot_25 : decode cX8_whyNot 25 = .ok (.aload_n 2, 1) := by decide +kernel
theorem dX8_whyNot_26 : decode cX8_whyNot 26 = .ok (.invokevirtual 256, 3) := by decide +kernel
theorem dX8_whyNot_29 : decode cX8_whyNot 29 = .ok (.ifCond .ne 5, 3) := by decide +kernel
theorem dX8_whyNot_32 : decode cX8_whyNot 32 = .ok (.iconst 1, 1) := by decide +kernel
theorem dX8_whyNot_33 : decode cX8_whyNot 33 = .ok (.ireturn, 1) := by decide +kernel
theorem dX8_whyNot_34 : decode cX8_whyNot 34 = .ok (.aload_n 0, 1) := by decide +kernel
theorem dX8_whyNot_35 : decode cX8_whyNot 35 = .ok (.getfield 19, 3) := by decide +kernel
theorem dX8_whyNot_38 : decode cX8_whyNot 38 = .ok (.aload_n 2, 1) := by decide +kernel
theorem dX8_whyNot_39 : decode cX8_whyNot 39 = .ok (.getfield 142, 3) := by decide +kernel
theorem dX8_whyNot_42 : decode cX8_whyNot 42 = .ok (.invokevirtual 167, 3) := by decide +kernel
theorem dX8_whyNot_45 : decode cX8_whyNot 45 = .ok (.getfield 179, 3) := by decide +kernel
theorem dX8_whyNot_48 : decode cX8_whyNot 48 = .ok (.ifCond .ne 5, 3) := by decide +kernel
theorem dX8_whyNot_51 : decode cX8_whyNot 51 = .ok (.iconst 3, 1) := by decide +kernel
theorem dX8_whyNot_52 : decode cX8_whyNot 52 = .ok (.ireturn, 1) := by decide +kernel
theorem dX8_whyNot_53 : decode cX8_whyNot 53 = .ok (.aload_n 0, 1) := by decide +kernel
theorem dX8_whyNot_54 : decode cX8_whyNot 54 = .ok (.getfield 19, 3) := by decide +kernel
theorem dX8_whyNot_57 : decode cX8_whyNot 57 = .ok (.aload_n 2, 1) := by decide +kernel
theorem dX8_whyNot_58 : decode cX8_whyNot 58 = .ok (.invokevirtual 160, 3) := by decide +kernel
theorem dX8_whyNot_61 : decode cX8_whyNot 61 = .ok (.ifCond .eq 7, 3) := by decide +kernel
theorem dX8_whyNot_64 : decode cX8_whyNot 64 = .ok (.iconst 0, 1) := by decide +kernel
theorem dX8_whyNot_65 : decode cX8_whyNot 65 = .ok (.goto 4, 3) := by decide +kernel
theorem dX8_whyNot_68 : decode cX8_whyNot 68 = .ok (.iconst 4, 1) := by decide +kernel
theorem dX8_whyNot_69 : decode cX8_whyNot 69 = .ok (.ireturn, 1) := by decide +kernel
theorem dX8_smallestSet_0 : decode cX8_smallestSet 0 = .ok (.iload_n 1, 1) := by decide +kernel
theorem dX8_smallestSet_1 : decode cX8_smallestSet 1 = .ok (.iconst 1, 1) := by decide +kernel
theorem dX8_smallestSet_2 : decode cX8_smallestSet 2 = .ok (.sipush 150, 3) := by decide +kernel
theorem dX8_smallestSet_5 : decode cX8_smallestSet 5 = .ok (.invokestatic 47, 3) := by decide +kernel
theorem dX8_smallestSet_8 : decode cX8_smallestSet 8 = .ok (.iconst 0, 1) := by decide +kernel
theorem dX8_smallestSet_9 : decode cX8_smallestSet 9 = .ok (.istore_n 3, 1) := by decide +kernel
theorem dX8_smallestSet_10 : decode cX8_smallestSet 10 = .ok (.iconst 1, 1) := by decide +kernel
theorem dX8_smallestSet_11 : decode cX8_smallestSet 11 = .ok (.istore 4, 2) := by decide +kernel
theorem dX8_smallestSet_13 : decode cX8_smallestSet 13 = .ok (.iload 4, 2) := by decide +kernel
theorem dX8_smallestSet_15 : decode cX8_smallestSet 15 = .ok (.iconst 1, 1) := by decide +kernel
theorem dX8_smallestSet_16 : decode cX8_smallestSet 16 = .ok (.aload_n 0, 1) := by decide +kernel
theorem dX8_smallestSet_17 : decode cX8_smallestSet 17 = .ok (.getfield 19, 3) := by decide +kernel
theorem dX8_smallestSet_20 : decode cX8_smallestSet 20 = .ok (.getfield 79, 3) := by decide +kernel
theorem dX8_smallestSet_23 : decode cX8_smallestSet 23 = .ok (.ishl, 1) := by decide +kernel
theorem dX8_smallestSet_24 : decode cX8_smallestSet 24 = .ok (.if_icmp .ge 66, 3) := by decide +kernel
theorem dX8_smallestSet_27 : decode cX8_smallestSet 27 = .ok (.aload_n 0, 1) := by decide +kernel
theorem dX8_smallestSet_28 : decode cX8_smallestSet 28 = .ok (.getfield 19, 3) := by decide +kernel
theorem dX8_smallestSet_31 : decode cX8_smallestSet 31 = .ok (.iload 4, 2) := by decide +kernel
theorem dX8_smallestSet_33 : decode cX8_smallestSet 33 = .ok (.invokevirtual 260, 3) := by decide +kernel
theorem dX8_smallestSet_36 : decode cX8_smallestSet 36 = .ok (.iload_n 1, 1) := by decide +kernel
theorem dX8_smallestSet_37 : decode cX8_smallestSet 37 = .ok (.if_icmp .lt 19, 3) := by decide +kernel
theorem dX8_smallestSet_40 : decode cX8_smallestSet 40 = .ok (.aload_n 0, 1) := by decide +kernel
theorem dX8_smallestSet_41 : decode cX8_smallestSet 41 = .ok (.getfield 19, 3) := by decide +kernel
theorem dX8_smallestSet_44 : decode cX8_smallestSet 44 = .ok (.iload 4, 2) := by decide +kernel
theorem dX8_smallestSet_46 : decode cX8_smallestSet 46 = .ok (.invokevirtual 263, 3) := by decide +kernel
theorem dX8_smallestSet_49 : decode cX8_smallestSet 49 = .ok (.ifCond .eq 7, 3) := by decide +kernel
theorem dX8_smallestSet_52 : decode cX8_smallestSet 52 = .ok (.iconst 1, 1) := by decide +kernel
theorem dX8_smallestSet_53 : decode cX8_smallestSet 53 = .ok (.goto 4, 3) := by decide +kernel
theorem dX8_smallestSet_56 : decode cX8_smallestSet 56 = .ok (.iconst 0, 1) := by decide +kernel
theorem dX8_smallestSet_57 : decode cX8_smallestSet 57 = .ok (.istore 5, 2) := by decide +kernel
theorem dX8_smallestSet_59 : decode cX8_smallestSet 59 = .ok (.iload 5, 2) := by decide +kernel
theorem dX8_smallestSet_61 : decode cX8_smallestSet 61 = .ok (.ifCond .eq 23, 3) := by decide +kernel
theorem dX8_smallestSet_64 : decode cX8_smallestSet 64 = .ok (.iload_n 3, 1) := by decide +kernel
theorem dX8_smallestSet_65 : decode cX8_smallestSet 65 = .ok (.ifCond .eq 16, 3) := by decide +kernel
theorem dX8_smallestSet_68 : decode cX8_smallestSet 68 = .ok (.aload_n 0, 1) := by decide +kernel
theorem dX8_smallestSet_69 : decode cX8_smallestSet 69 = .ok (.getfield 19, 3) := by decide +kernel
theorem dX8_smallestSet_72 : decode cX8_smallestSet 72 = .ok (.iload 4, 2) := by decide +kernel
theorem dX8_smallestSet_74 : decode cX8_smallestSet 74 = .ok (.iload_n 3, 1) := by decide +kernel
theorem dX8_smallestSet_75 : decode cX8_smallestSet 75 = .ok (.invokevirtual 266, 3) := by decide +kernel
theorem dX8_smallestSet_78 : decode cX8_smallestSet 78 = .ok (.ifCond .eq 6, 3) := by decide +kernel
theorem dX8_smallestSet_81 : decode cX8_smallestSet 81 = .ok (.iload 4, 2) := by decide +kernel
theorem dX8_smallestSet_83 : decode cX8_smallestSet 83 = .ok (.istore_n 3, 1) := by decide +kernel
theorem dX8_smallestSet_84 : decode cX8_smallestSet 84 = .ok (.iinc 4 1, 3) := by decide +kernel
theorem dX8_smallestSet_87 : decode cX8_smallestSet 87 = .ok (.goto (-74), 3) := by decide +kernel
theorem dX8_smallestSet_90 : decode cX8_smallestSet 90 = .ok (.iload_n 3, 1) := by decide +kernel
theorem dX8_smallestSet_91 : decode cX8_smallestSet 91 = .ok (.ifCond .ne 6, 3) := by decide +kernel
theorem dX8_smallestSet_94 : decode cX8_smallestSet 94 = .ok (.bipush (-9), 2) := by decide +kernel
theorem dX8_smallestSet_96 : decode cX8_smallestSet 96 = .ok (.ireturn, 1) := by decide +kernel
theorem dX8_smallestSet_97 : decode cX8_smallestSet 97 = .ok (.iload_n 2, 1) := by decide +kernel
theorem dX8_smallestSet_98 : decode cX8_smallestSet 98 = .ok (.ifCond .eq 7, 3) := by decide +kernel
theorem dX8_smallestSet_101 : decode cX8_smallestSet 101 = .ok (.iload_n 3, 1) := by decide +kernel
theorem dX8_smallestSet_102 : decode cX8_smallestSet 102 = .ok (.goto 11, 3) := by decide +kernel
theorem dX8_smallestSet_105 : decode cX8_smallestSet 105 = .ok (.aload_n 0, 1) := by decide +kernel
theorem dX8_smallestSet_106 : decode cX8_smallestSet 106 = .ok (.getfield 19, 3) := by decide +kernel
theorem dX8_smallestSet_109 : decode cX8_smallestSet 109 = .ok (.iload_n 3, 1) := by decide +kernel
theorem dX8_smallestSet_110 : decode cX8_smallestSet 110 = .ok (.invokevirtual 260, 3) := by decide +kernel
theorem dX8_smallestSet_113 : decode cX8_smallestSet 113 = .ok (.ireturn, 1) := by decide +kernel
theorem dX8_ahead_0 : decode cX8_ahead 0 = .ok (.iload_n 1, 1) := by decide +kernel
theorem dX8_ahead_1 : decode cX8_ahead 1 = .ok (.iload_n 2, 1) := by decide +kernel
theorem dX8_ahead_2 : decode cX8_ahead 2 = .ok (.invokestatic 210, 3) := by decide +kernel
theorem dX8_ahead_5 : decode cX8_ahead 5 = .ok (.iload_n 3, 1) := by decide +kernel
theorem dX8_ahead_6 : decode cX8_ahead 6 = .ok (.iconst 0, 1) := by decide +kernel
theorem dX8_ahead_7 : decode cX8_ahead 7 = .ok (.bipush 6, 2) := by decide +kernel
theorem dX8_ahead_9 : decode cX8_ahead 9 = .ok (.invokestatic 47, 3) := by decide +kernel
theorem dX8_ahead_12 : decode cX8_ahead 12 = .ok (.aload_n 0, 1) := by decide +kernel
theorem dX8_ahead_13 : decode cX8_ahead 13 = .ok (.getfield 23, 3) := by decide +kernel
theorem dX8_ahead_16 : decode cX8_ahead 16 = .ok (.aload_n 0, 1) := by decide +kernel
theorem dX8_ahead_17 : decode cX8_ahead 17 = .ok (.getfield 19, 3) := by decide +kernel
theorem dX8_ahead_20 : decode cX8_ahead 20 = .ok (.invokevirtual 269, 3) := by decide +kernel
theorem dX8_ahead_23 : decode cX8_ahead 23 = .ok (.bipush 99, 2) := by decide +kernel
theorem dX8_ahead_25 : decode cX8_ahead 25 = .ok (.istore 4, 2) := by decide +kernel
theorem dX8_ahead_27 : decode cX8_ahead 27 = .ok (.iconst 0, 1) := by decide +kernel
theorem dX8_ahead_28 : decode cX8_ahead 28 = .ok (.istore 5, 2) := by decide +kernel
theorem dX8_ahead_30 : decode cX8_ahead 30 = .ok (.iload 5, 2) := by decide +kernel
theorem dX8_ahead_32 : decode cX8_ahead 32 = .ok (.iload_n 1, 1) := by decide +kernel
theorem dX8_ahead_33 : decode cX8_ahead 33 = .ok (.if_icmp .ge 35, 3) := by decide +kernel
theorem dX8_ahead_36 : decode cX8_ahead 36 = .ok (.aload_n 0, 1) := by decide +kernel
theorem dX8_ahead_37 : decode cX8_ahead 37 = .ok (.getfield 23, 3) := by decide +kernel
theorem dX8_ahead_40 : decode cX8_ahead 40 = .ok (.iconst 1, 1) := by decide +kernel
theorem dX8_ahead_41 : decode cX8_ahead 41 = .ok (.iload_n 2, 1) := by decide +kernel
theorem dX8_ahead_42 : decode cX8_ahead 42 = .ok (.invokevirtual 218, 3) := by decide +kernel
theorem dX8_ahead_45 : decode cX8_ahead 45 = .ok (.iload 4, 2) := by decide +kernel
theorem dX8_ahead_47 : decode cX8_ahead 47 = .ok (.aload_n 0, 1) := by decide +kernel
theorem dX8_ahead_48 : decode cX8_ahead 48 = .ok (.getfield 23, 3) := by decide +kernel
theorem dX8_ahead_51 : decode cX8_ahead 51 = .ok (.getfield 86, 3) := by decide +kernel
theorem dX8_ahead_54 : decode cX8_ahead 54 = .ok (.invokevirtual 98, 3) := by decide +kernel
theorem dX8_ahead_57 : decode cX8_ahead 57 = .ok (.invokestatic 272, 3) := by decide +kernel
theorem dX8_ahead_60 : decode cX8_ahead 60 = .ok (.istore 4, 2) := by decide +kernel
theorem dX8_ahead_62 : decode cX8_ahead 62 = .ok (.iinc 5 1, 3) := by decide +kernel
theorem dX8_ahead_65 : decode cX8_ahead 65 = .ok (.goto (-35), 3) := by decide +kernel
theorem dX8_ahead_68 : decode cX8_ahead 68 = .ok (.iload_n 3, 1) := by decide +kernel
theorem dX8_ahead_69 : decode cX8_ahead 69 = .ok (.tableswitch 137 0 5 #[39, 50, 61, 83, 99, 115], 39) := by decide +kernel
theorem dX8_ahead_108 : decode cX8_ahead 108 = .ok (.aload_n 0, 1) := by decide +kernel
theorem dX8_ahead_109 : decode cX8_ahead 109 = .ok (.getfield 23, 3) := by decide +kernel
theorem dX8_ahead_112 : decode cX8_ahead 112 = .ok (.getfield 86, 3) := by decide +kernel
theorem dX8_ahead_115 : decode cX8_ahead 115 = .ok (.invokevirtual 98, 3) := by decide +kernel
theorem dX8_ahead_118 : decode cX8_ahead 118 = .ok (.ireturn, 1) := by decide +kernel
theorem dX8_ahead_119 : decode cX8_ahead 119 = .ok (.aload_n 0, 1) := by decide +kernel
theorem dX8_ahead_120 : decode cX8_ahead 120 = .ok (.getfield 23, 3) := by decide +kernel
theorem dX8_ahead_123 : decode cX8_ahead 123 = .ok (.getfield 86, 3) := by decide +kernel
theorem dX8_ahead_126 : decode cX8_ahead 126 = .ok (.invokevirtual 278, 3) := by decide +kernel
theorem dX8_ahead_129 : decode cX8_ahead 129 = .ok (.ireturn, 1) := by decide +kernel
theorem dX8_ahead_130 : decode cX8_ahead 130 = .ok (.aload_n 0, 1) := by decide +kernel
theorem dX8_ahead_131 : decode cX8_ahead 131 = .ok (.getfield 23, 3) := by decide +kernel
theorem dX8_ahead_134 : decode cX8_ahead 134 = .ok (.getfield 86, 3) := by decide +kernel
theorem dX8_ahead_137 : decode cX8_ahead 137 = .ok (.getfield 199, 3) := by decide +kernel
theorem dX8_ahead_140 : decode cX8_ahead 140 = .ok (.aload_n 0, 1) := by decide +kernel
theorem dX8_ahead_141 : decode cX8_ahead 141 = .ok (.getfield 19, 3) := by decide +kernel
theorem dX8_ahead_144 : decode cX8_ahead 144 = .ok (.getfield 86, 3) := by decide +kernel
theorem dX8_ahead_147 : decode cX8_ahead 147 = .ok (.getfield 199, 3) := by decide +kernel
theorem dX8_ahead_150 : decode cX8_ahead 150 = .ok (.isub, 1) := by decide +kernel
theorem dX8_ahead_151 : decode cX8_ahead 151 = .ok (.ireturn, 1) := by decide +kernel
theorem dX8_ahead_152 : decode cX8_ahead 152 = .ok (.aload_n 0, 1) := by decide +kernel
theorem dX8_ahead_153 : decode cX8_ahead 153 = .ok (.getfield 23, 3) := by decide +kernel
theorem dX8_ahead_156 : decode cX8_ahead 156 = .ok (.invokevirtual 205, 3) := by decide +kernel
theorem dX8_ahead_159 : decode cX8_ahead 159 = .ok (.aload_n 0, 1) := by decide +kernel
theorem dX8_ahead_160 : decode cX8_ahead 160 = .ok (.getfield 19, 3) := by decide +kernel
theorem dX8_ahead_163 : decode cX8_ahead 163 = .ok (.invokevirtual 205, 3) := by decide +kernel
theorem dX8_ahead_166 : decode cX8_ahead 166 = .ok (.isub, 1) := by decide +kernel
theorem dX8_ahead_167 : decode cX8_ahead 167 = .ok (.ireturn, 1) := by decide +kernel
theorem dX8_ahead_168 : decode cX8_ahead 168 = .ok (.aload_n 0, 1) := by decide +kernel
theorem dX8_ahead_169 : decode cX8_ahead 169 = .ok (.getfield 23, 3) := by decide +kernel
theorem dX8_ahead_172 : decode cX8_ahead 172 = .ok (.invokevirtual 281, 3) := by decide +kernel
theorem dX8_ahead_175 : decode cX8_ahead 175 = .ok (.aload_n 0, 1) := by decide +kernel
theorem dX8_ahead_176 : decode cX8_ahead 176 = .ok (.getfield 19, 3) := by decide +kernel
theorem dX8_ahead_179 : decode cX8_ahead 179 = .ok (.invokevirtual 281, 3) := by decide +kernel
theorem dX8_ahead_182 : decode cX8_ahead 182 = .ok (.isub, 1) := by decide +kernel
theorem dX8_ahead_183 : decode cX8_ahead 183 = .ok (.ireturn, 1) := by decide +kernel
theorem dX8_ahead_184 : decode cX8_ahead 184 = .ok (.aload_n 0, 1) := by decide +kernel
theorem dX8_ahead_185 : decode cX8_ahead 185 = .ok (.getfield 23, 3) := by decide +kernel
theorem dX8_ahead_188 : decode cX8_ahead 188 = .ok (.getfield 104, 3) := by decide +kernel
theorem dX8_ahead_191 : decode cX8_ahead 191 = .ok (.getfield 119, 3) := by decide +kernel
theorem dX8_ahead_194 : decode cX8_ahead 194 = .ok (.aload_n 0, 1) := by decide +kernel
theorem dX8_ahead_195 : decode cX8_ahead 195 = .ok (.getfield 19, 3) := by decide +kernel
theorem dX8_ahead_198 : decode cX8_ahead 198 = .ok (.getfield 104, 3) := by decide +kernel
theorem dX8_ahead_201 : decode cX8_ahead 201 = .ok (.getfield 119, 3) := by decide +kernel
theorem dX8_ahead_204 : decode cX8_ahead 204 = .ok (.isub, 1) := by decide +kernel
theorem dX8_ahead_205 : decode cX8_ahead 205 = .ok (.ireturn, 1) := by decide +kernel
theorem dX8_ahead_206 : decode cX8_ahead 206 = .ok (.iload 4, 2) := by decide +kernel
theorem dX8_ahead_208 : decode cX8_ahead 208 = .ok (.ireturn, 1) := by decide +kernel
theorem dX8_warmAfter_0 : decode cX8_warmAfter 0 = .ok (.iload_n 1, 1) := by decide +kernel
theorem dX8_warmAfter_1 : decode cX8_warmAfter 1 = .ok (.iconst 0, 1) := by decide +kernel
theorem dX8_warmAfter_2 : decode cX8_warmAfter 2 = .ok (.bipush 99, 2) := by decide +kernel
theorem dX8_warmAfter_4 : decode cX8_warmAfter 4 = .ok (.invokestatic 47, 3) := by decide +kernel
theorem dX8_warmAfter_7 : decode cX8_warmAfter 7 = .ok (.iload_n 2, 1) := by decide +kernel
theorem dX8_warmAfter_8 : decode cX8_warmAfter 8 = .ok (.iconst 0, 1) := by decide +kernel
theorem dX8_warmAfter_9 : decode cX8_warmAfter 9 = .ok (.iconst 5, 1) := by decide +kernel
theorem dX8_warmAfter_10 : decode cX8_warmAfter 10 = .ok (.invokestatic 47, 3) := by decide +kernel
theorem dX8_warmAfter_13 : decode cX8_warmAfter 13 = .ok (.aload_n 0, 1) := by decide +kernel
theorem dX8_warmAfter_14 : decode cX8_warmAfter 14 = .ok (.getfield 23, 3) := by decide +kernel
theorem dX8_warmAfter_17 : decode cX8_warmAfter 17 = .ok (.aload_n 0, 1) := by decide +kernel
theorem dX8_warmAfter_18 : decode cX8_warmAfter 18 = .ok (.getfield 19, 3) := by decide +kernel
theorem dX8_warmAfter_21 : decode cX8_warmAfter 21 = .ok (.invokevirtual 269, 3) := by decide +kernel
theorem dX8_warmAfter_24 : decode cX8_warmAfter 24 = .ok (.iconst 0, 1) := by decide +kernel
theorem dX8_warmAfter_25 : decode cX8_warmAfter 25 = .ok (.istore_n 3, 1) := by decide +kernel
theorem dX8_warmAfter_26 : decode cX8_warmAfter 26 = .ok (.iload_n 3, 1) := by decide +kernel
theorem dX8_warmAfter_27 : decode cX8_warmAfter 27 = .ok (.sipush 200, 3) := by decide +kernel
theorem dX8_warmAfter_30 : decode cX8_warmAfter 30 = .ok (.if_icmp .ge 34, 3) := by decide +kernel
theorem dX8_warmAfter_33 : decode cX8_warmAfter 33 = .ok (.aload_n 0, 1) := by decide +kernel
theorem dX8_warmAfter_34 : decode cX8_warmAfter 34 = .ok (.getfield 23, 3) := by decide +kernel
theorem dX8_warmAfter_37 : decode cX8_warmAfter 37 = .ok (.getfield 86, 3) := by decide +kernel
theorem dX8_warmAfter_40 : decode cX8_warmAfter 40 = .ok (.invokevirtual 98, 3) := by decide +kernel
theorem dX8_warmAfter_43 : decode cX8_warmAfter 43 = .ok (.iload_n 1, 1) := by decide +kernel
theorem dX8_warmAfter_44 : decode cX8_warmAfter 44 = .ok (.if_icmp .lt 5, 3) := by decide +kernel
theorem dX8_warmAfter_47 : decode cX8_warmAfter 47 = .ok (.iload_n 3, 1) := by decide +kernel
theorem dX8_warmAfter_48 : decode cX8_warmAfter 48 = .ok (.ireturn, 1) := by decide +kernel
theorem dX8_warmAfter_49 : decode cX8_warmAfter 49 = .ok (.aload_n 0, 1) := by decide +kernel
theorem dX8_warmAfter_50 : decode cX8_warmAfter 50 = .ok (.getfield 23, 3) := by decide +kernel
theorem dX8_warmAfter_53 : decode cX8_warmAfter 53 = .ok (.iconst 1, 1) := by decide +kernel
theorem dX8_warmAfter_54 : decode cX8_warmAfter 54 = .ok (.iload_n 2, 1) := by decide +kernel
theorem dX8_warmAfter_55 : decode cX8_warmAfter 55 = .ok (.invokevirtual 218, 3) := by decide +kernel
theorem dX8_warmAfter_58 : decode cX8_warmAfter 58 = .ok (.iinc 3 1, 3) := by decide +kernel
theorem dX8_warmAfter_61 : decode cX8_warmAfter 61 = .ok (.goto (-35), 3) := by decide +kernel
theorem dX8_warmAfter_64 : decode cX8_warmAfter 64 = .ok (.aload_n 0, 1) := by decide +kernel
theorem dX8_warmAfter_65 : decode cX8_warmAfter 65 = .ok (.getfield 23, 3) := by decide +kernel
theorem dX8_warmAfter_68 : decode cX8_warmAfter 68 = .ok (.getfield 86, 3) := by decide +kernel
theorem dX8_warmAfter_71 : decode cX8_warmAfter 71 = .ok (.invokevirtual 98, 3) := by decide +kernel
theorem dX8_warmAfter_74 : decode cX8_warmAfter 74 = .ok (.iload_n 1, 1) := by decide +kernel
theorem dX8_warmAfter_75 : decode cX8_warmAfter 75 = .ok (.if_icmp .lt 9, 3) := by decide +kernel
theorem dX8_warmAfter_78 : decode cX8_warmAfter 78 = .ok (.sipush 200, 3) := by decide +kernel
theorem dX8_warmAfter_81 : decode cX8_warmAfter 81 = .ok (.goto 5, 3) := by decide +kernel
theorem dX8_warmAfter_84 : decode cX8_warmAfter 84 = .ok (.bipush (-9), 2) := by decide +kernel
theorem dX8_warmAfter_86 : decode cX8_warmAfter 86 = .ok (.ireturn, 1) := by decide +kernel
theorem dX8_bearable_0 : decode cX8_bearable 0 = .ok (.iload_n 1, 1) := by decide +kernel
theorem dX8_bearable_1 : decode cX8_bearable 1 = .ok (.iconst 1, 1) := by decide +kernel
theorem dX8_bearable_2 : decode cX8_bearable 2 = .ok (.bipush 96, 2) := by decide +kernel
theorem dX8_bearable_4 : decode cX8_bearable 4 = .ok (.invokestatic 47, 3) := by decide +kernel
theorem dX8_bearable_7 : decode cX8_bearable 7 = .ok (.iload_n 2, 1) := by decide +kernel
theorem dX8_bearable_8 : decode cX8_bearable 8 = .ok (.bipush 10, 2) := by decide +kernel
theorem dX8_bearable_10 : decode cX8_bearable 10 = .ok (.bipush 80, 2) := by decide +kernel
theorem dX8_bearable_12 : decode cX8_bearable 12 = .ok (.invokestatic 47, 3) := by decide +kernel
theorem dX8_bearable_15 : decode cX8_bearable 15 = .ok (.iconst 5, 1) := by decide +kernel
theorem dX8_bearable_16 : decode cX8_bearable 16 = .ok (.istore_n 3, 1) := by decide +kernel
theorem dX8_bearable_17 : decode cX8_bearable 17 = .ok (.iload_n 3, 1) := by decide +kernel
theorem dX8_bearable_18 : decode cX8_bearable 18 = .ok (.ifCond .lt 21, 3) := by decide +kernel
theorem dX8_bearable_21 : decode cX8_bearable 21 = .ok (.aload_n 0, 1) := by decide +kernel
theorem dX8_bearable_22 : decode cX8_bearable 22 = .ok (.iload_n 1, 1) := by decide +kernel
theorem dX8_bearable_23 : decode cX8_bearable 23 = .ok (.iload_n 3, 1) := by decide +kernel
theorem dX8_bearable_24 : decode cX8_bearable 24 = .ok (.iload_n 2, 1) := by decide +kernel
theorem dX8_bearable_25 : decode cX8_bearable 25 = .ok (.invokevirtual 283, 3) := by decide +kernel
theorem dX8_bearable_28 : decode cX8_bearable 28 = .ok (.ifCond .eq 5, 3) := by decide +kernel
theorem dX8_bearable_31 : decode cX8_bearable 31 = .ok (.iload_n 3, 1) := by decide +kernel
theorem dX8_bearable_32 : decode cX8_bearable 32 = .ok (.ireturn, 1) := by decide +kernel
theorem dX8_bearable_33 : decode cX8_bearable 33 = .ok (.iinc 3 (-1), 3) := by decide +kernel
theorem dX8_bearable_36 : decode cX8_bearable 36 = .ok (.goto (-19), 3) := by decide +kernel
theorem dX8_bearable_39 : decode cX8_bearable 39 = .ok (.bipush (-9), 2) := by decide +kernel
theorem dX8_bearable_41 : decode cX8_bearable 41 = .ok (.ireturn, 1) := by decide +kernel
theorem dX8_cheapestPurge_0 : decode cX8_cheapestPurge 0 = .ok (.iload_n 1, 1) := by decide +kernel
theorem dX8_cheapestPurge_1 : decode cX8_cheapestPurge 1 = .ok (.iload_n 2, 1) := by decide +kernel
theorem dX8_cheapestPurge_2 : decode cX8_cheapestPurge 2 = .ok (.invokestatic 210, 3) := by decide +kernel
theorem dX8_cheapestPurge_5 : decode cX8_cheapestPurge 5 = .ok (.bipush (-9), 2) := by decide +kernel
theorem dX8_cheapestPurge_7 : decode cX8_cheapestPurge 7 = .ok (.istore_n 3, 1) := by decide +kernel
theorem dX8_cheapestPurge_8 : decode cX8_cheapestPurge 8 = .ok (.iconst 0, 1) := by decide +kernel
theorem dX8_cheapestPurge_9 : decode cX8_cheapestPurge 9 = .ok (.istore 4, 2) := by decide +kernel
theorem dX8_cheapestPurge_11 : decode cX8_cheapestPurge 11 = .ok (.getstatic 287, 3) := by decide +kernel
theorem dX8_cheapestPurge_14 : decode cX8_cheapestPurge 14 = .ok (.iconst 2, 1) := by decide +kernel
theorem dX8_cheapestPurge_15 : decode cX8_cheapestPurge 15 = .ok (.iaload, 1) := by decide +kernel
theorem dX8_cheapestPurge_16 : decode cX8_cheapestPurge 16 = .ok (.istore 5, 2) := by decide +kernel
theorem dX8_cheapestPurge_18 : decode cX8_cheapestPurge 18 = .ok (.iload 5, 2) := by decide +kernel
theorem dX8_cheapestPurge_20 : decode cX8_cheapestPurge 20 = .ok (.getstatic 290, 3) := by decide +kernel
theorem dX8_cheapestPurge_23 : decode cX8_cheapestPurge 23 = .ok (.iconst 2, 1) := by decide +kernel
theorem dX8_cheapestPurge_24 : decode cX8_cheapestPurge 24 = .ok (.iaload, 1) := by decide +kernel
theorem dX8_cheapestPurge_25 : decode cX8_cheapestPurge 25 = .ok (.if_icmp .gt 69, 3) := by decide +kernel
theorem dX8_cheapestPurge_28 : decode cX8_cheapestPurge 28 = .ok (.aload_n 0, 1) := by decide +kernel
theorem dX8_cheapestPurge_29 : decode cX8_cheapestPurge 29 = .ok (.getfield 23, 3) := by decide +kernel
theorem dX8_cheapestPurge_32 : decode cX8_cheapestPurge 32 = .ok (.aload_n 0, 1) := by decide +kernel
theorem dX8_cheapestPurge_33 : decode cX8_cheapestPurge 33 = .ok (.getfield 19, 3) := by decide +kernel
theorem dX8_cheapestPurge_36 : decode cX8_cheapestPurge 36 = .ok (.invokevirtual 269, 3) := by decide +kernel
theorem dX8_cheapestPurge_39 : decode cX8_cheapestPurge 39 = .ok (.aload_n 0, 1) := by decide +kernel
theorem dX8_cheapestPurge_40 : decode cX8_cheapestPurge 40 = .ok (.getfield 23, 3) := by decide +kernel
theorem dX8_cheapestPurge_43 : decode cX8_cheapestPurge 43 = .ok (.getfield 82, 3) := by decide +kernel
theorem dX8_cheapestPurge_46 : decode cX8_cheapestPurge 46 = .ok (.iconst 2, 1) := by decide +kernel
theorem dX8_cheapestPurge_47 : decode cX8_cheapestPurge 47 = .ok (.iload 5, 2) := by decide +kernel
theorem dX8_cheapestPurge_49 : decode cX8_cheapestPurge 49 = .ok (.iastore, 1) := by decide +kernel
theorem dX8_cheapestPurge_50 : decode cX8_cheapestPurge 50 = .ok (.aload_n 0, 1) := by decide +kernel
theorem dX8_cheapestPurge_51 : decode cX8_cheapestPurge 51 = .ok (.getfield 23, 3) := by decide +kernel
theorem dX8_cheapestPurge_54 : decode cX8_cheapestPurge 54 = .ok (.iload_n 1, 1) := by decide +kernel
theorem dX8_cheapestPurge_55 : decode cX8_cheapestPurge 55 = .ok (.iload_n 2, 1) := by decide +kernel
theorem dX8_cheapestPurge_56 : decode cX8_cheapestPurge 56 = .ok (.invokevirtual 218, 3) := by decide +kernel
theorem dX8_cheapestPurge_59 : decode cX8_cheapestPurge 59 = .ok (.aload_n 0, 1) := by decide +kernel
theorem dX8_cheapestPurge_60 : decode cX8_cheapestPurge 60 = .ok (.getfield 23, 3) := by decide +kernel
theorem dX8_cheapestPurge_63 : decode cX8_cheapestPurge 63 = .ok (.invokevirtual 205, 3) := by decide +kernel
theorem dX8_cheapestPurge_66 : decode cX8_cheapestPurge 66 = .ok (.istore 6, 2) := by decide +kernel
theorem dX8_cheapestPurge_68 : decode cX8_cheapestPurge 68 = .ok (.iload_n 3, 1) := by decide +kernel
theorem dX8_cheapestPurge_69 : decode cX8_cheapestPurge 69 = .ok (.bipush (-9), 2) := by decide +kernel
theorem dX8_cheapestPurge_71 : decode cX8_cheapestPurge 71 = .ok (.if_icmp .eq 10, 3) := by decide +kernel
theorem dX8_cheapestPurge_74 : decode cX8_cheapestPurge 74 = .ok (.iload 6, 2) := by decide +kernel
theorem dX8_cheapestPurge_76 : decode cX8_cheapestPurge 76 = .ok (.iload 4, 2) := by decide +kernel
theorem dX8_cheapestPurge_78 : decode cX8_cheapestPurge 78 = .ok (.if_icmp .ge 10, 3) := by decide +kernel
theorem dX8_cheapestPurge_81 : decode cX8_cheapestPurge 81 = .ok (.iload 6, 2) := by decide +kernel
theorem dX8_cheapestPurge_83 : decode cX8_cheapestPurge 83 = .ok (.istore 4, 2) := by decide +kernel
theorem dX8_cheapestPurge_85 : decode cX8_cheapestPurge 85 = .ok (.iload 5, 2) := by decide +kernel
theorem dX8_cheapestPurge_87 : decode cX8_cheapestPurge 87 = .ok (.istore_n 3, 1) := by decide +kernel
theorem dX8_cheapestPurge_88 : decode cX8_cheapestPurge 88 = .ok (.iinc 5 1, 3) := by decide +kernel
theorem dX8_cheapestPurge_91 : decode cX8_cheapestPurge 91 = .ok (.goto (-73), 3) := by decide +kernel
theorem dX8_cheapestPurge_94 : decode cX8_cheapestPurge 94 = .ok (.iload_n 3, 1) := by decide +kernel
theorem dX8_cheapestPurge_95 : decode cX8_cheapestPurge 95 = .ok (.ireturn, 1) := by decide +kernel
theorem dX8_runScript_0 : decode cX8_runScript 0 = .ok (.iload_n 1, 1) := by decide +kernel
theorem dX8_runScript_1 : decode cX8_runScript 1 = .ok (.iconst 1, 1) := by decide +kernel
theorem dX8_runScript_2 : decode cX8_runScript 2 = .ok (.iconst 3, 1) := by decide +kernel
theorem dX8_runScript_3 : decode cX8_runScript 3 = .ok (.invokestatic 47, 3) := by decide +kernel
theorem dX8_runScript_6 : decode cX8_runScript 6 = .ok (.lconst 1, 1) := by decide +kernel
theorem dX8_runScript_7 : decode cX8_runScript 7 = .ok (.lstore 4, 2) := by decide +kernel
theorem dX8_runScript_9 : decode cX8_runScript 9 = .ok (.iconst 1, 1) := by decide +kernel
theorem dX8_runScript_10 : decode cX8_runScript 10 = .ok (.istore 6, 2) := by decide +kernel
theorem dX8_runScript_12 : decode cX8_runScript 12 = .ok (.iload 6, 2) := by decide +kernel
theorem dX8_runScript_14 : decode cX8_runScript 14 = .ok (.iload_n 1, 1) := by decide +kernel
theorem dX8_runScript_15 : decode cX8_runScript 15 = .ok (.if_icmp .ge 17, 3) := by decide +kernel
theorem dX8_runScript_18 : decode cX8_runScript 18 = .ok (.lload 4, 2) := by decide +kernel
theorem dX8_runScript_20 : decode cX8_runScript 20 = .ok (.ldc2_w 293, 3) := by decide +kernel
theorem dX8_runScript_23 : decode cX8_runScript 23 = .ok (.lmul, 1) := by decide +kernel
theorem dX8_runScript_24 : decode cX8_runScript 24 = .ok (.lstore 4, 2) := by decide +kernel
theorem dX8_runScript_26 : decode cX8_runScript 26 = .ok (.iinc 6 1, 3) := by decide +kernel
theorem dX8_runScript_29 : decode cX8_runScript 29 = .ok (.goto (-17), 3) := by decide +kernel
theorem dX8_runScript_32 : decode cX8_runScript 32 = .ok (.lload_n 2, 1) := by decide +kernel
theorem dX8_runScript_33 : decode cX8_runScript 33 = .ok (.lconst 0, 1) := by decide +kernel
theorem dX8_runScript_34 : decode cX8_runScript 34 = .ok (.lcmp, 1) := by decide +kernel
theorem dX8_runScript_35 : decode cX8_runScript 35 = .ok (.ifCond .lt 14, 3) := by decide +kernel
theorem dX8_runScript_38 : decode cX8_runScript 38 = .ok (.lload_n 2, 1) := by decide +kernel
theorem dX8_runScript_39 : decode cX8_runScript 39 = .ok (.lload 4, 2) := by decide +kernel
theorem dX8_runScript_41 : decode cX8_runScript 41 = .ok (.ldc2_w 293, 3) := by decide +kernel
theorem dX8_runScript_44 : decode cX8_runScript 44 = .ok (.lmul, 1) := by decide +kernel
theorem dX8_runScript_45 : decode cX8_runScript 45 = .ok (.lcmp, 1) := by decide +kernel
theorem dX8_runScript_46 : decode cX8_runScript 46 = .ok (.ifCond .lt 14, 3) := by decide +kernel
theorem dX8_runScript_49 : decode cX8_runScript 49 = .ok (.new 228, 3) := by decide +kernel
theorem dX8_runScript_52 : decode cX8_runScript 52 = .ok (.dup, 1) := by decide +kernel
theorem dX8_runScript_53 : decode cX8_runScript 53 = .ok (.ldc_w 295, 3) := by decide +kernel
theorem dX8_runScript_56 : decode cX8_runScript 56 = .ok (.invokespecial 232, 3) := by decide +kernel
theorem dX8_runScript_59 : decode cX8_runScript 59 = .ok (.athrow, 1) := by decide +kernel
theorem dX8_runScript_60 : decode cX8_runScript 60 = .ok (.aload_n 0, 1) := by decide +kernel
theorem dX8_runScript_61 : decode cX8_runScript 61 = .ok (.getfield 23, 3) := by decide +kernel
theorem dX8_runScript_64 : decode cX8_runScript 64 = .ok (.aload_n 0, 1) := by decide +kernel
theorem dX8_runScript_65 : decode cX8_runScript 65 = .ok (.getfield 19, 3) := by decide +kernel
theorem dX8_runScript_68 : decode cX8_runScript 68 = .ok (.invokevirtual 269, 3) := by decide +kernel
theorem dX8_runScript_71 : decode cX8_runScript 71 = .ok (.iconst 0, 1) := by decide +kernel
theorem dX8_runScript_72 : decode cX8_runScript 72 = .ok (.istore 6, 2) := by decide +kernel
theorem dX8_runScript_74 : decode cX8_runScript 74 = .ok (.iload 6, 2) := by decide +kernel
theorem dX8_runScript_76 : decode cX8_runScript 76 = .ok (.iload_n 1, 1) := by decide +kernel
theorem dX8_runScript_77 : decode cX8_runScript 77 = .ok (.if_icmp .ge 88, 3) := by decide +kernel
theorem dX8_runScript_80 : decode cX8_runScript 80 = .ok (.lload 4, 2) := by decide +kernel
theorem dX8_runScript_82 : decode cX8_runScript 82 = .ok (.lconst 0, 1) := by decide +kernel
theorem dX8_runScript_83 : decode cX8_runScript 83 = .ok (.lcmp, 1) := by decide +kernel
theorem dX8_runScript_84 : decode cX8_runScript 84 = .ok (.ifCond .le 81, 3) := by decide +kernel
theorem dX8_runScript_87 : decode cX8_runScript 87 = .ok (.lload_n 2, 1) := by decide +kernel
theorem dX8_runScript_88 : decode cX8_runScript 88 = .ok (.lload 4, 2) := by decide +kernel
theorem dX8_runScript_90 : decode cX8_runScript 90 = .ok (.ldiv, 1) := by decide +kernel
theorem dX8_runScript_91 : decode cX8_runScript 91 = .ok (.ldc2_w 293, 3) := by decide +kernel
theorem dX8_runScript_94 : decode cX8_runScript 94 = .ok (.lrem, 1) := by decide +kernel
theorem dX8_runScript_95 : decode cX8_runScript 95 = .ok (.l2i, 1) := by decide +kernel
theorem dX8_runScript_96 : decode cX8_runScript 96 = .ok (.istore 7, 2) := by decide +kernel
theorem dX8_runScript_98 : decode cX8_runScript 98 = .ok (.iload 7, 2) := by decide +kernel
theorem dX8_runScript_100 : decode cX8_runScript 100 = .ok (.sipush 10000, 3) := by decide +kernel
theorem dX8_runScript_103 : decode cX8_runScript 103 = .ok (.idiv, 1) := by decide +kernel
theorem dX8_runScript_104 : decode cX8_runScript 104 = .ok (.istore 8, 2) := by decide +kernel
theorem dX8_runScript_106 : decode cX8_runScript 106 = .ok (.iload 7, 2) := by decide +kernel
theorem dX8_runScript_108 : decode cX8_runScript 108 = .ok (.sipush 1000, 3) := by decide +kernel
theorem dX8_runScript_111 : decode cX8_runScript 111 = .ok (.idiv, 1) := by decide +kernel
theorem dX8_runScript_112 : decode cX8_runScript 112 = .ok (.bipush 10, 2) := by decide +kernel
theorem dX8_runScript_114 : decode cX8_runScript 114 = .ok (.irem, 1) := by decide +kernel
theorem dX8_runScript_115 : decode cX8_runScript 115 = .ok (.istore 9, 2) := by decide +kernel
theorem dX8_runScript_117 : decode cX8_runScript 117 = .ok (.iload 7, 2) := by decide +kernel
theorem dX8_runScript_119 : decode cX8_runScript 119 = .ok (.sipush 1000, 3) := by decide +kernel
theorem dX8_runScript_122 : decode cX8_runScript 122 = .ok (.irem, 1) := by decide +kernel
theorem dX8_runScript_123 : decode cX8_runScript 123 = .ok (.istore 10, 2) := by decide +kernel
theorem dX8_runScript_125 : decode cX8_runScript 125 = .ok (.aload_n 0, 1) := by decide +kernel
theorem dX8_runScript_126 : decode cX8_runScript 126 = .ok (.iload 8, 2) := by decide +kernel
theorem dX8_runScript_128 : decode cX8_runScript 128 = .ok (.iload 9, 2) := by decide +kernel
theorem dX8_runScript_130 : decode cX8_runScript 130 = .ok (.iload 10, 2) := by decide +kernel
theorem dX8_runScript_132 : decode cX8_runScript 132 = .ok (.invokevirtual 297, 3) := by decide +kernel
theorem dX8_runScript_135 : decode cX8_runScript 135 = .ok (.ifCond .ne 6, 3) := by decide +kernel
theorem dX8_runScript_138 : decode cX8_runScript 138 = .ok (.iload 6, 2) := by decide +kernel
theorem dX8_runScript_140 : decode cX8_runScript 140 = .ok (.ireturn, 1) := by decide +kernel
theorem dX8_runScript_141 : decode cX8_runScript 141 = .ok (.aload_n 0, 1) := by decide +kernel
theorem dX8_runScript_142 : decode cX8_runScript 142 = .ok (.iload 8, 2) := by decide +kernel
theorem dX8_runScript_144 : decode cX8_runScript 144 = .ok (.iload 9, 2) := by decide +kernel
theorem dX8_runScript_146 : decode cX8_runScript 146 = .ok (.iload 10, 2) := by decide +kernel
theorem dX8_runScript_148 : decode cX8_runScript 148 = .ok (.invokevirtual 300, 3) := by decide +kernel
theorem dX8_runScript_151 : decode cX8_runScript 151 = .ok (.lload 4, 2) := by decide +kernel
theorem dX8_runScript_153 : decode cX8_runScript 153 = .ok (.ldc2_w 293, 3) := by decide +kernel
theorem dX8_runScript_156 : decode cX8_runScript 156 = .ok (.ldiv, 1) := by decide +kernel
theorem dX8_runScript_157 : decode cX8_runScript 157 = .ok (.lstore 4, 2) := by decide +kernel
theorem dX8_runScript_159 : decode cX8_runScript 159 = .ok (.iinc 6 1, 3) := by decide +kernel
theorem dX8_runScript_162 : decode cX8_runScript 162 = .ok (.goto (-88), 3) := by decide +kernel
theorem dX8_runScript_165 : decode cX8_runScript 165 = .ok (.bipush (-9), 2) := by decide +kernel
theorem dX8_runScript_167 : decode cX8_runScript 167 = .ok (.ireturn, 1) := by decide +kernel
theorem dX8_simulate_0 : decode cX8_simulate 0 = .ok (.iload_n 3, 1) := by decide +kernel
theorem dX8_simulate_1 : decode cX8_simulate 1 = .ok (.iconst 1, 1) := by decide +kernel
theorem dX8_simulate_2 : decode cX8_simulate 2 = .ok (.bipush 96, 2) := by decide +kernel
theorem dX8_simulate_4 : decode cX8_simulate 4 = .ok (.invokestatic 47, 3) := by decide +kernel
theorem dX8_simulate_7 : decode cX8_simulate 7 = .ok (.aload_n 0, 1) := by decide +kernel
theorem dX8_simulate_8 : decode cX8_simulate 8 = .ok (.getfield 23, 3) := by decide +kernel
theorem dX8_simulate_11 : decode cX8_simulate 11 = .ok (.aload_n 0, 1) := by decide +kernel
theorem dX8_simulate_12 : decode cX8_simulate 12 = .ok (.getfield 19, 3) := by decide +kernel
theorem dX8_simulate_15 : decode cX8_simulate 15 = .ok (.invokevirtual 269, 3) := by decide +kernel
theorem dX8_simulate_18 : decode cX8_simulate 18 = .ok (.lload_n 1, 1) := by decide +kernel
theorem dX8_simulate_19 : decode cX8_simulate 19 = .ok (.lstore 4, 2) := by decide +kernel
theorem dX8_simulate_21 : decode cX8_simulate 21 = .ok (.iconst 0, 1) := by decide +kernel
theorem dX8_simulate_22 : decode cX8_simulate 22 = .ok (.istore 6, 2) := by decide +kernel
theorem dX8_simulate_24 : decode cX8_simulate 24 = .ok (.iload 6, 2) := by decide +kernel
theorem dX8_simulate_26 : decode cX8_simulate 26 = .ok (.iload_n 3, 1) := by decide +kernel
theorem dX8_simulate_27 : decode cX8_simulate 27 = .ok (.if_icmp .ge 91, 3) := by decide +kernel
theorem dX8_simulate_30 : decode cX8_simulate 30 = .ok (.lload 4, 2) := by decide +kernel
theorem dX8_simulate_32 : decode cX8_simulate 32 = .ok (.ldc2_w 303, 3) := by decide +kernel
theorem dX8_simulate_35 : decode cX8_simulate 35 = .ok (.lmul, 1) := by decide +kernel
theorem dX8_simulate_36 : decode cX8_simulate 36 = .ok (.ldc2_w 305, 3) := by decide +kernel
theorem dX8_simulate_39 : decode cX8_simulate 39 = .ok (.ladd, 1) := by decide +kernel
theorem dX8_simulate_40 : decode cX8_simulate 40 = .ok (.lstore 4, 2) := by decide +kernel
theorem dX8_simulate_42 : decode cX8_simulate 42 = .ok (.lload 4, 2) := by decide +kernel
theorem dX8_simulate_44 : decode cX8_simulate 44 = .ok (.bipush 33, 2) := by decide +kernel
theorem dX8_simulate_46 : decode cX8_simulate 46 = .ok (.lushr, 1) := by decide +kernel
theorem dX8_simulate_47 : decode cX8_simulate 47 = .ok (.l2i, 1) := by decide +kernel
theorem dX8_simulate_48 : decode cX8_simulate 48 = .ok (.istore 7, 2) := by decide +kernel
theorem dX8_simulate_50 : decode cX8_simulate 50 = .ok (.iload 7, 2) := by decide +kernel
theorem dX8_simulate_52 : decode cX8_simulate 52 = .ok (.bipush 16, 2) := by decide +kernel
theorem dX8_simulate_54 : decode cX8_simulate 54 = .ok (.irem, 1) := by decide +kernel
theorem dX8_simulate_55 : decode cX8_simulate 55 = .ok (.ifCond .ne 42, 3) := by decide +kernel
theorem dX8_simulate_58 : decode cX8_simulate 58 = .ok (.iload 7, 2) := by decide +kernel
theorem dX8_simulate_60 : decode cX8_simulate 60 = .ok (.bipush 16, 2) := by decide +kernel
theorem dX8_simulate_62 : decode cX8_simulate 62 = .ok (.idiv, 1) := by decide +kernel
theorem dX8_simulate_63 : decode cX8_simulate 63 = .ok (.iconst 2, 1) := by decide +kernel
theorem dX8_simulate_64 : decode cX8_simulate 64 = .ok (.irem, 1) := by decide +kernel
theorem dX8_simulate_65 : decode cX8_simulate 65 = .ok (.istore 8, 2) := by decide +kernel
theorem dX8_simulate_67 : decode cX8_simulate 67 = .ok (.aload_n 0, 1) := by decide +kernel
theorem dX8_simulate_68 : decode cX8_simulate 68 = .ok (.getfield 23, 3) := by decide +kernel
theorem dX8_simulate_71 : decode cX8_simulate 71 = .ok (.iload 8, 2) := by decide +kernel
theorem dX8_simulate_73 : decode cX8_simulate 73 = .ok (.aload_n 0, 1) := by decide +kernel
theorem dX8_simulate_74 : decode cX8_simulate 74 = .ok (.getfield 23, 3) := by decide +kernel
theorem dX8_simulate_77 : decode cX8_simulate 77 = .ok (.iload 8, 2) := by decide +kernel
theorem dX8_simulate_79 : decode cX8_simulate 79 = .ok (.invokevirtual 167, 3) := by decide +kernel
theorem dX8_simulate_82 : decode cX8_simulate 82 = .ok (.getfield 179, 3) := by decide +kernel
theorem dX8_simulate_85 : decode cX8_simulate 85 = .ok (.ifCond .ne 7, 3) := by decide +kernel
theorem dX8_simulate_88 : decode cX8_simulate 88 = .ok (.iconst 1, 1) := by decide +kernel
theorem dX8_simulate_89 : decode cX8_simulate 89 = .ok (.goto 4, 3) := by decide +kernel
theorem dX8_simulate_92 : decode cX8_simulate 92 = .ok (.iconst 0, 1) := by decide +kernel
theorem dX8_simulate_93 : decode cX8_simulate 93 = .ok (.invokevirtual 233, 3) := by decide +kernel
theorem dX8_simulate_96 : decode cX8_simulate 96 = .ok (.pop, 1) := by decide +kernel
theorem dX8_simulate_97 : decode cX8_simulate 97 = .ok (.aload_n 0, 1) := by decide +kernel
theorem dX8_simulate_98 : decode cX8_simulate 98 = .ok (.getfield 23, 3) := by decide +kernel
theorem dX8_simulate_101 : decode cX8_simulate 101 = .ok (.iconst 1, 1) := by decide +kernel
theorem dX8_simulate_102 : decode cX8_simulate 102 = .ok (.iload 7, 2) := by decide +kernel
theorem dX8_simulate_104 : decode cX8_simulate 104 = .ok (.bipush 64, 2) := by decide +kernel
theorem dX8_simulate_106 : decode cX8_simulate 106 = .ok (.idiv, 1) := by decide +kernel
theorem dX8_simulate_107 : decode cX8_simulate 107 = .ok (.iconst 4, 1) := by decide +kernel
theorem dX8_simulate_108 : decode cX8_simulate 108 = .ok (.irem, 1) := by decide +kernel
theorem dX8_simulate_109 : decode cX8_simulate 109 = .ok (.invokevirtual 218, 3) := by decide +kernel
theorem dX8_simulate_112 : decode cX8_simulate 112 = .ok (.iinc 6 1, 3) := by decide +kernel
theorem dX8_simulate_115 : decode cX8_simulate 115 = .ok (.goto (-91), 3) := by decide +kernel
theorem dX8_simulate_118 : decode cX8_simulate 118 = .ok (.sipush 1000, 3) := by decide +kernel
theorem dX8_simulate_121 : decode cX8_simulate 121 = .ok (.aload_n 0, 1) := by decide +kernel
theorem dX8_simulate_122 : decode cX8_simulate 122 = .ok (.getfield 23, 3) := by decide +kernel
theorem dX8_simulate_125 : decode cX8_simulate 125 = .ok (.invokevirtual 205, 3) := by decide +kernel
theorem dX8_simulate_128 : decode cX8_simulate 128 = .ok (.aload_n 0, 1) := by decide +kernel
theorem dX8_simulate_129 : decode cX8_simulate 129 = .ok (.getfield 19, 3) := by decide +kernel
theorem dX8_simulate_132 : decode cX8_simulate 132 = .ok (.invokevirtual 205, 3) := by decide +kernel
theorem dX8_simulate_135 : decode cX8_simulate 135 = .ok (.isub, 1) := by decide +kernel
theorem dX8_simulate_136 : decode cX8_simulate 136 = .ok (.imul, 1) := by decide +kernel
theorem dX8_simulate_137 : decode cX8_simulate 137 = .ok (.aload_n 0, 1) := by decide +kernel
theorem dX8_simulate_138 : decode cX8_simulate 138 = .ok (.getfield 23, 3) := by decide +kernel
theorem dX8_simulate_141 : decode cX8_simulate 141 = .ok (.getfield 86, 3) := by decide +kernel
theorem dX8_simulate_144 : decode cX8_simulate 144 = .ok (.invokevirtual 98, 3) := by decide +kernel
theorem dX8_simulate_147 : decode cX8_simulate 147 = .ok (.iadd, 1) := by decide +kernel
theorem dX8_simulate_148 : decode cX8_simulate 148 = .ok (.ireturn, 1) := by decide +kernel
theorem dX8_save_0 : decode cX8_save 0 = .ok (.iload_n 1, 1) := by decide +kernel
theorem dX8_save_1 : decode cX8_save 1 = .ok (.invokestatic 307, 3) := by decide +kernel
theorem dX8_save_4 : decode cX8_save 4 = .ok (.iload_n 1, 1) := by decide +kernel
theorem dX8_save_5 : decode cX8_save 5 = .ok (.ifCond .ne 10, 3) := by decide +kernel
theorem dX8_save_8 : decode cX8_save 8 = .ok (.aload_n 0, 1) := by decide +kernel
theorem dX8_save_9 : decode cX8_save 9 = .ok (.getfield 36, 3) := by decide +kernel
theorem dX8_save_12 : decode cX8_save 12 = .ok (.goto 7, 3) := by decide +kernel
theorem dX8_save_15 : decode cX8_save 15 = .ok (.aload_n 0, 1) := by decide +kernel
theorem dX8_save_16 : decode cX8_save 16 = .ok (.getfield 40, 3) := by decide +kernel
theorem dX8_save_19 : decode cX8_save 19 = .ok (.astore_n 2, 1) := by decide +kernel
theorem dX8_save_20 : decode cX8_save 20 = .ok (.aload_n 2, 1) := by decide +kernel
theorem dX8_save_21 : decode cX8_save 21 = .ok (.getfield 310, 3) := by decide +kernel
theorem dX8_save_24 : decode cX8_save 24 = .ok (.aload_n 0, 1) := by decide +kernel
theorem dX8_save_25 : decode cX8_save 25 = .ok (.getfield 19, 3) := by decide +kernel
theorem dX8_save_28 : decode cX8_save 28 = .ok (.invokevirtual 269, 3) := by decide +kernel
theorem dX8_save_31 : decode cX8_save 31 = .ok (.aload_n 2, 1) := by decide +kernel
theorem dX8_save_32 : decode cX8_save 32 = .ok (.iconst 1, 1) := by decide +kernel
theorem dX8_save_33 : decode cX8_save 33 = .ok (.putfield 75, 3) := by decide +kernel
theorem dX8_save_36 : decode cX8_save 36 = .ok (.aload_n 0, 1) := by decide +kernel
theorem dX8_save_37 : decode cX8_save 37 = .ok (.getfield 19, 3) := by decide +kernel
theorem dX8_save_40 : decode cX8_save 40 = .ok (.getfield 95, 3) := by decide +kernel
theorem dX8_save_43 : decode cX8_save 43 = .ok (.ireturn, 1) := by decide +kernel
theorem dX8_restore_0 : decode cX8_restore 0 = .ok (.iload_n 1, 1) := by decide +kernel
theorem dX8_restore_1 : decode cX8_restore 1 = .ok (.invokestatic 307, 3) := by decide +kernel
theorem dX8_restore_4 : decode cX8_restore 4 = .ok (.iload_n 1, 1) := by decide +kernel
theorem dX8_restore_5 : decode cX8_restore 5 = .ok (.ifCond .ne 10, 3) := by decide +kernel
theorem dX8_restore_8 : decode cX8_restore 8 = .ok (.aload_n 0, 1) := by decide +kernel
theorem dX8_restore_9 : decode cX8_restore 9 = .ok (.getfield 36, 3) := by decide +kernel
theorem dX8_restore_12 : decode cX8_restore 12 = .ok (.goto 7, 3) := by decide +kernel
theorem dX8_restore_15 : decode cX8_restore 15 = .ok (.aload_n 0, 1) := by decide +kernel
theorem dX8_restore_16 : decode cX8_restore 16 = .ok (.getfield 40, 3) := by decide +kernel
theorem dX8_restore_19 : decode cX8_restore 19 = .ok (.astore_n 2, 1) := by decide +kernel
theorem dX8_restore_20 : decode cX8_restore 20 = .ok (.aload_n 2, 1) := by decide +kernel
theorem dX8_restore_21 : decode cX8_restore 21 = .ok (.getfield 75, 3) := by decide +kernel
theorem dX8_restore_24 : decode cX8_restore 24 = .ok (.ifCond .ne 14, 3) := by decide +kernel
theorem dX8_restore_27 : decode cX8_restore 27 = .ok (.new 55, 3) := by decide +kernel
theorem dX8_restore_30 : decode cX8_restore 30 = .ok (.dup, 1) := by decide +kernel
theorem dX8_restore_31 : decode cX8_restore 31 = .ok (.ldc_w 313, 3) := by decide +kernel
theorem dX8_restore_34 : decode cX8_restore 34 = .ok (.invokespecial 59, 3) := by decide +kernel
theorem dX8_restore_37 : decode cX8_restore 37 = .ok (.athrow, 1) := by decide +kernel
theorem dX8_restore_38 : decode cX8_restore 38 = .ok (.aload_n 0, 1) := by decide +kernel
theorem dX8_restore_39 : decode cX8_restore 39 = .ok (.getfield 19, 3) := by decide +kernel
theorem dX8_restore_42 : decode cX8_restore 42 = .ok (.aload_n 2, 1) := by decide +kernel
theorem dX8_restore_43 : decode cX8_restore 43 = .ok (.getfield 310, 3) := by decide +kernel
theorem dX8_restore_46 : decode cX8_restore 46 = .ok (.invokevirtual 269, 3) := by decide +kernel
theorem dX8_restore_49 : decode cX8_restore 49 = .ok (.aload_n 0, 1) := by decide +kernel
theorem dX8_restore_50 : decode cX8_restore 50 = .ok (.getfield 29, 3) := by decide +kernel
theorem dX8_restore_53 : decode cX8_restore 53 = .ok (.invokevirtual 72, 3) := by decide +kernel
theorem dX8_restore_56 : decode cX8_restore 56 = .ok (.aload_n 0, 1) := by decide +kernel
theorem dX8_restore_57 : decode cX8_restore 57 = .ok (.getfield 19, 3) := by decide +kernel
theorem dX8_restore_60 : decode cX8_restore 60 = .ok (.getfield 95, 3) := by decide +kernel
theorem dX8_restore_63 : decode cX8_restore 63 = .ok (.ireturn, 1) := by decide +kernel
theorem dX8_requireWithin_0 : decode cX8_requireWithin 0 = .ok (.iload_n 0, 1) := by decide +kernel
theorem dX8_requireWithin_1 : decode cX8_requireWithin 1 = .ok (.iload_n 1, 1) := by decide +kernel
theorem dX8_requireWithin_2 : decode cX8_requireWithin 2 = .ok (.if_icmp .lt 8, 3) := by decide +kernel
theorem dX8_requireWithin_5 : decode cX8_requireWithin 5 = .ok (.iload_n 0, 1) := by decide +kernel
theorem dX8_requireWithin_6 : decode cX8_requireWithin 6 = .ok (.iload_n 2, 1) := by decide +kernel
theorem dX8_requireWithin_7 : decode cX8_requireWithin 7 = .ok (.if_icmp .le 14, 3) := by decide +kernel
theorem dX8_requireWithin_10 : decode cX8_requireWithin 10 = .ok (.new 228, 3) := by decide +kernel
theorem dX8_requireWithin_13 : decode cX8_requireWithin 13 = .ok (.dup, 1) := by decide +kernel
theorem dX8_requireWithin_14 : decode cX8_requireWithin 14 = .ok (.ldc_w 315, 3) := by decide +kernel
theorem dX8_requireWithin_17 : decode cX8_requireWithin 17 = .ok (.invokespecial 232, 3) := by decide +kernel
theorem dX8_requireWithin_20 : decode cX8_requireWithin 20 = .ok (.athrow, 1) := by decide +kernel
theorem dX8_requireWithin_21 : decode cX8_requireWithin 21 = .ok (.return_, 1) := by decide +kernel
theorem dX8_requireTicks_0 : decode cX8_requireTicks 0 = .ok (.iload_n 0, 1) := by decide +kernel
theorem dX8_requireTicks_1 : decode cX8_requireTicks 1 = .ok (.iconst 1, 1) := by decide +kernel
theorem dX8_requireTicks_2 : decode cX8_requireTicks 2 = .ok (.bipush 96, 2) := by decide +kernel
theorem dX8_requireTicks_4 : decode cX8_requireTicks 4 = .ok (.invokestatic 47, 3) := by decide +kernel
theorem dX8_requireTicks_7 : decode cX8_requireTicks 7 = .ok (.iload_n 1, 1) := by decide +kernel
theorem dX8_requireTicks_8 : decode cX8_requireTicks 8 = .ok (.iconst 0, 1) := by decide +kernel
theorem dX8_requireTicks_9 : decode cX8_requireTicks 9 = .ok (.iconst 5, 1) := by decide +kernel
theorem dX8_requireTicks_10 : decode cX8_requireTicks 10 = .ok (.invokestatic 47, 3) := by decide +kernel
theorem dX8_requireTicks_13 : decode cX8_requireTicks 13 = .ok (.return_, 1) := by decide +kernel
theorem dX8_requireFlue_0 : decode cX8_requireFlue 0 = .ok (.iload_n 0, 1) := by decide +kernel
theorem dX8_requireFlue_1 : decode cX8_requireFlue 1 = .ok (.ifCond .lt 8, 3) := by decide +kernel
theorem dX8_requireFlue_4 : decode cX8_requireFlue 4 = .ok (.iload_n 0, 1) := by decide +kernel
theorem dX8_requireFlue_5 : decode cX8_requireFlue 5 = .ok (.iconst 2, 1) := by decide +kernel
theorem dX8_requireFlue_6 : decode cX8_requireFlue 6 = .ok (.if_icmp .lt 14, 3) := by decide +kernel
theorem dX8_requireFlue_9 : decode cX8_requireFlue 9 = .ok (.new 185, 3) := by decide +kernel
theorem dX8_requireFlue_12 : decode cX8_requireFlue 12 = .ok (.dup, 1) := by decide +kernel
theorem dX8_requireFlue_13 : decode cX8_requireFlue 13 = .ok (.ldc_w 317, 3) := by decide +kernel
theorem dX8_requireFlue_16 : decode cX8_requireFlue 16 = .ok (.invokespecial 189, 3) := by decide +kernel
theorem dX8_requireFlue_19 : decode cX8_requireFlue 19 = .ok (.athrow, 1) := by decide +kernel
theorem dX8_requireFlue_20 : decode cX8_requireFlue 20 = .ok (.return_, 1) := by decide +kernel
theorem dX8_requireSlot_0 : decode cX8_requireSlot 0 = .ok (.iload_n 0, 1) := by decide +kernel
theorem dX8_requireSlot_1 : decode cX8_requireSlot 1 = .ok (.ifCond .eq 19, 3) := by decide +kernel
theorem dX8_requireSlot_4 : decode cX8_requireSlot 4 = .ok (.iload_n 0, 1) := by decide +kernel
theorem dX8_requireSlot_5 : decode cX8_requireSlot 5 = .ok (.iconst 1, 1) := by decide +kernel
theorem dX8_requireSlot_6 : decode cX8_requireSlot 6 = .ok (.if_icmp .eq 14, 3) := by decide +kernel
theorem dX8_requireSlot_9 : decode cX8_requireSlot 9 = .ok (.new 185, 3) := by decide +kernel
theorem dX8_requireSlot_12 : decode cX8_requireSlot 12 = .ok (.dup, 1) := by decide +kernel
theorem dX8_requireSlot_13 : decode cX8_requireSlot 13 = .ok (.ldc_w 319, 3) := by decide +kernel
theorem dX8_requireSlot_16 : decode cX8_requireSlot 16 = .ok (.invokespecial 189, 3) := by decide +kernel
theorem dX8_requireSlot_19 : decode cX8_requireSlot 19 = .ok (.athrow, 1) := by decide +kernel
theorem dX8_requireSlot_20 : decode cX8_requireSlot 20 = .ok (.return_, 1) := by decide +kernel
theorem dX8_requireBoiler_0 : decode cX8_requireBoiler 0 = .ok (.aload_n 0, 1) := by decide +kernel
theorem dX8_requireBoiler_1 : decode cX8_requireBoiler 1 = .ok (.getfield 19, 3) := by decide +kernel
theorem dX8_requireBoiler_4 : decode cX8_requireBoiler 4 = .ok (.iload_n 1, 1) := by decide +kernel
theorem dX8_requireBoiler_5 : decode cX8_requireBoiler 5 = .ok (.invokevirtual 321, 3) := by decide +kernel
theorem dX8_requireBoiler_8 : decode cX8_requireBoiler 8 = .ok (.ifCond .ne 14, 3) := by decide +kernel
theorem dX8_requireBoiler_11 : decode cX8_requireBoiler 11 = .ok (.new 185, 3) := by decide +kernel
theorem dX8_requireBoiler_14 : decode cX8_requireBoiler 14 = .ok (.dup, 1) := by decide +kernel
theorem dX8_requireBoiler_15 : decode cX8_requireBoiler 15 = .ok (.ldc_w 324, 3) := by decide +kernel
theorem dX8_requireBoiler_18 : decode cX8_requireBoiler 18 = .ok (.invokespecial 189, 3) := by decide +kernel
theorem dX8_requireBoiler_21 : decode cX8_requireBoiler 21 = .ok (.athrow, 1) := by decide +kernel
theorem dX8_requireBoiler_22 : decode cX8_requireBoiler 22 = .ok (.return_, 1) := by decide +kernel
theorem dX8_isSetting_0 : decode cX8_isSetting 0 = .ok (.iload_n 0, 1) := by decide +kernel
theorem dX8_isSetting_1 : decode cX8_isSetting 1 = .ok (.ifCond .lt 31, 3) := by decide +kernel
theorem dX8_isSetting_4 : decode cX8_isSetting 4 = .ok (.iload_n 0, 1) := by decide +kernel
theorem dX8_isSetting_5 : decode cX8_isSetting 5 = .ok (.bipush 6, 2) := by decide +kernel
theorem dX8_isSetting_7 : decode cX8_isSetting 7 = .ok (.if_icmp .ge 25, 3) := by decide +kernel
theorem dX8_isSetting_10 : decode cX8_isSetting 10 = .ok (.iload_n 1, 1) := by decide +kernel
theorem dX8_isSetting_11 : decode cX8_isSetting 11 = .ok (.getstatic 287, 3) := by decide +kernel
theorem dX8_isSetting_14 : decode cX8_isSetting 14 = .ok (.iload_n 0, 1) := by decide +kernel
theorem dX8_isSetting_15 : decode cX8_isSetting 15 = .ok (.iaload, 1) := by decide +kernel
theorem dX8_isSetting_16 : decode cX8_isSetting 16 = .ok (.if_icmp .lt 16, 3) := by decide +kernel
theorem dX8_isSetting_19 : decode cX8_isSetting 19 = .ok (.iload_n 1, 1) := by decide +kernel
theorem dX8_isSetting_20 : decode cX8_isSetting 20 = .ok (.getstatic 290, 3) := by decide +kernel
theorem dX8_isSetting_23 : decode cX8_isSetting 23 = .ok (.iload_n 0, 1) := by decide +kernel
theorem dX8_isSetting_24 : decode cX8_isSetting 24 = .ok (.iaload, 1) := by decide +kernel
theorem dX8_isSetting_25 : decode cX8_isSetting 25 = .ok (.if_icmp .gt 7, 3) := by decide +kernel
theorem dX8_isSetting_28 : decode cX8_isSetting 28 = .ok (.iconst 1, 1) := by decide +kernel
theorem dX8_isSetting_29 : decode cX8_isSetting 29 = .ok (.goto 4, 3) := by decide +kernel
theorem dX8_isSetting_32 : decode cX8_isSetting 32 = .ok (.iconst 0, 1) := by decide +kernel
theorem dX8_isSetting_33 : decode cX8_isSetting 33 = .ok (.ireturn, 1) := by decide +kernel
theorem dX8_staysHot_0 : decode cX8_staysHot 0 = .ok (.aload_n 0, 1) := by decide +kernel
theorem dX8_staysHot_1 : decode cX8_staysHot 1 = .ok (.getfield 23, 3) := by decide +kernel
theorem dX8_staysHot_4 : decode cX8_staysHot 4 = .ok (.aload_n 0, 1) := by decide +kernel
theorem dX8_staysHot_5 : decode cX8_staysHot 5 = .ok (.getfield 19, 3) := by decide +kernel
theorem dX8_staysHot_8 : decode cX8_staysHot 8 = .ok (.invokevirtual 269, 3) := by decide +kernel
theorem dX8_staysHot_11 : decode cX8_staysHot 11 = .ok (.iconst 0, 1) := by decide +kernel
theorem dX8_staysHot_12 : decode cX8_staysHot 12 = .ok (.istore 4, 2) := by decide +kernel
theorem dX8_staysHot_14 : decode cX8_staysHot 14 = .ok (.iload 4, 2) := by decide +kernel
theorem dX8_staysHot_16 : decode cX8_staysHot 16 = .ok (.iload_n 1, 1) := by decide +kernel
theorem dX8_staysHot_17 : decode cX8_staysHot 17 = .ok (.if_icmp .ge 34, 3) := by decide +kernel
theorem dX8_staysHot_20 : decode cX8_staysHot 20 = .ok (.aload_n 0, 1) := by decide +kernel
theorem dX8_staysHot_21 : decode cX8_staysHot 21 = .ok (.getfield 23, 3) := by decide +kernel
theorem dX8_staysHot_24 : decode cX8_staysHot 24 = .ok (.iconst 1, 1) := by decide +kernel
theorem dX8_staysHot_25 : decode cX8_staysHot 25 = .ok (.iload_n 2, 1) := by decide +kernel
theorem dX8_staysHot_26 : decode cX8_staysHot 26 = .ok (.invokevirtual 218, 3) := by decide +kernel
theorem dX8_staysHot_29 : decode cX8_staysHot 29 = .ok (.aload_n 0, 1) := by decide +kernel
theorem dX8_staysHot_30 : decode cX8_staysHot 30 = .ok (.getfield 23, 3) := by decide +kernel
theorem dX8_staysHot_33 : decode cX8_staysHot 33 = .ok (.getfield 86, 3) := by decide +kernel
theorem dX8_staysHot_36 : decode cX8_staysHot 36 = .ok (.invokevirtual 278, 3) := by decide +kernel
theorem dX8_staysHot_39 : decode cX8_staysHot 39 = .ok (.iload_n 3, 1) := by decide +kernel
theorem dX8_staysHot_40 : decode cX8_staysHot 40 = .ok (.if_icmp .ge 5, 3) := by decide +kernel
theorem dX8_staysHot_43 : decode cX8_staysHot 43 = .ok (.iconst 0, 1) := by decide +kernel
theorem dX8_staysHot_44 : decode cX8_staysHot 44 = .ok (.ireturn, 1) := by decide +kernel
theorem dX8_staysHot_45 : decode cX8_staysHot 45 = .ok (.iinc 4 1, 3) := by decide +kernel
theorem dX8_staysHot_48 : decode cX8_staysHot 48 = .ok (.goto (-34), 3) := by decide +kernel
theorem dX8_staysHot_51 : decode cX8_staysHot 51 = .ok (.iconst 1, 1) := by decide +kernel
theorem dX8_staysHot_52 : decode cX8_staysHot 52 = .ok (.ireturn, 1) := by decide +kernel
theorem dX8_isAllowed_0 : decode cX8_isAllowed 0 = .ok (.iload_n 1, 1) := by decide +kernel
theorem dX8_isAllowed_1 : decode cX8_isAllowed 1 = .ok (.tableswitch 283 1 9 #[51, 73, 94, 100, 116, 153, 190, 220, 253], 51) := by decide +kernel
theorem dX8_isAllowed_52 : decode cX8_isAllowed 52 = .ok (.iload_n 2, 1) := by decide +kernel
theorem dX8_isAllowed_53 : decode cX8_isAllowed 53 = .ok (.iconst 5, 1) := by decide +kernel
theorem dX8_isAllowed_54 : decode cX8_isAllowed 54 = .ok (.if_icmp .gt 18, 3) := by decide +kernel
theorem dX8_isAllowed_57 : decode cX8_isAllowed 57 = .ok (.iload_n 3, 1) := by decide +kernel
theorem dX8_isAllowed_58 : decode cX8_isAllowed 58 = .ok (.iconst 1, 1) := by decide +kernel
theorem dX8_isAllowed_59 : decode cX8_isAllowed 59 = .ok (.if_icmp .lt 13, 3) := by decide +kernel
theorem dX8_isAllowed_62 : decode cX8_isAllowed 62 = .ok (.iload_n 3, 1) := by decide +kernel
theorem dX8_isAllowed_63 : decode cX8_isAllowed 63 = .ok (.bipush 96, 2) := by decide +kernel
theorem dX8_isAllowed_65 : decode cX8_isAllowed 65 = .ok (.if_icmp .gt 7, 3) := by decide +kernel
theorem dX8_isAllowed_68 : decode cX8_isAllowed 68 = .ok (.iconst 1, 1) := by decide +kernel
theorem dX8_isAllowed_69 : decode cX8_isAllowed 69 = .ok (.goto 4, 3) := by decide +kernel
theorem dX8_isAllowed_72 : decode cX8_isAllowed 72 = .ok (.iconst 0, 1) := by decide +kernel
theorem dX8_isAllowed_73 : decode cX8_isAllowed 73 = .ok (.ireturn, 1) := by decide +kernel
theorem dX8_isAllowed_74 : decode cX8_isAllowed 74 = .ok (.iload_n 2, 1) := by decide +kernel
theorem dX8_isAllowed_75 : decode cX8_isAllowed 75 = .ok (.ifCond .ne 18, 3) := by decide +kernel
theorem dX8_isAllowed_78 : decode cX8_isAllowed 78 = .ok (.iload_n 3, 1) := by decide +kernel
theorem dX8_isAllowed_79 : decode cX8_isAllowed 79 = .ok (.iconst 1, 1) := by decide +kernel
theorem dX8_isAllowed_80 : decode cX8_isAllowed 80 = .ok (.if_icmp .lt 13, 3) := by decide +kernel
theorem dX8_isAllowed_83 : decode cX8_isAllowed 83 = .ok (.iload_n 3, 1) := by decide +kernel
theorem dX8_isAllowed_84 : decode cX8_isAllowed 84 = .ok (.bipush 20, 2) := by decide +kernel
theorem dX8_isAllowed_86 : decode cX8_isAllowed 86 = .ok (.if_icmp .gt 7, 3) := by decide +kernel
theorem dX8_isAllowed_89 : decode cX8_isAllowed 89 = .ok (.iconst 1, 1) := by decide +kernel
theorem dX8_isAllowed_90 : decode cX8_isAllowed 90 = .ok (.goto 4, 3) := by decide +kernel
theorem dX8_isAllowed_93 : decode cX8_isAllowed 93 = .ok (.iconst 0, 1) := by decide +kernel
theorem dX8_isAllowed_94 : decode cX8_isAllowed 94 = .ok (.ireturn, 1) := by decide +kernel
theorem dX8_isAllowed_95 : decode cX8_isAllowed 95 = .ok (.iload_n 2, 1) := by decide +kernel
theorem dX8_isAllowed_96 : decode cX8_isAllowed 96 = .ok (.iload_n 3, 1) := by decide +kernel
theorem dX8_isAllowed_97 : decode cX8_isAllowed 97 = .ok (.invokestatic 224, 3) := by decide +kernel
theorem dX8_isAllowed_100 : decode cX8_isAllowed 100 = .ok (.ireturn, 1) := by decide +kernel
theorem dX8_isAllowed_101 : decode cX8_isAllowed 101 = .ok (.iload_n 2, 1) := by decide +kernel
theorem dX8_isAllowed_102 : decode cX8_isAllowed 102 = .ok (.iconst 2, 1) := by decide +kernel
theorem dX8_isAllowed_103 : decode cX8_isAllowed 103 = .ok (.if_icmp .ge 12, 3) := by decide +kernel
theorem dX8_isAllowed_106 : decode cX8_isAllowed 106 = .ok (.iload_n 3, 1) := by decide +kernel
theorem dX8_isAllowed_107 : decode cX8_isAllowed 107 = .ok (.iconst 1, 1) := by decide +kernel
theorem dX8_isAllowed_108 : decode cX8_isAllowed 108 = .ok (.if_icmp .gt 7, 3) := by decide +kernel
theorem dX8_isAllowed_111 : decode cX8_isAllowed 111 = .ok (.iconst 1, 1) := by decide +kernel
theorem dX8_isAllowed_112 : decode cX8_isAllowed 112 = .ok (.goto 4, 3) := by decide +kernel
theorem dX8_isAllowed_115 : decode cX8_isAllowed 115 = .ok (.iconst 0, 1) := by decide +kernel
theorem dX8_isAllowed_116 : decode cX8_isAllowed 116 = .ok (.ireturn, 1) := by decide +kernel
theorem dX8_isAllowed_117 : decode cX8_isAllowed 117 = .ok (.iload_n 3, 1) := by decide +kernel
theorem dX8_isAllowed_118 : decode cX8_isAllowed 118 = .ok (.ifCond .ne 34, 3) := by decide +kernel
theorem dX8_isAllowed_121 : decode cX8_isAllowed 121 = .ok (.aload_n 0, 1) := by decide +kernel
theorem dX8_isAllowed_122 : decode cX8_isAllowed 122 = .ok (.getfield 23, 3) := by decide +kernel
theorem dX8_isAllowed_125 : decode cX8_isAllowed 125 = .ok (.iload_n 2, 1) := by decide +kernel
theorem dX8_isAllowed_126 : decode cX8_isAllowed 126 = .ok (.invokevirtual 321, 3) := by decide +kernel
theorem dX8_isAllowed_129 : decode cX8_isAllowed 129 = .ok (.ifCond .eq 23, 3) := by decide +kernel
theorem dX8_isAllowed_132 : decode cX8_isAllowed 132 = .ok (.aload_n 0, 1) := by decide +kernel
theorem dX8_isAllowed_133 : decode cX8_isAllowed 133 = .ok (.getfield 23, 3) := by decide +kernel
theorem dX8_isAllowed_136 : decode cX8_isAllowed 136 = .ok (.getfield 133, 3) := by decide +kernel
theorem dX8_isAllowed_139 : decode cX8_isAllowed 139 = .ok (.iload_n 2, 1) := by decide +kernel
theorem dX8_isAllowed_140 : decode cX8_isAllowed 140 = .ok (.aaload, 1) := by decide +kernel
theorem dX8_isAllowed_141 : decode cX8_isAllowed 141 = .ok (.getfield 145, 3) := by decide +kernel
theorem dX8_isAllowed_144 : decode cX8_isAllowed 144 = .ok (.iconst 4, 1) := by decide +kernel
theorem dX8_isAllowed_145 : decode cX8_isAllowed 145 = .ok (.if_icmp .eq 7, 3) := by decide +kernel
theorem dX8_isAllowed_148 : decode cX8_isAllowed 148 = .ok (.iconst 1, 1) := by decide +kernel
theorem dX8_isAllowed_149 : decode cX8_isAllowed 149 = .ok (.goto 4, 3) := by decide +kernel
theorem dX8_isAllowed_152 : decode cX8_isAllowed 152 = .ok (.iconst 0, 1) := by decide +kernel
theorem dX8_isAllowed_153 : decode cX8_isAllowed 153 = .ok (.ireturn, 1) := by decide +kernel
theorem dX8_isAllowed_154 : decode cX8_isAllowed 154 = .ok (.iload_n 3, 1) := by decide +kernel
theorem dX8_isAllowed_155 : decode cX8_isAllowed 155 = .ok (.ifCond .ne 34, 3) := by decide +kernel
theorem dX8_isAllowed_158 : decode cX8_isAllowed 158 = .ok (.aload_n 0, 1) := by decide +kernel
theorem dX8_isAllowed_159 : decode cX8_isAllowed 159 = .ok (.getfield 23, 3) := by decide +kernel
theorem dX8_isAllowed_162 : decode cX8_isAllowed 162 = .ok (.iload_n 2, 1) := by decide +kernel
theorem dX8_isAllowed_163 : decode cX8_isAllowed 163 = .ok (.invokevirtual 321, 3) := by decide +kernel
theorem dX8_isAllowed_166 : decode cX8_isAllowed 166 = .ok (.ifCond .eq 23, 3) := by decide +kernel
theorem dX8_isAllowed_169 : decode cX8_isAllowed 169 = .ok (.aload_n 0, 1) := by decide +kernel
theorem dX8_isAllowed_170 : decode cX8_isAllowed 170 = .ok (.getfield 23, 3) := by decide +kernel
theorem dX8_isAllowed_173 : decode cX8_isAllowed 173 = .ok (.getfield 133, 3) := by decide +kernel
theorem dX8_isAllowed_176 : decode cX8_isAllowed 176 = .ok (.iload_n 2, 1) := by decide +kernel
theorem dX8_isAllowed_177 : decode cX8_isAllowed 177 = .ok (.aaload, 1) := by decide +kernel
theorem dX8_isAllowed_178 : decode cX8_isAllowed 178 = .ok (.getfield 145, 3) := by decide +kernel
theorem dX8_isAllowed_181 : decode cX8_isAllowed 181 = .ok (.iconst 4, 1) := by decide +kernel
theorem dX8_isAllowed_182 : decode cX8_isAllowed 182 = .ok (.if_icmp .ne 7, 3) := by decide +kernel
theorem dX8_isAllowed_185 : decode cX8_isAllowed 185 = .ok (.iconst 1, 1) := by decide +kernel
theorem dX8_isAllowed_186 : decode cX8_isAllowed 186 = .ok (.goto 4, 3) := by decide +kernel
theorem dX8_isAllowed_189 : decode cX8_isAllowed 189 = .ok (.iconst 0, 1) := by decide +kernel
theorem dX8_isAllowed_190 : decode cX8_isAllowed 190 = .ok (.ireturn, 1) := by decide +kernel
theorem dX8_isAllowed_191 : decode cX8_isAllowed 191 = .ok (.iload_n 2, 1) := by decide +kernel
theorem dX8_isAllowed_192 : decode cX8_isAllowed 192 = .ok (.ifCond .ne 27, 3) := by decide +kernel
theorem dX8_isAllowed_195 : decode cX8_isAllowed 195 = .ok (.iload_n 3, 1) := by decide +kernel
theorem dX8_isAllowed_196 : decode cX8_isAllowed 196 = .ok (.bipush 99, 2) := by decide +kernel
theorem dX8_isAllowed_198 : decode cX8_isAllowed 198 = .ok (.if_icmp .gt 21, 3) := by decide +kernel
theorem dX8_isAllowed_201 : decode cX8_isAllowed 201 = .ok (.aload_n 0, 1) := by decide +kernel
theorem dX8_isAllowed_202 : decode cX8_isAllowed 202 = .ok (.getfield 23, 3) := by decide +kernel
theorem dX8_isAllowed_205 : decode cX8_isAllowed 205 = .ok (.getfield 86, 3) := by decide +kernel
theorem dX8_isAllowed_208 : decode cX8_isAllowed 208 = .ok (.invokevirtual 98, 3) := by decide +kernel
theorem dX8_isAllowed_211 : decode cX8_isAllowed 211 = .ok (.iload_n 3, 1) := by decide +kernel
theorem dX8_isAllowed_212 : decode cX8_isAllowed 212 = .ok (.if_icmp .lt 7, 3) := by decide +kernel
theorem dX8_isAllowed_215 : decode cX8_isAllowed 215 = .ok (.iconst 1, 1) := by decide +kernel
theorem dX8_isAllowed_216 : decode cX8_isAllowed 216 = .ok (.goto 4, 3) := by decide +kernel
theorem dX8_isAllowed_219 : decode cX8_isAllowed 219 = .ok (.iconst 0, 1) := by decide +kernel
theorem dX8_isAllowed_220 : decode cX8_isAllowed 220 = .ok (.ireturn, 1) := by decide +kernel
theorem dX8_isAllowed_221 : decode cX8_isAllowed 221 = .ok (.aload_n 0, 1) := by decide +kernel
theorem dX8_isAllowed_222 : decode cX8_isAllowed 222 = .ok (.getfield 23, 3) := by decide +kernel
theorem dX8_isAllowed_225 : decode cX8_isAllowed 225 = .ok (.iload_n 2, 1) := by decide +kernel
theorem dX8_isAllowed_226 : decode cX8_isAllowed 226 = .ok (.invokevirtual 321, 3) := by decide +kernel
theorem dX8_isAllowed_229 : decode cX8_isAllowed 229 = .ok (.ifCond .eq 23, 3) := by decide +kernel
theorem dX8_isAllowed_232 : decode cX8_isAllowed 232 = .ok (.aload_n 0, 1) := by decide +kernel
theorem dX8_isAllowed_233 : decode cX8_isAllowed 233 = .ok (.getfield 23, 3) := by decide +kernel
theorem dX8_isAllowed_236 : decode cX8_isAllowed 236 = .ok (.getfield 133, 3) := by decide +kernel
theorem dX8_isAllowed_239 : decode cX8_isAllowed 239 = .ok (.iload_n 2, 1) := by decide +kernel
end
section
theorem dX8_isAllowed_240 : decode cX8_isAllowed 240 = .ok (.aaload, 1) := by decide +kernel
theorem dX8_isAllowed_241 : decode cX8_isAllowed 241 = .ok (.getfield 145, 3) := by decide +kernel
theorem dX8_isAllowed_244 : decode cX8_isAllowed 244 = .ok (.iload_n 3, 1) := by decide +kernel
theorem dX8_isAllowed_245 : decode cX8_isAllowed 245 = .ok (.if_icmp .ne 7, 3) := by decide +kernel
theorem dX8_isAllowed_248 : decode cX8_isAllowed 248 = .ok (.iconst 1, 1) := by decide +kernel
theorem dX8_isAllowed_249 : decode cX8_isAllowed 249 = .ok (.goto 4, 3) := by decide +kernel
theorem dX8_isAllowed_252 : decode cX8_isAllowed 252 = .ok (.iconst 0, 1) := by decide +kernel
theorem dX8_isAllowed_253 : decode cX8_isAllowed 253 = .ok (.ireturn, 1) := by decide +kernel
theorem dX8_isAllowed_254 : decode cX8_isAllowed 254 = .ok (.iload_n 2, 1) := by decide +kernel
theorem dX8_isAllowed_255 : decode cX8_isAllowed 255 = .ok (.ifCond .ne 27, 3) := by decide +kernel
theorem dX8_isAllowed_258 : decode cX8_isAllowed 258 = .ok (.iload_n 3, 1) := by decide +kernel
theorem dX8_isAllowed_259 : decode cX8_isAllowed 259 = .ok (.bipush 9, 2) := by decide +kernel
theorem dX8_isAllowed_261 : decode cX8_isAllowed 261 = .ok (.if_icmp .gt 21, 3) := by decide +kernel
theorem dX8_isAllowed_264 : decode cX8_isAllowed 264 = .ok (.aload_n 0, 1) := by decide +kernel
theorem dX8_isAllowed_265 : decode cX8_isAllowed 265 = .ok (.getfield 23, 3) := by decide +kernel
theorem dX8_isAllowed_268 : decode cX8_isAllowed 268 = .ok (.getfield 104, 3) := by decide +kernel
theorem dX8_isAllowed_271 : decode cX8_isAllowed 271 = .ok (.getfield 119, 3) := by decide +kernel
theorem dX8_isAllowed_274 : decode cX8_isAllowed 274 = .ok (.iload_n 3, 1) := by decide +kernel
theorem dX8_isAllowed_275 : decode cX8_isAllowed 275 = .ok (.if_icmp .ne 7, 3) := by decide +kernel
theorem dX8_isAllowed_278 : decode cX8_isAllowed 278 = .ok (.iconst 1, 1) := by decide +kernel
theorem dX8_isAllowed_279 : decode cX8_isAllowed 279 = .ok (.goto 4, 3) := by decide +kernel
theorem dX8_isAllowed_282 : decode cX8_isAllowed 282 = .ok (.iconst 0, 1) := by decide +kernel
theorem dX8_isAllowed_283 : decode cX8_isAllowed 283 = .ok (.ireturn, 1) := by decide +kernel
theorem dX8_isAllowed_284 : decode cX8_isAllowed 284 = .ok (.iconst 0, 1) := by decide +kernel
theorem dX8_isAllowed_285 : decode cX8_isAllowed 285 = .ok (.ireturn, 1) := by decide +kernel
theorem dX8_carryOut_0 : decode cX8_carryOut 0 = .ok (.iload_n 1, 1) := by decide +kernel
theorem dX8_carryOut_1 : decode cX8_carryOut 1 = .ok (.tableswitch 133 1 6 #[39, 51, 66, 79, 101, 117], 39) := by decide +kernel
theorem dX8_carryOut_40 : decode cX8_carryOut 40 = .ok (.aload_n 0, 1) := by decide +kernel
theorem dX8_carryOut_41 : decode cX8_carryOut 41 = .ok (.getfield 23, 3) := by decide +kernel
theorem dX8_carryOut_44 : decode cX8_carryOut 44 = .ok (.iload_n 3, 1) := by decide +kernel
theorem dX8_carryOut_45 : decode cX8_carryOut 45 = .ok (.iload_n 2, 1) := by decide +kernel
theorem dX8_carryOut_46 : decode cX8_carryOut 46 = .ok (.invokevirtual 218, 3) := by decide +kernel
theorem dX8_carryOut_49 : decode cX8_carryOut 49 = .ok (.goto 85, 3) := by decide +kernel
theorem dX8_carryOut_52 : decode cX8_carryOut 52 = .ok (.aload_n 0, 1) := by decide +kernel
theorem dX8_carryOut_53 : decode cX8_carryOut 53 = .ok (.getfield 23, 3) := by decide +kernel
theorem dX8_carryOut_56 : decode cX8_carryOut 56 = .ok (.getfield 86, 3) := by decide +kernel
theorem dX8_carryOut_59 : decode cX8_carryOut 59 = .ok (.iload_n 3, 1) := by decide +kernel
theorem dX8_carryOut_60 : decode cX8_carryOut 60 = .ok (.invokevirtual 221, 3) := by decide +kernel
theorem dX8_carryOut_63 : decode cX8_carryOut 63 = .ok (.pop, 1) := by decide +kernel
theorem dX8_carryOut_64 : decode cX8_carryOut 64 = .ok (.goto 70, 3) := by decide +kernel
theorem dX8_carryOut_67 : decode cX8_carryOut 67 = .ok (.aload_n 0, 1) := by decide +kernel
theorem dX8_carryOut_68 : decode cX8_carryOut 68 = .ok (.getfield 23, 3) := by decide +kernel
theorem dX8_carryOut_71 : decode cX8_carryOut 71 = .ok (.getfield 82, 3) := by decide +kernel
theorem dX8_carryOut_74 : decode cX8_carryOut 74 = .ok (.iload_n 2, 1) := by decide +kernel
theorem dX8_carryOut_75 : decode cX8_carryOut 75 = .ok (.iload_n 3, 1) := by decide +kernel
theorem dX8_carryOut_76 : decode cX8_carryOut 76 = .ok (.iastore, 1) := by decide +kernel
theorem dX8_carryOut_77 : decode cX8_carryOut 77 = .ok (.goto 57, 3) := by decide +kernel
theorem dX8_carryOut_80 : decode cX8_carryOut 80 = .ok (.aload_n 0, 1) := by decide +kernel
theorem dX8_carryOut_81 : decode cX8_carryOut 81 = .ok (.getfield 23, 3) := by decide +kernel
theorem dX8_carryOut_84 : decode cX8_carryOut 84 = .ok (.iload_n 2, 1) := by decide +kernel
theorem dX8_carryOut_85 : decode cX8_carryOut 85 = .ok (.iload_n 3, 1) := by decide +kernel
theorem dX8_carryOut_86 : decode cX8_carryOut 86 = .ok (.iconst 1, 1) := by decide +kernel
theorem dX8_carryOut_87 : decode cX8_carryOut 87 = .ok (.if_icmp .ne 7, 3) := by decide +kernel
theorem dX8_carryOut_90 : decode cX8_carryOut 90 = .ok (.iconst 1, 1) := by decide +kernel
theorem dX8_carryOut_91 : decode cX8_carryOut 91 = .ok (.goto 4, 3) := by decide +kernel
theorem dX8_carryOut_94 : decode cX8_carryOut 94 = .ok (.iconst 0, 1) := by decide +kernel
theorem dX8_carryOut_95 : decode cX8_carryOut 95 = .ok (.invokevirtual 233, 3) := by decide +kernel
theorem dX8_carryOut_98 : decode cX8_carryOut 98 = .ok (.pop, 1) := by decide +kernel
theorem dX8_carryOut_99 : decode cX8_carryOut 99 = .ok (.goto 35, 3) := by decide +kernel
theorem dX8_carryOut_102 : decode cX8_carryOut 102 = .ok (.aload_n 0, 1) := by decide +kernel
theorem dX8_carryOut_103 : decode cX8_carryOut 103 = .ok (.getfield 23, 3) := by decide +kernel
theorem dX8_carryOut_106 : decode cX8_carryOut 106 = .ok (.getfield 133, 3) := by decide +kernel
theorem dX8_carryOut_109 : decode cX8_carryOut 109 = .ok (.iload_n 2, 1) := by decide +kernel
theorem dX8_carryOut_110 : decode cX8_carryOut 110 = .ok (.aaload, 1) := by decide +kernel
theorem dX8_carryOut_111 : decode cX8_carryOut 111 = .ok (.iconst 4, 1) := by decide +kernel
theorem dX8_carryOut_112 : decode cX8_carryOut 112 = .ok (.invokevirtual 239, 3) := by decide +kernel
theorem dX8_carryOut_115 : decode cX8_carryOut 115 = .ok (.goto 19, 3) := by decide +kernel
theorem dX8_carryOut_118 : decode cX8_carryOut 118 = .ok (.aload_n 0, 1) := by decide +kernel
theorem dX8_carryOut_119 : decode cX8_carryOut 119 = .ok (.getfield 23, 3) := by decide +kernel
theorem dX8_carryOut_122 : decode cX8_carryOut 122 = .ok (.getfield 133, 3) := by decide +kernel
theorem dX8_carryOut_125 : decode cX8_carryOut 125 = .ok (.iload_n 2, 1) := by decide +kernel
theorem dX8_carryOut_126 : decode cX8_carryOut 126 = .ok (.aaload, 1) := by decide +kernel
theorem dX8_carryOut_127 : decode cX8_carryOut 127 = .ok (.iconst 0, 1) := by decide +kernel
theorem dX8_carryOut_128 : decode cX8_carryOut 128 = .ok (.invokevirtual 239, 3) := by decide +kernel
theorem dX8_carryOut_131 : decode cX8_carryOut 131 = .ok (.goto 3, 3) := by decide +kernel
theorem dX8_carryOut_134 : decode cX8_carryOut 134 = .ok (.return_, 1) := by decide +kernel
theorem dJ6_bitCount_0f7a4_0 : decode cJ6_bitCount_0f7a4 0 = .ok (.iload_n 0, 1) := by decide +kernel
theorem dJ6_bitCount_0f7a4_1 : decode cJ6_bitCount_0f7a4 1 = .ok (.iload_n 0, 1) := by decide +kernel
theorem dJ6_bitCount_0f7a4_2 : decode cJ6_bitCount_0f7a4 2 = .ok (.iconst 1, 1) := by decide +kernel
theorem dJ6_bitCount_0f7a4_3 : decode cJ6_bitCount_0f7a4 3 = .ok (.iushr, 1) := by decide +kernel
theorem dJ6_bitCount_0f7a4_4 : decode cJ6_bitCount_0f7a4 4 = .ok (.ldc_w 265, 3) := by decide +kernel
theorem dJ6_bitCount_0f7a4_7 : decode cJ6_bitCount_0f7a4 7 = .ok (.iand, 1) := by decide +kernel
theorem dJ6_bitCount_0f7a4_8 : decode cJ6_bitCount_0f7a4 8 = .ok (.isub, 1) := by decide +kernel
theorem dJ6_bitCount_0f7a4_9 : decode cJ6_bitCount_0f7a4 9 = .ok (.istore_n 0, 1) := by decide +kernel
theorem dJ6_bitCount_0f7a4_10 : decode cJ6_bitCount_0f7a4 10 = .ok (.iload_n 0, 1) := by decide +kernel
theorem dJ6_bitCount_0f7a4_11 : decode cJ6_bitCount_0f7a4 11 = .ok (.ldc_w 266, 3) := by decide +kernel
theorem dJ6_bitCount_0f7a4_14 : decode cJ6_bitCount_0f7a4 14 = .ok (.iand, 1) := by decide +kernel
theorem dJ6_bitCount_0f7a4_15 : decode cJ6_bitCount_0f7a4 15 = .ok (.iload_n 0, 1) := by decide +kernel
theorem dJ6_bitCount_0f7a4_16 : decode cJ6_bitCount_0f7a4 16 = .ok (.iconst 2, 1) := by decide +kernel
theorem dJ6_bitCount_0f7a4_17 : decode cJ6_bitCount_0f7a4 17 = .ok (.iushr, 1) := by decide +kernel
theorem dJ6_bitCount_0f7a4_18 : decode cJ6_bitCount_0f7a4 18 = .ok (.ldc_w 266, 3) := by decide +kernel
theorem dJ6_bitCount_0f7a4_21 : decode cJ6_bitCount_0f7a4 21 = .ok (.iand, 1) := by decide +kernel
theorem dJ6_bitCount_0f7a4_22 : decode cJ6_bitCount_0f7a4 22 = .ok (.iadd, 1) := by decide +kernel
theorem dJ6_bitCount_0f7a4_23 : decode cJ6_bitCount_0f7a4 23 = .ok (.istore_n 0, 1) := by decide +kernel
theorem dJ6_bitCount_0f7a4_24 : decode cJ6_bitCount_0f7a4 24 = .ok (.iload_n 0, 1) := by decide +kernel
theorem dJ6_bitCount_0f7a4_25 : decode cJ6_bitCount_0f7a4 25 = .ok (.iload_n 0, 1) := by decide +kernel
theorem dJ6_bitCount_0f7a4_26 : decode cJ6_bitCount_0f7a4 26 = .ok (.iconst 4, 1) := by decide +kernel
theorem dJ6_bitCount_0f7a4_27 : decode cJ6_bitCount_0f7a4 27 = .ok (.iushr, 1) := by decide +kernel
theorem dJ6_bitCount_0f7a4_28 : decode cJ6_bitCount_0f7a4 28 = .ok (.iadd, 1) := by decide +kernel
theorem dJ6_bitCount_0f7a4_29 : decode cJ6_bitCount_0f7a4 29 = .ok (.ldc_w 267, 3) := by decide +kernel
theorem dJ6_bitCount_0f7a4_32 : decode cJ6_bitCount_0f7a4 32 = .ok (.iand, 1) := by decide +kernel
theorem dJ6_bitCount_0f7a4_33 : decode cJ6_bitCount_0f7a4 33 = .ok (.istore_n 0, 1) := by decide +kernel
theorem dJ6_bitCount_0f7a4_34 : decode cJ6_bitCount_0f7a4 34 = .ok (.iload_n 0, 1) := by decide +kernel
theorem dJ6_bitCount_0f7a4_35 : decode cJ6_bitCount_0f7a4 35 = .ok (.iload_n 0, 1) := by decide +kernel
theorem dJ6_bitCount_0f7a4_36 : decode cJ6_bitCount_0f7a4 36 = .ok (.bipush 8, 2) := by decide +kernel
theorem dJ6_bitCount_0f7a4_38 : decode cJ6_bitCount_0f7a4 38 = .ok (.iushr, 1) := by decide +kernel
theorem dJ6_bitCount_0f7a4_39 : decode cJ6_bitCount_0f7a4 39 = .ok (.iadd, 1) := by decide +kernel
theorem dJ6_bitCount_0f7a4_40 : decode cJ6_bitCount_0f7a4 40 = .ok (.istore_n 0, 1) := by decide +kernel
theorem dJ6_bitCount_0f7a4_41 : decode cJ6_bitCount_0f7a4 41 = .ok (.iload_n 0, 1) := by decide +kernel
theorem dJ6_bitCount_0f7a4_42 : decode cJ6_bitCount_0f7a4 42 = .ok (.iload_n 0, 1) := by decide +kernel
theorem dJ6_bitCount_0f7a4_43 : decode cJ6_bitCount_0f7a4 43 = .ok (.bipush 16, 2) := by decide +kernel
theorem dJ6_bitCount_0f7a4_45 : decode cJ6_bitCount_0f7a4 45 = .ok (.iushr, 1) := by decide +kernel
theorem dJ6_bitCount_0f7a4_46 : decode cJ6_bitCount_0f7a4 46 = .ok (.iadd, 1) := by decide +kernel
theorem dJ6_bitCount_0f7a4_47 : decode cJ6_bitCount_0f7a4 47 = .ok (.istore_n 0, 1) := by decide +kernel
theorem dJ6_bitCount_0f7a4_48 : decode cJ6_bitCount_0f7a4 48 = .ok (.iload_n 0, 1) := by decide +kernel
theorem dJ6_bitCount_0f7a4_49 : decode cJ6_bitCount_0f7a4 49 = .ok (.bipush 63, 2) := by decide +kernel
theorem dJ6_bitCount_0f7a4_51 : decode cJ6_bitCount_0f7a4 51 = .ok (.iand, 1) := by decide +kernel
theorem dJ6_bitCount_0f7a4_52 : decode cJ6_bitCount_0f7a4 52 = .ok (.ireturn, 1) := by decide +kernel
theorem dJ9_min_7cf53_0 : decode cJ9_min_7cf53 0 = .ok (.iload_n 0, 1) := by decide +kernel
theorem dJ9_min_7cf53_1 : decode cJ9_min_7cf53 1 = .ok (.iload_n 1, 1) := by decide +kernel
theorem dJ9_min_7cf53_2 : decode cJ9_min_7cf53 2 = .ok (.if_icmp .gt 7, 3) := by decide +kernel
theorem dJ9_min_7cf53_5 : decode cJ9_min_7cf53 5 = .ok (.iload_n 0, 1) := by decide +kernel
theorem dJ9_min_7cf53_6 : decode cJ9_min_7cf53 6 = .ok (.goto 4, 3) := by decide +kernel
theorem dJ9_min_7cf53_9 : decode cJ9_min_7cf53 9 = .ok (.iload_n 1, 1) := by decide +kernel
theorem dJ9_min_7cf53_10 : decode cJ9_min_7cf53 10 = .ok (.ireturn, 1) := by decide +kernel
theorem dL_tryAppend_0 : decode cL_tryAppend 0 = .ok (.aload_n 0, 1) := by decide +kernel
theorem dL_tryAppend_1 : decode cL_tryAppend 1 = .ok (.iload_n 1, 1) := by decide +kernel
theorem dL_tryAppend_2 : decode cL_tryAppend 2 = .ok (.invokevirtual 7, 3) := by decide +kernel
theorem dL_tryAppend_5 : decode cL_tryAppend 5 = .ok (.ireturn, 1) := by decide +kernel
theorem dL_tryAppend_6 : decode cL_tryAppend 6 = .ok (.astore_n 2, 1) := by decide +kernel
theorem dL_tryAppend_7 : decode cL_tryAppend 7 = .ok (.sipush (-1002), 3) := by decide +kernel
theorem dL_tryAppend_10 : decode cL_tryAppend 10 = .ok (.ireturn, 1) := by decide +kernel
theorem dL_tryAppend_11 : decode cL_tryAppend 11 = .ok (.astore_n 2, 1) := by decide +kernel
theorem dL_tryAppend_12 : decode cL_tryAppend 12 = .ok (.sipush (-1003), 3) := by decide +kernel
theorem dL_tryAppend_15 : decode cL_tryAppend 15 = .ok (.ireturn, 1) := by decide +kernel
theorem dL_tryLoad_0 : decode cL_tryLoad 0 = .ok (.aload_n 0, 1) := by decide +kernel
theorem dL_tryLoad_1 : decode cL_tryLoad 1 = .ok (.invokevirtual 17, 3) := by decide +kernel
theorem dL_tryLoad_4 : decode cL_tryLoad 4 = .ok (.ireturn, 1) := by decide +kernel
theorem dL_tryLoad_5 : decode cL_tryLoad 5 = .ok (.astore_n 1, 1) := by decide +kernel
theorem dL_tryLoad_6 : decode cL_tryLoad 6 = .ok (.sipush (-1003), 3) := by decide +kernel
theorem dL_tryLoad_9 : decode cL_tryLoad 9 = .ok (.ireturn, 1) := by decide +kernel
theorem dL_tryAbout_0 : decode cL_tryAbout 0 = .ok (.aload_n 0, 1) := by decide +kernel
theorem dL_tryAbout_1 : decode cL_tryAbout 1 = .ok (.iload_n 1, 1) := by decide +kernel
theorem dL_tryAbout_2 : decode cL_tryAbout 2 = .ok (.invokevirtual 21, 3) := by decide +kernel
theorem dL_tryAbout_5 : decode cL_tryAbout 5 = .ok (.ireturn, 1) := by decide +kernel
theorem dL_tryAbout_6 : decode cL_tryAbout 6 = .ok (.astore_n 2, 1) := by decide +kernel
theorem dL_tryAbout_7 : decode cL_tryAbout 7 = .ok (.sipush (-1002), 3) := by decide +kernel
theorem dL_tryAbout_10 : decode cL_tryAbout 10 = .ok (.ireturn, 1) := by decide +kernel
theorem dL_tryBoiler_0 : decode cL_tryBoiler 0 = .ok (.aload_n 0, 1) := by decide +kernel
theorem dL_tryBoiler_1 : decode cL_tryBoiler 1 = .ok (.iload_n 1, 1) := by decide +kernel
theorem dL_tryBoiler_2 : decode cL_tryBoiler 2 = .ok (.iload_n 2, 1) := by decide +kernel
theorem dL_tryBoiler_3 : decode cL_tryBoiler 3 = .ok (.invokevirtual 24, 3) := by decide +kernel
theorem dL_tryBoiler_6 : decode cL_tryBoiler 6 = .ok (.ireturn, 1) := by decide +kernel
theorem dL_tryBoiler_7 : decode cL_tryBoiler 7 = .ok (.astore_n 3, 1) := by decide +kernel
theorem dL_tryBoiler_8 : decode cL_tryBoiler 8 = .ok (.sipush (-1001), 3) := by decide +kernel
theorem dL_tryBoiler_11 : decode cL_tryBoiler 11 = .ok (.ireturn, 1) := by decide +kernel
theorem dL_tryBoiler_12 : decode cL_tryBoiler 12 = .ok (.astore_n 3, 1) := by decide +kernel
theorem dL_tryBoiler_13 : decode cL_tryBoiler 13 = .ok (.sipush (-1002), 3) := by decide +kernel
theorem dL_tryBoiler_16 : decode cL_tryBoiler 16 = .ok (.ireturn, 1) := by decide +kernel
theorem dL_tryFlue_0 : decode cL_tryFlue 0 = .ok (.aload_n 0, 1) := by decide +kernel
theorem dL_tryFlue_1 : decode cL_tryFlue 1 = .ok (.iload_n 1, 1) := by decide +kernel
theorem dL_tryFlue_2 : decode cL_tryFlue 2 = .ok (.iload_n 2, 1) := by decide +kernel
theorem dL_tryFlue_3 : decode cL_tryFlue 3 = .ok (.invokevirtual 30, 3) := by decide +kernel
theorem dL_tryFlue_6 : decode cL_tryFlue 6 = .ok (.ireturn, 1) := by decide +kernel
theorem dL_tryFlue_7 : decode cL_tryFlue 7 = .ok (.astore_n 3, 1) := by decide +kernel
theorem dL_tryFlue_8 : decode cL_tryFlue 8 = .ok (.sipush (-1001), 3) := by decide +kernel
theorem dL_tryFlue_11 : decode cL_tryFlue 11 = .ok (.ireturn, 1) := by decide +kernel
theorem dL_tryFlue_12 : decode cL_tryFlue 12 = .ok (.astore_n 3, 1) := by decide +kernel
theorem dL_tryFlue_13 : decode cL_tryFlue 13 = .ok (.sipush (-1002), 3) := by decide +kernel
theorem dL_tryFlue_16 : decode cL_tryFlue 16 = .ok (.ireturn, 1) := by decide +kernel
theorem dL_tryLayer_0 : decode cL_tryLayer 0 = .ok (.aload_n 0, 1) := by decide +kernel
theorem dL_tryLayer_1 : decode cL_tryLayer 1 = .ok (.iload_n 1, 1) := by decide +kernel
theorem dL_tryLayer_2 : decode cL_tryLayer 2 = .ok (.invokevirtual 33, 3) := by decide +kernel
theorem dL_tryLayer_5 : decode cL_tryLayer 5 = .ok (.ireturn, 1) := by decide +kernel
theorem dL_tryLayer_6 : decode cL_tryLayer 6 = .ok (.astore_n 2, 1) := by decide +kernel
theorem dL_tryLayer_7 : decode cL_tryLayer 7 = .ok (.sipush (-1001), 3) := by decide +kernel
theorem dL_tryLayer_10 : decode cL_tryLayer 10 = .ok (.ireturn, 1) := by decide +kernel
theorem dL_tryAccount_0 : decode cL_tryAccount 0 = .ok (.aload_n 0, 1) := by decide +kernel
theorem dL_tryAccount_1 : decode cL_tryAccount 1 = .ok (.iload_n 1, 1) := by decide +kernel
theorem dL_tryAccount_2 : decode cL_tryAccount 2 = .ok (.invokevirtual 36, 3) := by decide +kernel
theorem dL_tryAccount_5 : decode cL_tryAccount 5 = .ok (.ireturn, 1) := by decide +kernel
theorem dL_tryAccount_6 : decode cL_tryAccount 6 = .ok (.astore_n 2, 1) := by decide +kernel
theorem dL_tryAccount_7 : decode cL_tryAccount 7 = .ok (.sipush (-1002), 3) := by decide +kernel
theorem dL_tryAccount_10 : decode cL_tryAccount 10 = .ok (.ireturn, 1) := by decide +kernel
theorem dL_tryTick_0 : decode cL_tryTick 0 = .ok (.aload_n 0, 1) := by decide +kernel
theorem dL_tryTick_1 : decode cL_tryTick 1 = .ok (.iload_n 1, 1) := by decide +kernel
theorem dL_tryTick_2 : decode cL_tryTick 2 = .ok (.iload_n 2, 1) := by decide +kernel
theorem dL_tryTick_3 : decode cL_tryTick 3 = .ok (.invokevirtual 39, 3) := by decide +kernel
theorem dL_tryTick_6 : decode cL_tryTick 6 = .ok (.ireturn, 1) := by decide +kernel
theorem dL_tryTick_7 : decode cL_tryTick 7 = .ok (.astore_n 3, 1) := by decide +kernel
theorem dL_tryTick_8 : decode cL_tryTick 8 = .ok (.sipush (-1002), 3) := by decide +kernel
theorem dL_tryTick_11 : decode cL_tryTick 11 = .ok (.ireturn, 1) := by decide +kernel
theorem dL_tryDraw_0 : decode cL_tryDraw 0 = .ok (.aload_n 0, 1) := by decide +kernel
theorem dL_tryDraw_1 : decode cL_tryDraw 1 = .ok (.iload_n 1, 1) := by decide +kernel
theorem dL_tryDraw_2 : decode cL_tryDraw 2 = .ok (.invokevirtual 42, 3) := by decide +kernel
theorem dL_tryDraw_5 : decode cL_tryDraw 5 = .ok (.ireturn, 1) := by decide +kernel
theorem dL_tryDraw_6 : decode cL_tryDraw 6 = .ok (.astore_n 2, 1) := by decide +kernel
theorem dL_tryDraw_7 : decode cL_tryDraw 7 = .ok (.sipush (-1002), 3) := by decide +kernel
theorem dL_tryDraw_10 : decode cL_tryDraw 10 = .ok (.ireturn, 1) := by decide +kernel
theorem dL_trySet_0 : decode cL_trySet 0 = .ok (.aload_n 0, 1) := by decide +kernel
theorem dL_trySet_1 : decode cL_trySet 1 = .ok (.iload_n 1, 1) := by decide +kernel
theorem dL_trySet_2 : decode cL_trySet 2 = .ok (.iload_n 2, 1) := by decide +kernel
theorem dL_trySet_3 : decode cL_trySet 3 = .ok (.invokevirtual 45, 3) := by decide +kernel
theorem dL_trySet_6 : decode cL_trySet 6 = .ok (.ireturn, 1) := by decide +kernel
theorem dL_trySet_7 : decode cL_trySet 7 = .ok (.astore_n 3, 1) := by decide +kernel
theorem dL_trySet_8 : decode cL_trySet 8 = .ok (.sipush (-1002), 3) := by decide +kernel
theorem dL_trySet_11 : decode cL_trySet 11 = .ok (.ireturn, 1) := by decide +kernel
theorem dL_trySetFlue_0 : decode cL_trySetFlue 0 = .ok (.aload_n 0, 1) := by decide +kernel
theorem dL_trySetFlue_1 : decode cL_trySetFlue 1 = .ok (.iload_n 1, 1) := by decide +kernel
theorem dL_trySetFlue_2 : decode cL_trySetFlue 2 = .ok (.iload_n 2, 1) := by decide +kernel
theorem dL_trySetFlue_3 : decode cL_trySetFlue 3 = .ok (.invokevirtual 48, 3) := by decide +kernel
theorem dL_trySetFlue_6 : decode cL_trySetFlue 6 = .ok (.ireturn, 1) := by decide +kernel
theorem dL_trySetFlue_7 : decode cL_trySetFlue 7 = .ok (.astore_n 3, 1) := by decide +kernel
theorem dL_trySetFlue_8 : decode cL_trySetFlue 8 = .ok (.sipush (-1001), 3) := by decide +kernel
theorem dL_trySetFlue_11 : decode cL_trySetFlue 11 = .ok (.ireturn, 1) := by decide +kernel
theorem dL_trySetDraft_0 : decode cL_trySetDraft 0 = .ok (.aload_n 0, 1) := by decide +kernel
theorem dL_trySetDraft_1 : decode cL_trySetDraft 1 = .ok (.iload_n 1, 1) := by decide +kernel
theorem dL_trySetDraft_2 : decode cL_trySetDraft 2 = .ok (.iload_n 2, 1) := by decide +kernel
theorem dL_trySetDraft_3 : decode cL_trySetDraft 3 = .ok (.invokevirtual 52, 3) := by decide +kernel
theorem dL_trySetDraft_6 : decode cL_trySetDraft 6 = .ok (.ireturn, 1) := by decide +kernel
theorem dL_trySetDraft_7 : decode cL_trySetDraft 7 = .ok (.astore_n 3, 1) := by decide +kernel
theorem dL_trySetDraft_8 : decode cL_trySetDraft 8 = .ok (.sipush (-1001), 3) := by decide +kernel
theorem dL_trySetDraft_11 : decode cL_trySetDraft 11 = .ok (.ireturn, 1) := by decide +kernel
theorem dL_trySetDraft_12 : decode cL_trySetDraft 12 = .ok (.astore_n 3, 1) := by decide +kernel
theorem dL_trySetDraft_13 : decode cL_trySetDraft 13 = .ok (.sipush (-1002), 3) := by decide +kernel
theorem dL_trySetDraft_16 : decode cL_trySetDraft 16 = .ok (.ireturn, 1) := by decide +kernel
theorem dL_tryLock_0 : decode cL_tryLock 0 = .ok (.aload_n 0, 1) := by decide +kernel
theorem dL_tryLock_1 : decode cL_tryLock 1 = .ok (.iload_n 1, 1) := by decide +kernel
theorem dL_tryLock_2 : decode cL_tryLock 2 = .ok (.invokevirtual 55, 3) := by decide +kernel
theorem dL_tryLock_5 : decode cL_tryLock 5 = .ok (.ireturn, 1) := by decide +kernel
theorem dL_tryLock_6 : decode cL_tryLock 6 = .ok (.astore_n 2, 1) := by decide +kernel
theorem dL_tryLock_7 : decode cL_tryLock 7 = .ok (.sipush (-1001), 3) := by decide +kernel
theorem dL_tryLock_10 : decode cL_tryLock 10 = .ok (.ireturn, 1) := by decide +kernel
theorem dL_tryLock_11 : decode cL_tryLock 11 = .ok (.astore_n 2, 1) := by decide +kernel
theorem dL_tryLock_12 : decode cL_tryLock 12 = .ok (.sipush (-1003), 3) := by decide +kernel
theorem dL_tryLock_15 : decode cL_tryLock 15 = .ok (.ireturn, 1) := by decide +kernel
theorem dL_tryUnlock_0 : decode cL_tryUnlock 0 = .ok (.aload_n 0, 1) := by decide +kernel
theorem dL_tryUnlock_1 : decode cL_tryUnlock 1 = .ok (.iload_n 1, 1) := by decide +kernel
theorem dL_tryUnlock_2 : decode cL_tryUnlock 2 = .ok (.invokevirtual 58, 3) := by decide +kernel
theorem dL_tryUnlock_5 : decode cL_tryUnlock 5 = .ok (.ireturn, 1) := by decide +kernel
theorem dL_tryUnlock_6 : decode cL_tryUnlock 6 = .ok (.astore_n 2, 1) := by decide +kernel
theorem dL_tryUnlock_7 : decode cL_tryUnlock 7 = .ok (.sipush (-1001), 3) := by decide +kernel
theorem dL_tryUnlock_10 : decode cL_tryUnlock 10 = .ok (.ireturn, 1) := by decide +kernel
theorem dL_tryUnlock_11 : decode cL_tryUnlock 11 = .ok (.astore_n 2, 1) := by decide +kernel
theorem dL_tryUnlock_12 : decode cL_tryUnlock 12 = .ok (.sipush (-1003), 3) := by decide +kernel
theorem dL_tryUnlock_15 : decode cL_tryUnlock 15 = .ok (.ireturn, 1) := by decide +kernel
theorem dL_tryPutOff_0 : decode cL_tryPutOff 0 = .ok (.aload_n 0, 1) := by decide +kernel
theorem dL_tryPutOff_1 : decode cL_tryPutOff 1 = .ok (.iload_n 1, 1) := by decide +kernel
theorem dL_tryPutOff_2 : decode cL_tryPutOff 2 = .ok (.invokevirtual 61, 3) := by decide +kernel
theorem dL_tryPutOff_5 : decode cL_tryPutOff 5 = .ok (.ireturn, 1) := by decide +kernel
theorem dL_tryPutOff_6 : decode cL_tryPutOff 6 = .ok (.astore_n 2, 1) := by decide +kernel
theorem dL_tryPutOff_7 : decode cL_tryPutOff 7 = .ok (.sipush (-1001), 3) := by decide +kernel
theorem dL_tryPutOff_10 : decode cL_tryPutOff 10 = .ok (.ireturn, 1) := by decide +kernel
theorem dL_tryPutOff_11 : decode cL_tryPutOff 11 = .ok (.astore_n 2, 1) := by decide +kernel
theorem dL_tryPutOff_12 : decode cL_tryPutOff 12 = .ok (.sipush (-1003), 3) := by decide +kernel
theorem dL_tryPutOff_15 : decode cL_tryPutOff 15 = .ok (.ireturn, 1) := by decide +kernel
theorem dL_tryUndo_0 : decode cL_tryUndo 0 = .ok (.aload_n 0, 1) := by decide +kernel
theorem dL_tryUndo_1 : decode cL_tryUndo 1 = .ok (.invokevirtual 64, 3) := by decide +kernel
theorem dL_tryUndo_4 : decode cL_tryUndo 4 = .ok (.ireturn, 1) := by decide +kernel
theorem dL_tryUndo_5 : decode cL_tryUndo 5 = .ok (.astore_n 1, 1) := by decide +kernel
theorem dL_tryUndo_6 : decode cL_tryUndo 6 = .ok (.sipush (-1003), 3) := by decide +kernel
theorem dL_tryUndo_9 : decode cL_tryUndo 9 = .ok (.ireturn, 1) := by decide +kernel
theorem dL_tryWhyNot_0 : decode cL_tryWhyNot 0 = .ok (.aload_n 0, 1) := by decide +kernel
theorem dL_tryWhyNot_1 : decode cL_tryWhyNot 1 = .ok (.iload_n 1, 1) := by decide +kernel
theorem dL_tryWhyNot_2 : decode cL_tryWhyNot 2 = .ok (.invokevirtual 67, 3) := by decide +kernel
theorem dL_tryWhyNot_5 : decode cL_tryWhyNot 5 = .ok (.ireturn, 1) := by decide +kernel
theorem dL_tryWhyNot_6 : decode cL_tryWhyNot 6 = .ok (.astore_n 2, 1) := by decide +kernel
theorem dL_tryWhyNot_7 : decode cL_tryWhyNot 7 = .ok (.sipush (-1001), 3) := by decide +kernel
theorem dL_tryWhyNot_10 : decode cL_tryWhyNot 10 = .ok (.ireturn, 1) := by decide +kernel
theorem dL_trySmallestSet_0 : decode cL_trySmallestSet 0 = .ok (.aload_n 0, 1) := by decide +kernel
theorem dL_trySmallestSet_1 : decode cL_trySmallestSet 1 = .ok (.iload_n 1, 1) := by decide +kernel
theorem dL_trySmallestSet_2 : decode cL_trySmallestSet 2 = .ok (.iload_n 2, 1) := by decide +kernel
theorem dL_trySmallestSet_3 : decode cL_trySmallestSet 3 = .ok (.invokevirtual 70, 3) := by decide +kernel
theorem dL_trySmallestSet_6 : decode cL_trySmallestSet 6 = .ok (.ireturn, 1) := by decide +kernel
theorem dL_trySmallestSet_7 : decode cL_trySmallestSet 7 = .ok (.astore_n 3, 1) := by decide +kernel
theorem dL_trySmallestSet_8 : decode cL_trySmallestSet 8 = .ok (.sipush (-1002), 3) := by decide +kernel
theorem dL_trySmallestSet_11 : decode cL_trySmallestSet 11 = .ok (.ireturn, 1) := by decide +kernel
theorem dL_tryAhead_0 : decode cL_tryAhead 0 = .ok (.aload_n 0, 1) := by decide +kernel
theorem dL_tryAhead_1 : decode cL_tryAhead 1 = .ok (.iload_n 1, 1) := by decide +kernel
theorem dL_tryAhead_2 : decode cL_tryAhead 2 = .ok (.iload_n 2, 1) := by decide +kernel
theorem dL_tryAhead_3 : decode cL_tryAhead 3 = .ok (.iload_n 3, 1) := by decide +kernel
theorem dL_tryAhead_4 : decode cL_tryAhead 4 = .ok (.invokevirtual 73, 3) := by decide +kernel
theorem dL_tryAhead_7 : decode cL_tryAhead 7 = .ok (.ireturn, 1) := by decide +kernel
theorem dL_tryAhead_8 : decode cL_tryAhead 8 = .ok (.astore 4, 2) := by decide +kernel
theorem dL_tryAhead_10 : decode cL_tryAhead 10 = .ok (.sipush (-1002), 3) := by decide +kernel
theorem dL_tryAhead_13 : decode cL_tryAhead 13 = .ok (.ireturn, 1) := by decide +kernel
theorem dL_tryWarmAfter_0 : decode cL_tryWarmAfter 0 = .ok (.aload_n 0, 1) := by decide +kernel
theorem dL_tryWarmAfter_1 : decode cL_tryWarmAfter 1 = .ok (.iload_n 1, 1) := by decide +kernel
theorem dL_tryWarmAfter_2 : decode cL_tryWarmAfter 2 = .ok (.iload_n 2, 1) := by decide +kernel
theorem dL_tryWarmAfter_3 : decode cL_tryWarmAfter 3 = .ok (.invokevirtual 77, 3) := by decide +kernel
theorem dL_tryWarmAfter_6 : decode cL_tryWarmAfter 6 = .ok (.ireturn, 1) := by decide +kernel
theorem dL_tryWarmAfter_7 : decode cL_tryWarmAfter 7 = .ok (.astore_n 3, 1) := by decide +kernel
theorem dL_tryWarmAfter_8 : decode cL_tryWarmAfter 8 = .ok (.sipush (-1002), 3) := by decide +kernel
theorem dL_tryWarmAfter_11 : decode cL_tryWarmAfter 11 = .ok (.ireturn, 1) := by decide +kernel
theorem dL_tryBearable_0 : decode cL_tryBearable 0 = .ok (.aload_n 0, 1) := by decide +kernel
theorem dL_tryBearable_1 : decode cL_tryBearable 1 = .ok (.iload_n 1, 1) := by decide +kernel
theorem dL_tryBearable_2 : decode cL_tryBearable 2 = .ok (.iload_n 2, 1) := by decide +kernel
theorem dL_tryBearable_3 : decode cL_tryBearable 3 = .ok (.invokevirtual 80, 3) := by decide +kernel
theorem dL_tryBearable_6 : decode cL_tryBearable 6 = .ok (.ireturn, 1) := by decide +kernel
theorem dL_tryBearable_7 : decode cL_tryBearable 7 = .ok (.astore_n 3, 1) := by decide +kernel
theorem dL_tryBearable_8 : decode cL_tryBearable 8 = .ok (.sipush (-1002), 3) := by decide +kernel
theorem dL_tryBearable_11 : decode cL_tryBearable 11 = .ok (.ireturn, 1) := by decide +kernel
theorem dL_tryCheapestPurge_0 : decode cL_tryCheapestPurge 0 = .ok (.aload_n 0, 1) := by decide +kernel
theorem dL_tryCheapestPurge_1 : decode cL_tryCheapestPurge 1 = .ok (.iload_n 1, 1) := by decide +kernel
theorem dL_tryCheapestPurge_2 : decode cL_tryCheapestPurge 2 = .ok (.iload_n 2, 1) := by decide +kernel
theorem dL_tryCheapestPurge_3 : decode cL_tryCheapestPurge 3 = .ok (.invokevirtual 83, 3) := by decide +kernel
theorem dL_tryCheapestPurge_6 : decode cL_tryCheapestPurge 6 = .ok (.ireturn, 1) := by decide +kernel
theorem dL_tryCheapestPurge_7 : decode cL_tryCheapestPurge 7 = .ok (.astore_n 3, 1) := by decide +kernel
theorem dL_tryCheapestPurge_8 : decode cL_tryCheapestPurge 8 = .ok (.sipush (-1002), 3) := by decide +kernel
theorem dL_tryCheapestPurge_11 : decode cL_tryCheapestPurge 11 = .ok (.ireturn, 1) := by decide +kernel
theorem dL_tryScript_0 : decode cL_tryScript 0 = .ok (.aload_n 0, 1) := by decide +kernel
theorem dL_tryScript_1 : decode cL_tryScript 1 = .ok (.iload_n 1, 1) := by decide +kernel
theorem dL_tryScript_2 : decode cL_tryScript 2 = .ok (.lload_n 2, 1) := by decide +kernel
theorem dL_tryScript_3 : decode cL_tryScript 3 = .ok (.invokevirtual 86, 3) := by decide +kernel
theorem dL_tryScript_6 : decode cL_tryScript 6 = .ok (.ireturn, 1) := by decide +kernel
theorem dL_tryScript_7 : decode cL_tryScript 7 = .ok (.astore 4, 2) := by decide +kernel
theorem dL_tryScript_9 : decode cL_tryScript 9 = .ok (.sipush (-1002), 3) := by decide +kernel
theorem dL_tryScript_12 : decode cL_tryScript 12 = .ok (.ireturn, 1) := by decide +kernel
theorem dL_trySimulate_0 : decode cL_trySimulate 0 = .ok (.aload_n 0, 1) := by decide +kernel
theorem dL_trySimulate_1 : decode cL_trySimulate 1 = .ok (.lload_n 1, 1) := by decide +kernel
theorem dL_trySimulate_2 : decode cL_trySimulate 2 = .ok (.iload_n 3, 1) := by decide +kernel
theorem dL_trySimulate_3 : decode cL_trySimulate 3 = .ok (.invokevirtual 90, 3) := by decide +kernel
theorem dL_trySimulate_6 : decode cL_trySimulate 6 = .ok (.ireturn, 1) := by decide +kernel
theorem dL_trySimulate_7 : decode cL_trySimulate 7 = .ok (.astore 4, 2) := by decide +kernel
theorem dL_trySimulate_9 : decode cL_trySimulate 9 = .ok (.sipush (-1002), 3) := by decide +kernel
theorem dL_trySimulate_12 : decode cL_trySimulate 12 = .ok (.ireturn, 1) := by decide +kernel
theorem dL_trySave_0 : decode cL_trySave 0 = .ok (.aload_n 0, 1) := by decide +kernel
theorem dL_trySave_1 : decode cL_trySave 1 = .ok (.iload_n 1, 1) := by decide +kernel
theorem dL_trySave_2 : decode cL_trySave 2 = .ok (.invokevirtual 94, 3) := by decide +kernel
theorem dL_trySave_5 : decode cL_trySave 5 = .ok (.ireturn, 1) := by decide +kernel
theorem dL_trySave_6 : decode cL_trySave 6 = .ok (.astore_n 2, 1) := by decide +kernel
theorem dL_trySave_7 : decode cL_trySave 7 = .ok (.sipush (-1001), 3) := by decide +kernel
theorem dL_trySave_10 : decode cL_trySave 10 = .ok (.ireturn, 1) := by decide +kernel
theorem dL_tryRestore_0 : decode cL_tryRestore 0 = .ok (.aload_n 0, 1) := by decide +kernel
theorem dL_tryRestore_1 : decode cL_tryRestore 1 = .ok (.iload_n 1, 1) := by decide +kernel
theorem dL_tryRestore_2 : decode cL_tryRestore 2 = .ok (.invokevirtual 97, 3) := by decide +kernel
theorem dL_tryRestore_5 : decode cL_tryRestore 5 = .ok (.ireturn, 1) := by decide +kernel
theorem dL_tryRestore_6 : decode cL_tryRestore 6 = .ok (.astore_n 2, 1) := by decide +kernel
theorem dL_tryRestore_7 : decode cL_tryRestore 7 = .ok (.sipush (-1001), 3) := by decide +kernel
theorem dL_tryRestore_10 : decode cL_tryRestore 10 = .ok (.ireturn, 1) := by decide +kernel
theorem dL_tryRestore_11 : decode cL_tryRestore 11 = .ok (.astore_n 2, 1) := by decide +kernel
theorem dL_tryRestore_12 : decode cL_tryRestore 12 = .ok (.sipush (-1003), 3) := by decide +kernel
theorem dL_tryRestore_15 : decode cL_tryRestore 15 = .ok (.ireturn, 1) := by decide +kernel
theorem dL_number_0 : decode cL_number 0 = .ok (.iload_n 1, 1) := by decide +kernel
theorem dL_number_1 : decode cL_number 1 = .ok (.aload_n 0, 1) := by decide +kernel
theorem dL_number_2 : decode cL_number 2 = .ok (.arraylength, 1) := by decide +kernel
theorem dL_number_3 : decode cL_number 3 = .ok (.if_icmp .ge 9, 3) := by decide +kernel
theorem dL_number_6 : decode cL_number 6 = .ok (.aload_n 0, 1) := by decide +kernel
theorem dL_number_7 : decode cL_number 7 = .ok (.iload_n 1, 1) := by decide +kernel
theorem dL_number_8 : decode cL_number 8 = .ok (.iaload, 1) := by decide +kernel
theorem dL_number_9 : decode cL_number 9 = .ok (.goto 13, 3) := by decide +kernel
theorem dL_number_12 : decode cL_number 12 = .ok (.ldc 100, 2) := by decide +kernel
theorem dL_number_14 : decode cL_number 14 = .ok (.iload_n 1, 1) := by decide +kernel
theorem dL_number_15 : decode cL_number 15 = .ok (.iconst 5, 1) := by decide +kernel
theorem dL_number_16 : decode cL_number 16 = .ok (.iadd, 1) := by decide +kernel
theorem dL_number_17 : decode cL_number 17 = .ok (.imul, 1) := by decide +kernel
theorem dL_number_18 : decode cL_number 18 = .ok (.sipush 10007, 3) := by decide +kernel
theorem dL_number_21 : decode cL_number 21 = .ok (.iadd, 1) := by decide +kernel
theorem dL_number_22 : decode cL_number 22 = .ok (.ldc 101, 2) := by decide +kernel
theorem dL_number_24 : decode cL_number 24 = .ok (.iand, 1) := by decide +kernel
theorem dL_number_25 : decode cL_number 25 = .ok (.ireturn, 1) := by decide +kernel
theorem dL_put_0 : decode cL_put 0 = .ok (.aload_n 0, 1) := by decide +kernel
theorem dL_put_1 : decode cL_put 1 = .ok (.iload_n 2, 1) := by decide +kernel
theorem dL_put_2 : decode cL_put 2 = .ok (.invokestatic 102, 3) := by decide +kernel
theorem dL_put_5 : decode cL_put 5 = .ok (.ifCond .le 15, 3) := by decide +kernel
theorem dL_put_8 : decode cL_put 8 = .ok (.aload_n 1, 1) := by decide +kernel
theorem dL_put_9 : decode cL_put 9 = .ok (.iload_n 2, 1) := by decide +kernel
theorem dL_put_10 : decode cL_put 10 = .ok (.invokestatic 102, 3) := by decide +kernel
theorem dL_put_13 : decode cL_put 13 = .ok (.ifCond .le 7, 3) := by decide +kernel
theorem dL_put_16 : decode cL_put 16 = .ok (.iconst 1, 1) := by decide +kernel
theorem dL_put_17 : decode cL_put 17 = .ok (.goto 4, 3) := by decide +kernel
theorem dL_put_20 : decode cL_put 20 = .ok (.iconst 0, 1) := by decide +kernel
theorem dL_put_21 : decode cL_put 21 = .ok (.ireturn, 1) := by decide +kernel
theorem dL_two_0 : decode cL_two 0 = .ok (.aload_n 0, 1) := by decide +kernel
theorem dL_two_1 : decode cL_two 1 = .ok (.aload_n 1, 1) := by decide +kernel
theorem dL_two_2 : decode cL_two 2 = .ok (.bipush 48, 2) := by decide +kernel
theorem dL_two_4 : decode cL_two 4 = .ok (.iload_n 2, 1) := by decide +kernel
theorem dL_two_5 : decode cL_two 5 = .ok (.bipush 10, 2) := by decide +kernel
theorem dL_two_7 : decode cL_two 7 = .ok (.idiv, 1) := by decide +kernel
theorem dL_two_8 : decode cL_two 8 = .ok (.iadd, 1) := by decide +kernel
theorem dL_two_9 : decode cL_two 9 = .ok (.invokestatic 108, 3) := by decide +kernel
theorem dL_two_12 : decode cL_two 12 = .ok (.ifCond .eq 22, 3) := by decide +kernel
theorem dL_two_15 : decode cL_two 15 = .ok (.aload_n 0, 1) := by decide +kernel
theorem dL_two_16 : decode cL_two 16 = .ok (.aload_n 1, 1) := by decide +kernel
theorem dL_two_17 : decode cL_two 17 = .ok (.bipush 48, 2) := by decide +kernel
theorem dL_two_19 : decode cL_two 19 = .ok (.iload_n 2, 1) := by decide +kernel
theorem dL_two_20 : decode cL_two 20 = .ok (.bipush 10, 2) := by decide +kernel
theorem dL_two_22 : decode cL_two 22 = .ok (.irem, 1) := by decide +kernel
theorem dL_two_23 : decode cL_two 23 = .ok (.iadd, 1) := by decide +kernel
theorem dL_two_24 : decode cL_two 24 = .ok (.invokestatic 108, 3) := by decide +kernel
theorem dL_two_27 : decode cL_two 27 = .ok (.ifCond .eq 7, 3) := by decide +kernel
theorem dL_two_30 : decode cL_two 30 = .ok (.iconst 1, 1) := by decide +kernel
theorem dL_two_31 : decode cL_two 31 = .ok (.goto 4, 3) := by decide +kernel
theorem dL_two_34 : decode cL_two 34 = .ok (.iconst 0, 1) := by decide +kernel
theorem dL_two_35 : decode cL_two 35 = .ok (.ireturn, 1) := by decide +kernel
theorem dL_told_0 : decode cL_told 0 = .ok (.aload_n 2, 1) := by decide +kernel
theorem dL_told_1 : decode cL_told 1 = .ok (.iload_n 3, 1) := by decide +kernel
theorem dL_told_2 : decode cL_told 2 = .ok (.invokestatic 112, 3) := by decide +kernel
theorem dL_told_5 : decode cL_told 5 = .ok (.istore 4, 2) := by decide +kernel
theorem dL_told_7 : decode cL_told 7 = .ok (.aload_n 2, 1) := by decide +kernel
theorem dL_told_8 : decode cL_told 8 = .ok (.iload_n 3, 1) := by decide +kernel
theorem dL_told_9 : decode cL_told 9 = .ok (.iconst 1, 1) := by decide +kernel
theorem dL_told_10 : decode cL_told 10 = .ok (.iadd, 1) := by decide +kernel
theorem dL_told_11 : decode cL_told 11 = .ok (.invokestatic 112, 3) := by decide +kernel
theorem dL_told_14 : decode cL_told 14 = .ok (.istore 5, 2) := by decide +kernel
theorem dL_told_16 : decode cL_told 16 = .ok (.iconst 2, 1) := by decide +kernel
theorem dL_told_17 : decode cL_told 17 = .ok (.iload 4, 2) := by decide +kernel
theorem dL_told_19 : decode cL_told 19 = .ok (.bipush 7, 2) := by decide +kernel
theorem dL_told_21 : decode cL_told 21 = .ok (.irem, 1) := by decide +kernel
theorem dL_told_22 : decode cL_told 22 = .ok (.iadd, 1) := by decide +kernel
theorem dL_told_23 : decode cL_told 23 = .ok (.istore 6, 2) := by decide +kernel
theorem dL_told_25 : decode cL_told 25 = .ok (.iconst 1, 1) := by decide +kernel
theorem dL_told_26 : decode cL_told 26 = .ok (.iload 4, 2) := by decide +kernel
theorem dL_told_28 : decode cL_told 28 = .ok (.bipush 8, 2) := by decide +kernel
theorem dL_told_30 : decode cL_told 30 = .ok (.idiv, 1) := by decide +kernel
theorem dL_told_31 : decode cL_told 31 = .ok (.iconst 5, 1) := by decide +kernel
theorem dL_told_32 : decode cL_told 32 = .ok (.irem, 1) := by decide +kernel
theorem dL_told_33 : decode cL_told 33 = .ok (.iadd, 1) := by decide +kernel
theorem dL_told_34 : decode cL_told 34 = .ok (.istore 7, 2) := by decide +kernel
theorem dL_told_36 : decode cL_told 36 = .ok (.aload_n 0, 1) := by decide +kernel
theorem dL_told_37 : decode cL_told 37 = .ok (.invokevirtual 116, 3) := by decide +kernel
theorem dL_told_40 : decode cL_told 40 = .ok (.aload_n 1, 1) := by decide +kernel
theorem dL_told_41 : decode cL_told 41 = .ok (.invokevirtual 116, 3) := by decide +kernel
theorem dL_told_44 : decode cL_told 44 = .ok (.if_icmp .ne 84, 3) := by decide +kernel
theorem dL_told_47 : decode cL_told 47 = .ok (.aload_n 0, 1) := by decide +kernel
theorem dL_told_48 : decode cL_told 48 = .ok (.aload_n 1, 1) := by decide +kernel
theorem dL_told_49 : decode cL_told 49 = .ok (.bipush 72, 2) := by decide +kernel
theorem dL_told_51 : decode cL_told 51 = .ok (.invokestatic 108, 3) := by decide +kernel
theorem dL_told_54 : decode cL_told 54 = .ok (.ifCond .eq 74, 3) := by decide +kernel
theorem dL_told_57 : decode cL_told 57 = .ok (.aload_n 0, 1) := by decide +kernel
theorem dL_told_58 : decode cL_told 58 = .ok (.invokevirtual 119, 3) := by decide +kernel
theorem dL_told_61 : decode cL_told 61 = .ok (.iconst 1, 1) := by decide +kernel
theorem dL_told_62 : decode cL_told 62 = .ok (.if_icmp .ne 66, 3) := by decide +kernel
theorem dL_told_65 : decode cL_told 65 = .ok (.aload_n 0, 1) := by decide +kernel
theorem dL_told_66 : decode cL_told 66 = .ok (.aload_n 1, 1) := by decide +kernel
theorem dL_told_67 : decode cL_told 67 = .ok (.bipush 48, 2) := by decide +kernel
theorem dL_told_69 : decode cL_told 69 = .ok (.iload 6, 2) := by decide +kernel
theorem dL_told_71 : decode cL_told 71 = .ok (.iadd, 1) := by decide +kernel
theorem dL_told_72 : decode cL_told 72 = .ok (.invokestatic 108, 3) := by decide +kernel
theorem dL_told_75 : decode cL_told 75 = .ok (.ifCond .eq 53, 3) := by decide +kernel
theorem dL_told_78 : decode cL_told 78 = .ok (.aload_n 0, 1) := by decide +kernel
theorem dL_told_79 : decode cL_told 79 = .ok (.aload_n 1, 1) := by decide +kernel
theorem dL_told_80 : decode cL_told 80 = .ok (.iload 4, 2) := by decide +kernel
theorem dL_told_82 : decode cL_told 82 = .ok (.bipush 64, 2) := by decide +kernel
theorem dL_told_84 : decode cL_told 84 = .ok (.idiv, 1) := by decide +kernel
theorem dL_told_85 : decode cL_told 85 = .ok (.bipush 100, 2) := by decide +kernel
theorem dL_told_87 : decode cL_told 87 = .ok (.irem, 1) := by decide +kernel
theorem dL_told_88 : decode cL_told 88 = .ok (.invokestatic 122, 3) := by decide +kernel
theorem dL_told_91 : decode cL_told 91 = .ok (.ifCond .eq 37, 3) := by decide +kernel
theorem dL_told_94 : decode cL_told 94 = .ok (.aload_n 0, 1) := by decide +kernel
theorem dL_told_95 : decode cL_told 95 = .ok (.invokevirtual 119, 3) := by decide +kernel
theorem dL_told_98 : decode cL_told 98 = .ok (.iconst 4, 1) := by decide +kernel
theorem dL_told_99 : decode cL_told 99 = .ok (.if_icmp .ne 29, 3) := by decide +kernel
theorem dL_told_102 : decode cL_told 102 = .ok (.aload_n 0, 1) := by decide +kernel
theorem dL_told_103 : decode cL_told 103 = .ok (.aload_n 1, 1) := by decide +kernel
theorem dL_told_104 : decode cL_told 104 = .ok (.iload 5, 2) := by decide +kernel
theorem dL_told_106 : decode cL_told 106 = .ok (.bipush 100, 2) := by decide +kernel
theorem dL_told_108 : decode cL_told 108 = .ok (.irem, 1) := by decide +kernel
theorem dL_told_109 : decode cL_told 109 = .ok (.invokestatic 122, 3) := by decide +kernel
theorem dL_told_112 : decode cL_told 112 = .ok (.ifCond .eq 16, 3) := by decide +kernel
theorem dL_told_115 : decode cL_told 115 = .ok (.aload_n 0, 1) := by decide +kernel
theorem dL_told_116 : decode cL_told 116 = .ok (.invokevirtual 119, 3) := by decide +kernel
theorem dL_told_119 : decode cL_told 119 = .ok (.bipush 6, 2) := by decide +kernel
theorem dL_told_121 : decode cL_told 121 = .ok (.if_icmp .ne 7, 3) := by decide +kernel
theorem dL_told_124 : decode cL_told 124 = .ok (.iconst 1, 1) := by decide +kernel
theorem dL_told_125 : decode cL_told 125 = .ok (.goto 4, 3) := by decide +kernel
theorem dL_told_128 : decode cL_told 128 = .ok (.iconst 0, 1) := by decide +kernel
theorem dL_told_129 : decode cL_told 129 = .ok (.istore 8, 2) := by decide +kernel
theorem dL_told_131 : decode cL_told 131 = .ok (.iconst 0, 1) := by decide +kernel
theorem dL_told_132 : decode cL_told 132 = .ok (.istore 9, 2) := by decide +kernel
theorem dL_told_134 : decode cL_told 134 = .ok (.iload 9, 2) := by decide +kernel
theorem dL_told_136 : decode cL_told 136 = .ok (.iload 7, 2) := by decide +kernel
theorem dL_told_138 : decode cL_told 138 = .ok (.if_icmp .ge 113, 3) := by decide +kernel
theorem dL_told_141 : decode cL_told 141 = .ok (.iload 8, 2) := by decide +kernel
theorem dL_told_143 : decode cL_told 143 = .ok (.ifCond .eq 108, 3) := by decide +kernel
theorem dL_told_146 : decode cL_told 146 = .ok (.aload_n 2, 1) := by decide +kernel
theorem dL_told_147 : decode cL_told 147 = .ok (.iload_n 3, 1) := by decide +kernel
theorem dL_told_148 : decode cL_told 148 = .ok (.iconst 2, 1) := by decide +kernel
theorem dL_told_149 : decode cL_told 149 = .ok (.iadd, 1) := by decide +kernel
theorem dL_told_150 : decode cL_told 150 = .ok (.iload 9, 2) := by decide +kernel
theorem dL_told_152 : decode cL_told 152 = .ok (.iadd, 1) := by decide +kernel
theorem dL_told_153 : decode cL_told 153 = .ok (.invokestatic 112, 3) := by decide +kernel
theorem dL_told_156 : decode cL_told 156 = .ok (.istore 10, 2) := by decide +kernel
theorem dL_told_158 : decode cL_told 158 = .ok (.aload_n 0, 1) := by decide +kernel
theorem dL_told_159 : decode cL_told 159 = .ok (.aload_n 1, 1) := by decide +kernel
theorem dL_told_160 : decode cL_told 160 = .ok (.bipush 98, 2) := by decide +kernel
theorem dL_told_162 : decode cL_told 162 = .ok (.invokestatic 108, 3) := by decide +kernel
theorem dL_told_165 : decode cL_told 165 = .ok (.ifCond .eq 77, 3) := by decide +kernel
theorem dL_told_168 : decode cL_told 168 = .ok (.aload_n 0, 1) := by decide +kernel
theorem dL_told_169 : decode cL_told 169 = .ok (.invokevirtual 119, 3) := by decide +kernel
theorem dL_told_172 : decode cL_told 172 = .ok (.bipush 7, 2) := by decide +kernel
theorem dL_told_174 : decode cL_told 174 = .ok (.iconst 4, 1) := by decide +kernel
theorem dL_told_175 : decode cL_told 175 = .ok (.iload 9, 2) := by decide +kernel
theorem dL_told_177 : decode cL_told 177 = .ok (.imul, 1) := by decide +kernel
theorem dL_told_178 : decode cL_told 178 = .ok (.iadd, 1) := by decide +kernel
theorem dL_told_179 : decode cL_told 179 = .ok (.if_icmp .ne 63, 3) := by decide +kernel
theorem dL_told_182 : decode cL_told 182 = .ok (.aload_n 0, 1) := by decide +kernel
theorem dL_told_183 : decode cL_told 183 = .ok (.aload_n 1, 1) := by decide +kernel
theorem dL_told_184 : decode cL_told 184 = .ok (.iconst 1, 1) := by decide +kernel
theorem dL_told_185 : decode cL_told 185 = .ok (.iload 10, 2) := by decide +kernel
theorem dL_told_187 : decode cL_told 187 = .ok (.bipush 30, 2) := by decide +kernel
theorem dL_told_189 : decode cL_told 189 = .ok (.irem, 1) := by decide +kernel
theorem dL_told_190 : decode cL_told 190 = .ok (.iadd, 1) := by decide +kernel
theorem dL_told_191 : decode cL_told 191 = .ok (.invokestatic 122, 3) := by decide +kernel
theorem dL_told_194 : decode cL_told 194 = .ok (.ifCond .eq 48, 3) := by decide +kernel
theorem dL_told_197 : decode cL_told 197 = .ok (.aload_n 0, 1) := by decide +kernel
theorem dL_told_198 : decode cL_told 198 = .ok (.invokevirtual 119, 3) := by decide +kernel
theorem dL_told_201 : decode cL_told 201 = .ok (.bipush 9, 2) := by decide +kernel
theorem dL_told_203 : decode cL_told 203 = .ok (.iconst 4, 1) := by decide +kernel
theorem dL_told_204 : decode cL_told 204 = .ok (.iload 9, 2) := by decide +kernel
theorem dL_told_206 : decode cL_told 206 = .ok (.imul, 1) := by decide +kernel
theorem dL_told_207 : decode cL_told 207 = .ok (.iadd, 1) := by decide +kernel
theorem dL_told_208 : decode cL_told 208 = .ok (.if_icmp .ne 34, 3) := by decide +kernel
theorem dL_told_211 : decode cL_told 211 = .ok (.aload_n 0, 1) := by decide +kernel
theorem dL_told_212 : decode cL_told 212 = .ok (.aload_n 1, 1) := by decide +kernel
theorem dL_told_213 : decode cL_told 213 = .ok (.bipush 48, 2) := by decide +kernel
theorem dL_told_215 : decode cL_told 215 = .ok (.iload 10, 2) := by decide +kernel
theorem dL_told_217 : decode cL_told 217 = .ok (.bipush 32, 2) := by decide +kernel
theorem dL_told_219 : decode cL_told 219 = .ok (.idiv, 1) := by decide +kernel
theorem dL_told_220 : decode cL_told 220 = .ok (.iconst 2, 1) := by decide +kernel
theorem dL_told_221 : decode cL_told 221 = .ok (.irem, 1) := by decide +kernel
theorem dL_told_222 : decode cL_told 222 = .ok (.iadd, 1) := by decide +kernel
theorem dL_told_223 : decode cL_told 223 = .ok (.invokestatic 108, 3) := by decide +kernel
theorem dL_told_226 : decode cL_told 226 = .ok (.ifCond .eq 16, 3) := by decide +kernel
theorem dL_told_229 : decode cL_told 229 = .ok (.aload_n 0, 1) := by decide +kernel
theorem dL_told_230 : decode cL_told 230 = .ok (.invokevirtual 119, 3) := by decide +kernel
theorem dL_told_233 : decode cL_told 233 = .ok (.bipush (-9), 2) := by decide +kernel
theorem dL_told_235 : decode cL_told 235 = .ok (.if_icmp .ne 7, 3) := by decide +kernel
theorem dL_told_238 : decode cL_told 238 = .ok (.iconst 1, 1) := by decide +kernel
theorem dL_told_239 : decode cL_told 239 = .ok (.goto 4, 3) := by decide +kernel
theorem dL_told_242 : decode cL_told 242 = .ok (.iconst 0, 1) := by decide +kernel
theorem dL_told_243 : decode cL_told 243 = .ok (.istore 8, 2) := by decide +kernel
theorem dL_told_245 : decode cL_told 245 = .ok (.iinc 9 1, 3) := by decide +kernel
theorem dL_told_248 : decode cL_told 248 = .ok (.goto (-114), 3) := by decide +kernel
theorem dL_told_251 : decode cL_told 251 = .ok (.bipush 6, 2) := by decide +kernel
theorem dL_told_253 : decode cL_told 253 = .ok (.iconst 4, 1) := by decide +kernel
theorem dL_told_254 : decode cL_told 254 = .ok (.iload 7, 2) := by decide +kernel
theorem dL_told_256 : decode cL_told 256 = .ok (.imul, 1) := by decide +kernel
theorem dL_told_257 : decode cL_told 257 = .ok (.iadd, 1) := by decide +kernel
theorem dL_told_258 : decode cL_told 258 = .ok (.istore 9, 2) := by decide +kernel
theorem dL_told_260 : decode cL_told 260 = .ok (.bipush 40, 2) := by decide +kernel
theorem dL_told_262 : decode cL_told 262 = .ok (.istore 10, 2) := by decide +kernel
theorem dL_told_264 : decode cL_told 264 = .ok (.iload 5, 2) := by decide +kernel
theorem dL_told_266 : decode cL_told 266 = .ok (.sipush 128, 3) := by decide +kernel
theorem dL_told_269 : decode cL_told 269 = .ok (.idiv, 1) := by decide +kernel
theorem dL_told_270 : decode cL_told 270 = .ok (.iconst 3, 1) := by decide +kernel
theorem dL_told_271 : decode cL_told 271 = .ok (.irem, 1) := by decide +kernel
theorem dL_told_272 : decode cL_told 272 = .ok (.ifCond .le 112, 3) := by decide +kernel
theorem dL_told_275 : decode cL_told 275 = .ok (.iload 8, 2) := by decide +kernel
theorem dL_told_277 : decode cL_told 277 = .ok (.ifCond .eq 107, 3) := by decide +kernel
theorem dL_told_280 : decode cL_told 280 = .ok (.iload 5, 2) := by decide +kernel
theorem dL_told_282 : decode cL_told 282 = .ok (.sipush 512, 3) := by decide +kernel
theorem dL_told_285 : decode cL_told 285 = .ok (.idiv, 1) := by decide +kernel
theorem dL_told_286 : decode cL_told 286 = .ok (.bipush 60, 2) := by decide +kernel
theorem dL_told_288 : decode cL_told 288 = .ok (.irem, 1) := by decide +kernel
theorem dL_told_289 : decode cL_told 289 = .ok (.istore 11, 2) := by decide +kernel
theorem dL_told_291 : decode cL_told 291 = .ok (.aload_n 0, 1) := by decide +kernel
theorem dL_told_292 : decode cL_told 292 = .ok (.aload_n 1, 1) := by decide +kernel
theorem dL_told_293 : decode cL_told 293 = .ok (.bipush 116, 2) := by decide +kernel
theorem dL_told_295 : decode cL_told 295 = .ok (.invokestatic 108, 3) := by decide +kernel
theorem dL_told_298 : decode cL_told 298 = .ok (.istore 8, 2) := by decide +kernel
theorem dL_told_300 : decode cL_told 300 = .ok (.iload 11, 2) := by decide +kernel
theorem dL_told_302 : decode cL_told 302 = .ok (.istore 10, 2) := by decide +kernel
theorem dL_told_304 : decode cL_told 304 = .ok (.iconst 0, 1) := by decide +kernel
theorem dL_told_305 : decode cL_told 305 = .ok (.istore 12, 2) := by decide +kernel
theorem dL_told_307 : decode cL_told 307 = .ok (.iload 12, 2) := by decide +kernel
theorem dL_told_309 : decode cL_told 309 = .ok (.iload 6, 2) := by decide +kernel
theorem dL_told_311 : decode cL_told 311 = .ok (.if_icmp .ge 62, 3) := by decide +kernel
theorem dL_told_314 : decode cL_told 314 = .ok (.iload 8, 2) := by decide +kernel
theorem dL_told_316 : decode cL_told 316 = .ok (.ifCond .eq 57, 3) := by decide +kernel
theorem dL_told_319 : decode cL_told 319 = .ok (.aload_n 0, 1) := by decide +kernel
theorem dL_told_320 : decode cL_told 320 = .ok (.invokevirtual 119, 3) := by decide +kernel
theorem dL_told_323 : decode cL_told 323 = .ok (.iload 9, 2) := by decide +kernel
theorem dL_told_325 : decode cL_told 325 = .ok (.iconst 1, 1) := by decide +kernel
theorem dL_told_326 : decode cL_told 326 = .ok (.iadd, 1) := by decide +kernel
theorem dL_told_327 : decode cL_told 327 = .ok (.iconst 2, 1) := by decide +kernel
theorem dL_told_328 : decode cL_told 328 = .ok (.iload 12, 2) := by decide +kernel
theorem dL_told_330 : decode cL_told 330 = .ok (.imul, 1) := by decide +kernel
theorem dL_told_331 : decode cL_told 331 = .ok (.iadd, 1) := by decide +kernel
theorem dL_told_332 : decode cL_told 332 = .ok (.if_icmp .ne 17, 3) := by decide +kernel
theorem dL_told_335 : decode cL_told 335 = .ok (.aload_n 0, 1) := by decide +kernel
theorem dL_told_336 : decode cL_told 336 = .ok (.aload_n 1, 1) := by decide +kernel
theorem dL_told_337 : decode cL_told 337 = .ok (.iload 11, 2) := by decide +kernel
theorem dL_told_339 : decode cL_told 339 = .ok (.invokestatic 122, 3) := by decide +kernel
theorem dL_told_342 : decode cL_told 342 = .ok (.ifCond .eq 7, 3) := by decide +kernel
theorem dL_told_345 : decode cL_told 345 = .ok (.iconst 1, 1) := by decide +kernel
theorem dL_told_346 : decode cL_told 346 = .ok (.goto 4, 3) := by decide +kernel
theorem dL_told_349 : decode cL_told 349 = .ok (.iconst 0, 1) := by decide +kernel
theorem dL_told_350 : decode cL_told 350 = .ok (.istore 8, 2) := by decide +kernel
theorem dL_told_352 : decode cL_told 352 = .ok (.iload 11, 2) := by decide +kernel
theorem dL_told_354 : decode cL_told 354 = .ok (.iload 5, 2) := by decide +kernel
theorem dL_told_356 : decode cL_told 356 = .ok (.iconst 1, 1) := by decide +kernel
theorem dL_told_357 : decode cL_told 357 = .ok (.iload 12, 2) := by decide +kernel
theorem dL_told_359 : decode cL_told 359 = .ok (.iadd, 1) := by decide +kernel
theorem dL_told_360 : decode cL_told 360 = .ok (.idiv, 1) := by decide +kernel
theorem dL_told_361 : decode cL_told 361 = .ok (.bipush 6, 2) := by decide +kernel
theorem dL_told_363 : decode cL_told 363 = .ok (.irem, 1) := by decide +kernel
theorem dL_told_364 : decode cL_told 364 = .ok (.iadd, 1) := by decide +kernel
theorem dL_told_365 : decode cL_told 365 = .ok (.istore 11, 2) := by decide +kernel
theorem dL_told_367 : decode cL_told 367 = .ok (.iinc 12 1, 3) := by decide +kernel
theorem dL_told_370 : decode cL_told 370 = .ok (.goto (-63), 3) := by decide +kernel
theorem dL_told_373 : decode cL_told 373 = .ok (.iload 9, 2) := by decide +kernel
theorem dL_told_375 : decode cL_told 375 = .ok (.iconst 1, 1) := by decide +kernel
theorem dL_told_376 : decode cL_told 376 = .ok (.iconst 2, 1) := by decide +kernel
theorem dL_told_377 : decode cL_told 377 = .ok (.iload 6, 2) := by decide +kernel
theorem dL_told_379 : decode cL_told 379 = .ok (.imul, 1) := by decide +kernel
theorem dL_told_380 : decode cL_told 380 = .ok (.iadd, 1) := by decide +kernel
theorem dL_told_381 : decode cL_told 381 = .ok (.iadd, 1) := by decide +kernel
theorem dL_told_382 : decode cL_told 382 = .ok (.istore 9, 2) := by decide +kernel
theorem dL_told_384 : decode cL_told 384 = .ok (.iload 8, 2) := by decide +kernel
theorem dL_told_386 : decode cL_told 386 = .ok (.ifCond .eq 133, 3) := by decide +kernel
theorem dL_told_389 : decode cL_told 389 = .ok (.aload_n 0, 1) := by decide +kernel
theorem dL_told_390 : decode cL_told 390 = .ok (.invokevirtual 119, 3) := by decide +kernel
theorem dL_told_393 : decode cL_told 393 = .ok (.bipush (-9), 2) := by decide +kernel
theorem dL_told_395 : decode cL_told 395 = .ok (.if_icmp .ne 124, 3) := by decide +kernel
theorem dL_told_398 : decode cL_told 398 = .ok (.aload_n 0, 1) := by decide +kernel
theorem dL_told_399 : decode cL_told 399 = .ok (.invokestatic 125, 3) := by decide +kernel
theorem dL_told_402 : decode cL_told 402 = .ok (.iload 7, 2) := by decide +kernel
theorem dL_told_404 : decode cL_told 404 = .ok (.if_icmp .ne 115, 3) := by decide +kernel
theorem dL_told_407 : decode cL_told 407 = .ok (.aload_n 1, 1) := by decide +kernel
theorem dL_told_408 : decode cL_told 408 = .ok (.invokestatic 125, 3) := by decide +kernel
theorem dL_told_411 : decode cL_told 411 = .ok (.iload 7, 2) := by decide +kernel
theorem dL_told_413 : decode cL_told 413 = .ok (.if_icmp .ne 106, 3) := by decide +kernel
theorem dL_told_416 : decode cL_told 416 = .ok (.aload_n 0, 1) := by decide +kernel
theorem dL_told_417 : decode cL_told 417 = .ok (.bipush 6, 2) := by decide +kernel
theorem dL_told_419 : decode cL_told 419 = .ok (.invokestatic 129, 3) := by decide +kernel
theorem dL_told_422 : decode cL_told 422 = .ok (.iload 7, 2) := by decide +kernel
theorem dL_told_424 : decode cL_told 424 = .ok (.if_icmp .ne 95, 3) := by decide +kernel
theorem dL_told_427 : decode cL_told 427 = .ok (.aload_n 0, 1) := by decide +kernel
theorem dL_told_428 : decode cL_told 428 = .ok (.bipush 7, 2) := by decide +kernel
theorem dL_told_430 : decode cL_told 430 = .ok (.invokestatic 129, 3) := by decide +kernel
theorem dL_told_433 : decode cL_told 433 = .ok (.iload 6, 2) := by decide +kernel
theorem dL_told_435 : decode cL_told 435 = .ok (.if_icmp .ne 84, 3) := by decide +kernel
theorem dL_told_438 : decode cL_told 438 = .ok (.aload_n 0, 1) := by decide +kernel
theorem dL_told_439 : decode cL_told 439 = .ok (.iconst 0, 1) := by decide +kernel
theorem dL_told_440 : decode cL_told 440 = .ok (.invokestatic 132, 3) := by decide +kernel
theorem dL_told_443 : decode cL_told 443 = .ok (.iload 10, 2) := by decide +kernel
theorem dL_told_445 : decode cL_told 445 = .ok (.if_icmp .ne 74, 3) := by decide +kernel
theorem dL_told_448 : decode cL_told 448 = .ok (.aload_n 0, 1) := by decide +kernel
theorem dL_told_449 : decode cL_told 449 = .ok (.iconst 0, 1) := by decide +kernel
theorem dL_told_450 : decode cL_told 450 = .ok (.iconst 0, 1) := by decide +kernel
theorem dL_told_451 : decode cL_told 451 = .ok (.invokestatic 135, 3) := by decide +kernel
theorem dL_told_454 : decode cL_told 454 = .ok (.iload 4, 2) := by decide +kernel
theorem dL_told_456 : decode cL_told 456 = .ok (.bipush 64, 2) := by decide +kernel
theorem dL_told_458 : decode cL_told 458 = .ok (.idiv, 1) := by decide +kernel
theorem dL_told_459 : decode cL_told 459 = .ok (.bipush 100, 2) := by decide +kernel
theorem dL_told_461 : decode cL_told 461 = .ok (.irem, 1) := by decide +kernel
theorem dL_told_462 : decode cL_told 462 = .ok (.if_icmp .ne 57, 3) := by decide +kernel
theorem dL_told_465 : decode cL_told 465 = .ok (.aload_n 0, 1) := by decide +kernel
theorem dL_told_466 : decode cL_told 466 = .ok (.invokestatic 139, 3) := by decide +kernel
theorem dL_told_469 : decode cL_told 469 = .ok (.sipush (-1003), 3) := by decide +kernel
theorem dL_told_472 : decode cL_told 472 = .ok (.if_icmp .ne 47, 3) := by decide +kernel
theorem dL_told_475 : decode cL_told 475 = .ok (.aload_n 1, 1) := by decide +kernel
theorem dL_told_476 : decode cL_told 476 = .ok (.iconst 1, 1) := by decide +kernel
theorem dL_told_477 : decode cL_told 477 = .ok (.invokestatic 142, 3) := by decide +kernel
theorem dL_told_480 : decode cL_told 480 = .ok (.sipush (-1003), 3) := by decide +kernel
theorem dL_told_483 : decode cL_told 483 = .ok (.if_icmp .ne 36, 3) := by decide +kernel
theorem dL_told_486 : decode cL_told 486 = .ok (.aload_n 0, 1) := by decide +kernel
theorem dL_told_487 : decode cL_told 487 = .ok (.aload_n 1, 1) := by decide +kernel
theorem dL_told_488 : decode cL_told 488 = .ok (.bipush 120, 2) := by decide +kernel
theorem dL_told_490 : decode cL_told 490 = .ok (.invokestatic 108, 3) := by decide +kernel
theorem dL_told_493 : decode cL_told 493 = .ok (.ifCond .eq 26, 3) := by decide +kernel
theorem dL_told_496 : decode cL_told 496 = .ok (.aload_n 0, 1) := by decide +kernel
theorem dL_told_497 : decode cL_told 497 = .ok (.invokevirtual 119, 3) := by decide +kernel
theorem dL_told_500 : decode cL_told 500 = .ok (.iload 9, 2) := by decide +kernel
theorem dL_told_502 : decode cL_told 502 = .ok (.if_icmp .ne 17, 3) := by decide +kernel
theorem dL_told_505 : decode cL_told 505 = .ok (.aload_n 0, 1) := by decide +kernel
theorem dL_told_506 : decode cL_told 506 = .ok (.invokestatic 125, 3) := by decide +kernel
theorem dL_told_509 : decode cL_told 509 = .ok (.sipush (-1003), 3) := by decide +kernel
theorem dL_told_512 : decode cL_told 512 = .ok (.if_icmp .ne 7, 3) := by decide +kernel
theorem dL_told_515 : decode cL_told 515 = .ok (.iconst 1, 1) := by decide +kernel
theorem dL_told_516 : decode cL_told 516 = .ok (.goto 4, 3) := by decide +kernel
theorem dL_told_519 : decode cL_told 519 = .ok (.iconst 0, 1) := by decide +kernel
theorem dL_told_520 : decode cL_told 520 = .ok (.ireturn, 1) := by decide +kernel
theorem dL_alike_0 : decode cL_alike 0 = .ok (.aload_n 0, 1) := by decide +kernel
theorem dL_alike_1 : decode cL_alike 1 = .ok (.invokevirtual 145, 3) := by decide +kernel
theorem dL_alike_4 : decode cL_alike 4 = .ok (.aload_n 1, 1) := by decide +kernel
theorem dL_alike_5 : decode cL_alike 5 = .ok (.invokevirtual 145, 3) := by decide +kernel
theorem dL_alike_8 : decode cL_alike 8 = .ok (.if_icmp .ne 7, 3) := by decide +kernel
theorem dL_alike_11 : decode cL_alike 11 = .ok (.iconst 1, 1) := by decide +kernel
theorem dL_alike_12 : decode cL_alike 12 = .ok (.goto 4, 3) := by decide +kernel
theorem dL_alike_15 : decode cL_alike 15 = .ok (.iconst 0, 1) := by decide +kernel
theorem dL_alike_16 : decode cL_alike 16 = .ok (.istore_n 2, 1) := by decide +kernel
theorem dL_alike_17 : decode cL_alike 17 = .ok (.iconst 0, 1) := by decide +kernel
theorem dL_alike_18 : decode cL_alike 18 = .ok (.istore_n 3, 1) := by decide +kernel
theorem dL_alike_19 : decode cL_alike 19 = .ok (.iload_n 3, 1) := by decide +kernel
theorem dL_alike_20 : decode cL_alike 20 = .ok (.bipush 17, 2) := by decide +kernel
theorem dL_alike_22 : decode cL_alike 22 = .ok (.if_icmp .ge 79, 3) := by decide +kernel
theorem dL_alike_25 : decode cL_alike 25 = .ok (.iload_n 2, 1) := by decide +kernel
theorem dL_alike_26 : decode cL_alike 26 = .ok (.ifCond .eq 67, 3) := by decide +kernel
theorem dL_alike_29 : decode cL_alike 29 = .ok (.aload_n 0, 1) := by decide +kernel
theorem dL_alike_30 : decode cL_alike 30 = .ok (.iload_n 3, 1) := by decide +kernel
theorem dL_alike_31 : decode cL_alike 31 = .ok (.invokestatic 129, 3) := by decide +kernel
theorem dL_alike_34 : decode cL_alike 34 = .ok (.aload_n 1, 1) := by decide +kernel
theorem dL_alike_35 : decode cL_alike 35 = .ok (.iload_n 3, 1) := by decide +kernel
theorem dL_alike_36 : decode cL_alike 36 = .ok (.invokestatic 129, 3) := by decide +kernel
theorem dL_alike_39 : decode cL_alike 39 = .ok (.if_icmp .ne 54, 3) := by decide +kernel
theorem dL_alike_42 : decode cL_alike 42 = .ok (.iload_n 3, 1) := by decide +kernel
theorem dL_alike_43 : decode cL_alike 43 = .ok (.iconst 5, 1) := by decide +kernel
theorem dL_alike_44 : decode cL_alike 44 = .ok (.if_icmp .gt 16, 3) := by decide +kernel
theorem dL_alike_47 : decode cL_alike 47 = .ok (.aload_n 0, 1) := by decide +kernel
theorem dL_alike_48 : decode cL_alike 48 = .ok (.iload_n 3, 1) := by decide +kernel
theorem dL_alike_49 : decode cL_alike 49 = .ok (.invokestatic 148, 3) := by decide +kernel
theorem dL_alike_52 : decode cL_alike 52 = .ok (.aload_n 1, 1) := by decide +kernel
theorem dL_alike_53 : decode cL_alike 53 = .ok (.iload_n 3, 1) := by decide +kernel
theorem dL_alike_54 : decode cL_alike 54 = .ok (.invokestatic 148, 3) := by decide +kernel
theorem dL_alike_57 : decode cL_alike 57 = .ok (.if_icmp .ne 36, 3) := by decide +kernel
theorem dL_alike_60 : decode cL_alike 60 = .ok (.iload_n 3, 1) := by decide +kernel
theorem dL_alike_61 : decode cL_alike 61 = .ok (.bipush 7, 2) := by decide +kernel
theorem dL_alike_63 : decode cL_alike 63 = .ok (.if_icmp .gt 26, 3) := by decide +kernel
theorem dL_alike_66 : decode cL_alike 66 = .ok (.aload_n 0, 1) := by decide +kernel
theorem dL_alike_67 : decode cL_alike 67 = .ok (.iload_n 3, 1) := by decide +kernel
theorem dL_alike_68 : decode cL_alike 68 = .ok (.iconst 4, 1) := by decide +kernel
theorem dL_alike_69 : decode cL_alike 69 = .ok (.idiv, 1) := by decide +kernel
theorem dL_alike_70 : decode cL_alike 70 = .ok (.iload_n 3, 1) := by decide +kernel
theorem dL_alike_71 : decode cL_alike 71 = .ok (.iconst 4, 1) := by decide +kernel
theorem dL_alike_72 : decode cL_alike 72 = .ok (.irem, 1) := by decide +kernel
theorem dL_alike_73 : decode cL_alike 73 = .ok (.invokestatic 135, 3) := by decide +kernel
theorem dL_alike_76 : decode cL_alike 76 = .ok (.aload_n 1, 1) := by decide +kernel
theorem dL_alike_77 : decode cL_alike 77 = .ok (.iload_n 3, 1) := by decide +kernel
theorem dL_alike_78 : decode cL_alike 78 = .ok (.iconst 4, 1) := by decide +kernel
theorem dL_alike_79 : decode cL_alike 79 = .ok (.idiv, 1) := by decide +kernel
theorem dL_alike_80 : decode cL_alike 80 = .ok (.iload_n 3, 1) := by decide +kernel
theorem dL_alike_81 : decode cL_alike 81 = .ok (.iconst 4, 1) := by decide +kernel
theorem dL_alike_82 : decode cL_alike 82 = .ok (.irem, 1) := by decide +kernel
theorem dL_alike_83 : decode cL_alike 83 = .ok (.invokestatic 135, 3) := by decide +kernel
theorem dL_alike_86 : decode cL_alike 86 = .ok (.if_icmp .ne 7, 3) := by decide +kernel
theorem dL_alike_89 : decode cL_alike 89 = .ok (.iconst 1, 1) := by decide +kernel
theorem dL_alike_90 : decode cL_alike 90 = .ok (.goto 4, 3) := by decide +kernel
theorem dL_alike_93 : decode cL_alike 93 = .ok (.iconst 0, 1) := by decide +kernel
theorem dL_alike_94 : decode cL_alike 94 = .ok (.istore_n 2, 1) := by decide +kernel
theorem dL_alike_95 : decode cL_alike 95 = .ok (.iinc 3 1, 3) := by decide +kernel
theorem dL_alike_98 : decode cL_alike 98 = .ok (.goto (-79), 3) := by decide +kernel
theorem dL_alike_101 : decode cL_alike 101 = .ok (.iconst 0, 1) := by decide +kernel
theorem dL_alike_102 : decode cL_alike 102 = .ok (.istore_n 3, 1) := by decide +kernel
theorem dL_alike_103 : decode cL_alike 103 = .ok (.iload_n 3, 1) := by decide +kernel
theorem dL_alike_104 : decode cL_alike 104 = .ok (.aload_n 0, 1) := by decide +kernel
theorem dL_alike_105 : decode cL_alike 105 = .ok (.bipush 6, 2) := by decide +kernel
theorem dL_alike_107 : decode cL_alike 107 = .ok (.invokestatic 129, 3) := by decide +kernel
theorem dL_alike_110 : decode cL_alike 110 = .ok (.if_icmp .ge 56, 3) := by decide +kernel
theorem dL_alike_113 : decode cL_alike 113 = .ok (.iload_n 2, 1) := by decide +kernel
theorem dL_alike_114 : decode cL_alike 114 = .ok (.ifCond .eq 52, 3) := by decide +kernel
theorem dL_alike_117 : decode cL_alike 117 = .ok (.iconst 0, 1) := by decide +kernel
theorem dL_alike_118 : decode cL_alike 118 = .ok (.istore 4, 2) := by decide +kernel
theorem dL_alike_120 : decode cL_alike 120 = .ok (.iload 4, 2) := by decide +kernel
theorem dL_alike_122 : decode cL_alike 122 = .ok (.bipush 8, 2) := by decide +kernel
theorem dL_alike_124 : decode cL_alike 124 = .ok (.if_icmp .ge 36, 3) := by decide +kernel
theorem dL_alike_127 : decode cL_alike 127 = .ok (.iload_n 2, 1) := by decide +kernel
theorem dL_alike_128 : decode cL_alike 128 = .ok (.ifCond .eq 24, 3) := by decide +kernel
theorem dL_alike_131 : decode cL_alike 131 = .ok (.aload_n 0, 1) := by decide +kernel
theorem dL_alike_132 : decode cL_alike 132 = .ok (.iload_n 3, 1) := by decide +kernel
theorem dL_alike_133 : decode cL_alike 133 = .ok (.iload 4, 2) := by decide +kernel
theorem dL_alike_135 : decode cL_alike 135 = .ok (.invokestatic 151, 3) := by decide +kernel
theorem dL_alike_138 : decode cL_alike 138 = .ok (.aload_n 1, 1) := by decide +kernel
theorem dL_alike_139 : decode cL_alike 139 = .ok (.iload_n 3, 1) := by decide +kernel
theorem dL_alike_140 : decode cL_alike 140 = .ok (.iload 4, 2) := by decide +kernel
theorem dL_alike_142 : decode cL_alike 142 = .ok (.invokestatic 151, 3) := by decide +kernel
theorem dL_alike_145 : decode cL_alike 145 = .ok (.if_icmp .ne 7, 3) := by decide +kernel
theorem dL_alike_148 : decode cL_alike 148 = .ok (.iconst 1, 1) := by decide +kernel
theorem dL_alike_149 : decode cL_alike 149 = .ok (.goto 4, 3) := by decide +kernel
theorem dL_alike_152 : decode cL_alike 152 = .ok (.iconst 0, 1) := by decide +kernel
theorem dL_alike_153 : decode cL_alike 153 = .ok (.istore_n 2, 1) := by decide +kernel
theorem dL_alike_154 : decode cL_alike 154 = .ok (.iinc 4 1, 3) := by decide +kernel
theorem dL_alike_157 : decode cL_alike 157 = .ok (.goto (-37), 3) := by decide +kernel
theorem dL_alike_160 : decode cL_alike 160 = .ok (.iinc 3 1, 3) := by decide +kernel
theorem dL_alike_163 : decode cL_alike 163 = .ok (.goto (-60), 3) := by decide +kernel
theorem dL_alike_166 : decode cL_alike 166 = .ok (.iconst 0, 1) := by decide +kernel
theorem dL_alike_167 : decode cL_alike 167 = .ok (.istore_n 3, 1) := by decide +kernel
theorem dL_alike_168 : decode cL_alike 168 = .ok (.iload_n 3, 1) := by decide +kernel
theorem dL_alike_169 : decode cL_alike 169 = .ok (.aload_n 0, 1) := by decide +kernel
theorem dL_alike_170 : decode cL_alike 170 = .ok (.bipush 7, 2) := by decide +kernel
theorem dL_alike_172 : decode cL_alike 172 = .ok (.invokestatic 129, 3) := by decide +kernel
theorem dL_alike_175 : decode cL_alike 175 = .ok (.if_icmp .ge 32, 3) := by decide +kernel
theorem dL_alike_178 : decode cL_alike 178 = .ok (.iload_n 2, 1) := by decide +kernel
theorem dL_alike_179 : decode cL_alike 179 = .ok (.ifCond .eq 28, 3) := by decide +kernel
theorem dL_alike_182 : decode cL_alike 182 = .ok (.aload_n 0, 1) := by decide +kernel
theorem dL_alike_183 : decode cL_alike 183 = .ok (.iload_n 3, 1) := by decide +kernel
theorem dL_alike_184 : decode cL_alike 184 = .ok (.invokestatic 132, 3) := by decide +kernel
theorem dL_alike_187 : decode cL_alike 187 = .ok (.aload_n 1, 1) := by decide +kernel
theorem dL_alike_188 : decode cL_alike 188 = .ok (.iload_n 3, 1) := by decide +kernel
theorem dL_alike_189 : decode cL_alike 189 = .ok (.invokestatic 132, 3) := by decide +kernel
theorem dL_alike_192 : decode cL_alike 192 = .ok (.if_icmp .ne 7, 3) := by decide +kernel
theorem dL_alike_195 : decode cL_alike 195 = .ok (.iconst 1, 1) := by decide +kernel
theorem dL_alike_196 : decode cL_alike 196 = .ok (.goto 4, 3) := by decide +kernel
theorem dL_alike_199 : decode cL_alike 199 = .ok (.iconst 0, 1) := by decide +kernel
theorem dL_alike_200 : decode cL_alike 200 = .ok (.istore_n 2, 1) := by decide +kernel
theorem dL_alike_201 : decode cL_alike 201 = .ok (.iinc 3 1, 3) := by decide +kernel
theorem dL_alike_204 : decode cL_alike 204 = .ok (.goto (-36), 3) := by decide +kernel
theorem dL_alike_207 : decode cL_alike 207 = .ok (.iload_n 2, 1) := by decide +kernel
theorem dL_alike_208 : decode cL_alike 208 = .ok (.ireturn, 1) := by decide +kernel
theorem dL_refuses_0 : decode cL_refuses 0 = .ok (.aload_n 0, 1) := by decide +kernel
theorem dL_refuses_1 : decode cL_refuses 1 = .ok (.bipush 6, 2) := by decide +kernel
theorem dL_refuses_3 : decode cL_refuses 3 = .ok (.invokestatic 129, 3) := by decide +kernel
theorem dL_refuses_6 : decode cL_refuses 6 = .ok (.istore_n 1, 1) := by decide +kernel
theorem dL_refuses_7 : decode cL_refuses 7 = .ok (.aload_n 0, 1) := by decide +kernel
theorem dL_refuses_8 : decode cL_refuses 8 = .ok (.iconst 0, 1) := by decide +kernel
theorem dL_refuses_9 : decode cL_refuses 9 = .ok (.iconst 2, 1) := by decide +kernel
theorem dL_refuses_10 : decode cL_refuses 10 = .ok (.invokestatic 151, 3) := by decide +kernel
theorem dL_refuses_13 : decode cL_refuses 13 = .ok (.istore_n 2, 1) := by decide +kernel
theorem dL_refuses_14 : decode cL_refuses 14 = .ok (.aload_n 0, 1) := by decide +kernel
theorem dL_refuses_15 : decode cL_refuses 15 = .ok (.bipush 17, 2) := by decide +kernel
theorem dL_refuses_17 : decode cL_refuses 17 = .ok (.invokestatic 129, 3) := by decide +kernel
theorem dL_refuses_20 : decode cL_refuses 20 = .ok (.sipush (-1002), 3) := by decide +kernel
theorem dL_refuses_23 : decode cL_refuses 23 = .ok (.if_icmp .ne 344, 3) := by decide +kernel
theorem dL_refuses_26 : decode cL_refuses 26 = .ok (.aload_n 0, 1) := by decide +kernel
theorem dL_refuses_27 : decode cL_refuses 27 = .ok (.iload_n 1, 1) := by decide +kernel
theorem dL_refuses_28 : decode cL_refuses 28 = .ok (.bipush 8, 2) := by decide +kernel
theorem dL_refuses_30 : decode cL_refuses 30 = .ok (.invokestatic 151, 3) := by decide +kernel
theorem dL_refuses_33 : decode cL_refuses 33 = .ok (.sipush (-1001), 3) := by decide +kernel
theorem dL_refuses_36 : decode cL_refuses 36 = .ok (.if_icmp .ne 331, 3) := by decide +kernel
theorem dL_refuses_39 : decode cL_refuses 39 = .ok (.aload_n 0, 1) := by decide +kernel
theorem dL_refuses_40 : decode cL_refuses 40 = .ok (.iconst 0, 1) := by decide +kernel
theorem dL_refuses_41 : decode cL_refuses 41 = .ok (.bipush 8, 2) := by decide +kernel
theorem dL_refuses_43 : decode cL_refuses 43 = .ok (.invokestatic 151, 3) := by decide +kernel
theorem dL_refuses_46 : decode cL_refuses 46 = .ok (.sipush (-1002), 3) := by decide +kernel
theorem dL_refuses_49 : decode cL_refuses 49 = .ok (.if_icmp .ne 318, 3) := by decide +kernel
theorem dL_refuses_52 : decode cL_refuses 52 = .ok (.aload_n 0, 1) := by decide +kernel
theorem dL_refuses_53 : decode cL_refuses 53 = .ok (.iconst 2, 1) := by decide +kernel
theorem dL_refuses_54 : decode cL_refuses 54 = .ok (.iconst 4, 1) := by decide +kernel
theorem dL_refuses_55 : decode cL_refuses 55 = .ok (.invokestatic 135, 3) := by decide +kernel
theorem dL_refuses_58 : decode cL_refuses 58 = .ok (.sipush (-1001), 3) := by decide +kernel
theorem dL_refuses_61 : decode cL_refuses 61 = .ok (.if_icmp .ne 306, 3) := by decide +kernel
theorem dL_refuses_64 : decode cL_refuses 64 = .ok (.aload_n 0, 1) := by decide +kernel
theorem dL_refuses_65 : decode cL_refuses 65 = .ok (.iconst 0, 1) := by decide +kernel
theorem dL_refuses_66 : decode cL_refuses 66 = .ok (.iconst 4, 1) := by decide +kernel
theorem dL_refuses_67 : decode cL_refuses 67 = .ok (.invokestatic 135, 3) := by decide +kernel
theorem dL_refuses_70 : decode cL_refuses 70 = .ok (.sipush (-1002), 3) := by decide +kernel
theorem dL_refuses_73 : decode cL_refuses 73 = .ok (.if_icmp .ne 294, 3) := by decide +kernel
theorem dL_refuses_76 : decode cL_refuses 76 = .ok (.aload_n 0, 1) := by decide +kernel
theorem dL_refuses_77 : decode cL_refuses 77 = .ok (.aload_n 0, 1) := by decide +kernel
theorem dL_refuses_78 : decode cL_refuses 78 = .ok (.bipush 7, 2) := by decide +kernel
theorem dL_refuses_80 : decode cL_refuses 80 = .ok (.invokestatic 129, 3) := by decide +kernel
theorem dL_refuses_83 : decode cL_refuses 83 = .ok (.invokestatic 132, 3) := by decide +kernel
theorem dL_refuses_86 : decode cL_refuses 86 = .ok (.sipush (-1001), 3) := by decide +kernel
theorem dL_refuses_89 : decode cL_refuses 89 = .ok (.if_icmp .ne 278, 3) := by decide +kernel
theorem dL_refuses_92 : decode cL_refuses 92 = .ok (.aload_n 0, 1) := by decide +kernel
theorem dL_refuses_93 : decode cL_refuses 93 = .ok (.bipush 6, 2) := by decide +kernel
theorem dL_refuses_95 : decode cL_refuses 95 = .ok (.invokestatic 148, 3) := by decide +kernel
theorem dL_refuses_98 : decode cL_refuses 98 = .ok (.sipush (-1002), 3) := by decide +kernel
theorem dL_refuses_101 : decode cL_refuses 101 = .ok (.if_icmp .ne 266, 3) := by decide +kernel
theorem dL_refuses_104 : decode cL_refuses 104 = .ok (.aload_n 0, 1) := by decide +kernel
theorem dL_refuses_105 : decode cL_refuses 105 = .ok (.iconst 0, 1) := by decide +kernel
theorem dL_refuses_106 : decode cL_refuses 106 = .ok (.iconst 0, 1) := by decide +kernel
theorem dL_refuses_107 : decode cL_refuses 107 = .ok (.invokestatic 154, 3) := by decide +kernel
theorem dL_refuses_110 : decode cL_refuses 110 = .ok (.sipush (-1002), 3) := by decide +kernel
theorem dL_refuses_113 : decode cL_refuses 113 = .ok (.if_icmp .ne 254, 3) := by decide +kernel
theorem dL_refuses_116 : decode cL_refuses 116 = .ok (.aload_n 0, 1) := by decide +kernel
theorem dL_refuses_117 : decode cL_refuses 117 = .ok (.bipush 97, 2) := by decide +kernel
theorem dL_refuses_119 : decode cL_refuses 119 = .ok (.iconst 0, 1) := by decide +kernel
theorem dL_refuses_120 : decode cL_refuses 120 = .ok (.invokestatic 154, 3) := by decide +kernel
theorem dL_refuses_123 : decode cL_refuses 123 = .ok (.sipush (-1002), 3) := by decide +kernel
theorem dL_refuses_126 : decode cL_refuses 126 = .ok (.if_icmp .ne 241, 3) := by decide +kernel
theorem dL_refuses_129 : decode cL_refuses 129 = .ok (.aload_n 0, 1) := by decide +kernel
theorem dL_refuses_130 : decode cL_refuses 130 = .ok (.iconst 1, 1) := by decide +kernel
theorem dL_refuses_131 : decode cL_refuses 131 = .ok (.bipush 6, 2) := by decide +kernel
theorem dL_refuses_133 : decode cL_refuses 133 = .ok (.invokestatic 154, 3) := by decide +kernel
theorem dL_refuses_136 : decode cL_refuses 136 = .ok (.sipush (-1002), 3) := by decide +kernel
theorem dL_refuses_139 : decode cL_refuses 139 = .ok (.if_icmp .ne 228, 3) := by decide +kernel
theorem dL_refuses_142 : decode cL_refuses 142 = .ok (.aload_n 0, 1) := by decide +kernel
theorem dL_refuses_143 : decode cL_refuses 143 = .ok (.bipush 21, 2) := by decide +kernel
theorem dL_refuses_145 : decode cL_refuses 145 = .ok (.invokestatic 157, 3) := by decide +kernel
theorem dL_refuses_148 : decode cL_refuses 148 = .ok (.sipush (-1002), 3) := by decide +kernel
theorem dL_refuses_151 : decode cL_refuses 151 = .ok (.if_icmp .ne 216, 3) := by decide +kernel
theorem dL_refuses_154 : decode cL_refuses 154 = .ok (.aload_n 0, 1) := by decide +kernel
theorem dL_refuses_155 : decode cL_refuses 155 = .ok (.iconst 0, 1) := by decide +kernel
theorem dL_refuses_156 : decode cL_refuses 156 = .ok (.bipush 39, 2) := by decide +kernel
theorem dL_refuses_158 : decode cL_refuses 158 = .ok (.invokestatic 160, 3) := by decide +kernel
theorem dL_refuses_161 : decode cL_refuses 161 = .ok (.sipush (-1002), 3) := by decide +kernel
theorem dL_refuses_164 : decode cL_refuses 164 = .ok (.if_icmp .ne 203, 3) := by decide +kernel
theorem dL_refuses_167 : decode cL_refuses 167 = .ok (.aload_n 0, 1) := by decide +kernel
theorem dL_refuses_168 : decode cL_refuses 168 = .ok (.iconst 1, 1) := by decide +kernel
theorem dL_refuses_169 : decode cL_refuses 169 = .ok (.bipush 10, 2) := by decide +kernel
theorem dL_refuses_171 : decode cL_refuses 171 = .ok (.invokestatic 160, 3) := by decide +kernel
theorem dL_refuses_174 : decode cL_refuses 174 = .ok (.sipush (-1002), 3) := by decide +kernel
theorem dL_refuses_177 : decode cL_refuses 177 = .ok (.if_icmp .ne 190, 3) := by decide +kernel
theorem dL_refuses_180 : decode cL_refuses 180 = .ok (.aload_n 0, 1) := by decide +kernel
theorem dL_refuses_181 : decode cL_refuses 181 = .ok (.iconst 2, 1) := by decide +kernel
theorem dL_refuses_182 : decode cL_refuses 182 = .ok (.bipush 6, 2) := by decide +kernel
theorem dL_refuses_184 : decode cL_refuses 184 = .ok (.invokestatic 160, 3) := by decide +kernel
theorem dL_refuses_187 : decode cL_refuses 187 = .ok (.sipush (-1002), 3) := by decide +kernel
theorem dL_refuses_190 : decode cL_refuses 190 = .ok (.if_icmp .ne 177, 3) := by decide +kernel
theorem dL_refuses_193 : decode cL_refuses 193 = .ok (.aload_n 0, 1) := by decide +kernel
theorem dL_refuses_194 : decode cL_refuses 194 = .ok (.iconst 3, 1) := by decide +kernel
theorem dL_refuses_195 : decode cL_refuses 195 = .ok (.bipush 59, 2) := by decide +kernel
theorem dL_refuses_197 : decode cL_refuses 197 = .ok (.invokestatic 160, 3) := by decide +kernel
theorem dL_refuses_200 : decode cL_refuses 200 = .ok (.sipush (-1002), 3) := by decide +kernel
theorem dL_refuses_203 : decode cL_refuses 203 = .ok (.if_icmp .ne 164, 3) := by decide +kernel
theorem dL_refuses_206 : decode cL_refuses 206 = .ok (.aload_n 0, 1) := by decide +kernel
theorem dL_refuses_207 : decode cL_refuses 207 = .ok (.iconst 4, 1) := by decide +kernel
theorem dL_refuses_208 : decode cL_refuses 208 = .ok (.iconst 0, 1) := by decide +kernel
theorem dL_refuses_209 : decode cL_refuses 209 = .ok (.invokestatic 160, 3) := by decide +kernel
theorem dL_refuses_212 : decode cL_refuses 212 = .ok (.sipush (-1002), 3) := by decide +kernel
theorem dL_refuses_215 : decode cL_refuses 215 = .ok (.if_icmp .ne 152, 3) := by decide +kernel
theorem dL_refuses_218 : decode cL_refuses 218 = .ok (.aload_n 0, 1) := by decide +kernel
theorem dL_refuses_219 : decode cL_refuses 219 = .ok (.iconst 5, 1) := by decide +kernel
theorem dL_refuses_220 : decode cL_refuses 220 = .ok (.bipush 24, 2) := by decide +kernel
theorem dL_refuses_222 : decode cL_refuses 222 = .ok (.invokestatic 160, 3) := by decide +kernel
theorem dL_refuses_225 : decode cL_refuses 225 = .ok (.sipush (-1002), 3) := by decide +kernel
theorem dL_refuses_228 : decode cL_refuses 228 = .ok (.if_icmp .ne 139, 3) := by decide +kernel
theorem dL_refuses_231 : decode cL_refuses 231 = .ok (.aload_n 0, 1) := by decide +kernel
theorem dL_refuses_232 : decode cL_refuses 232 = .ok (.bipush 6, 2) := by decide +kernel
theorem dL_refuses_234 : decode cL_refuses 234 = .ok (.iconst 1, 1) := by decide +kernel
theorem dL_refuses_235 : decode cL_refuses 235 = .ok (.invokestatic 160, 3) := by decide +kernel
theorem dL_refuses_238 : decode cL_refuses 238 = .ok (.sipush (-1002), 3) := by decide +kernel
theorem dL_refuses_241 : decode cL_refuses 241 = .ok (.if_icmp .ne 126, 3) := by decide +kernel
theorem dL_refuses_244 : decode cL_refuses 244 = .ok (.aload_n 0, 1) := by decide +kernel
theorem dL_refuses_245 : decode cL_refuses 245 = .ok (.iconst 2, 1) := by decide +kernel
theorem dL_refuses_246 : decode cL_refuses 246 = .ok (.iconst 1, 1) := by decide +kernel
theorem dL_refuses_247 : decode cL_refuses 247 = .ok (.invokestatic 163, 3) := by decide +kernel
theorem dL_refuses_250 : decode cL_refuses 250 = .ok (.sipush (-1001), 3) := by decide +kernel
theorem dL_refuses_253 : decode cL_refuses 253 = .ok (.if_icmp .ne 114, 3) := by decide +kernel
theorem dL_refuses_256 : decode cL_refuses 256 = .ok (.aload_n 0, 1) := by decide +kernel
theorem dL_refuses_257 : decode cL_refuses 257 = .ok (.iconst (-1), 1) := by decide +kernel
theorem dL_refuses_258 : decode cL_refuses 258 = .ok (.bipush 100, 2) := by decide +kernel
theorem dL_refuses_260 : decode cL_refuses 260 = .ok (.invokestatic 167, 3) := by decide +kernel
theorem dL_refuses_263 : decode cL_refuses 263 = .ok (.sipush (-1001), 3) := by decide +kernel
theorem dL_refuses_266 : decode cL_refuses 266 = .ok (.if_icmp .ne 101, 3) := by decide +kernel
theorem dL_refuses_269 : decode cL_refuses 269 = .ok (.aload_n 0, 1) := by decide +kernel
theorem dL_refuses_270 : decode cL_refuses 270 = .ok (.iconst 0, 1) := by decide +kernel
theorem dL_refuses_271 : decode cL_refuses 271 = .ok (.bipush 100, 2) := by decide +kernel
theorem dL_refuses_273 : decode cL_refuses 273 = .ok (.invokestatic 167, 3) := by decide +kernel
theorem dL_refuses_276 : decode cL_refuses 276 = .ok (.sipush (-1002), 3) := by decide +kernel
theorem dL_refuses_279 : decode cL_refuses 279 = .ok (.if_icmp .ne 88, 3) := by decide +kernel
theorem dL_refuses_282 : decode cL_refuses 282 = .ok (.aload_n 0, 1) := by decide +kernel
theorem dL_refuses_283 : decode cL_refuses 283 = .ok (.iload_n 1, 1) := by decide +kernel
theorem dL_refuses_284 : decode cL_refuses 284 = .ok (.invokestatic 170, 3) := by decide +kernel
theorem dL_refuses_287 : decode cL_refuses 287 = .ok (.sipush (-1001), 3) := by decide +kernel
theorem dL_refuses_290 : decode cL_refuses 290 = .ok (.if_icmp .ne 77, 3) := by decide +kernel
theorem dL_refuses_293 : decode cL_refuses 293 = .ok (.iload_n 2, 1) := by decide +kernel
theorem dL_refuses_294 : decode cL_refuses 294 = .ok (.iconst 4, 1) := by decide +kernel
theorem dL_refuses_295 : decode cL_refuses 295 = .ok (.if_icmp .ne 14, 3) := by decide +kernel
theorem dL_refuses_298 : decode cL_refuses 298 = .ok (.aload_n 0, 1) := by decide +kernel
theorem dL_refuses_299 : decode cL_refuses 299 = .ok (.iconst 0, 1) := by decide +kernel
theorem dL_refuses_300 : decode cL_refuses 300 = .ok (.invokestatic 170, 3) := by decide +kernel
theorem dL_refuses_303 : decode cL_refuses 303 = .ok (.sipush (-1003), 3) := by decide +kernel
theorem dL_refuses_306 : decode cL_refuses 306 = .ok (.if_icmp .ne 61, 3) := by decide +kernel
theorem dL_refuses_309 : decode cL_refuses 309 = .ok (.aload_n 0, 1) := by decide +kernel
theorem dL_refuses_310 : decode cL_refuses 310 = .ok (.iload_n 1, 1) := by decide +kernel
theorem dL_refuses_311 : decode cL_refuses 311 = .ok (.invokestatic 173, 3) := by decide +kernel
theorem dL_refuses_314 : decode cL_refuses 314 = .ok (.sipush (-1001), 3) := by decide +kernel
theorem dL_refuses_317 : decode cL_refuses 317 = .ok (.if_icmp .ne 50, 3) := by decide +kernel
theorem dL_refuses_320 : decode cL_refuses 320 = .ok (.iload_n 2, 1) := by decide +kernel
theorem dL_refuses_321 : decode cL_refuses 321 = .ok (.iconst 4, 1) := by decide +kernel
theorem dL_refuses_322 : decode cL_refuses 322 = .ok (.if_icmp .eq 14, 3) := by decide +kernel
theorem dL_refuses_325 : decode cL_refuses 325 = .ok (.aload_n 0, 1) := by decide +kernel
theorem dL_refuses_326 : decode cL_refuses 326 = .ok (.iconst 0, 1) := by decide +kernel
theorem dL_refuses_327 : decode cL_refuses 327 = .ok (.invokestatic 173, 3) := by decide +kernel
theorem dL_refuses_330 : decode cL_refuses 330 = .ok (.sipush (-1003), 3) := by decide +kernel
theorem dL_refuses_333 : decode cL_refuses 333 = .ok (.if_icmp .ne 34, 3) := by decide +kernel
theorem dL_refuses_336 : decode cL_refuses 336 = .ok (.aload_n 0, 1) := by decide +kernel
theorem dL_refuses_337 : decode cL_refuses 337 = .ok (.iload_n 1, 1) := by decide +kernel
theorem dL_refuses_338 : decode cL_refuses 338 = .ok (.invokestatic 176, 3) := by decide +kernel
theorem dL_refuses_341 : decode cL_refuses 341 = .ok (.sipush (-1001), 3) := by decide +kernel
theorem dL_refuses_344 : decode cL_refuses 344 = .ok (.if_icmp .ne 23, 3) := by decide +kernel
theorem dL_refuses_347 : decode cL_refuses 347 = .ok (.iload_n 2, 1) := by decide +kernel
theorem dL_refuses_348 : decode cL_refuses 348 = .ok (.iconst 3, 1) := by decide +kernel
theorem dL_refuses_349 : decode cL_refuses 349 = .ok (.if_icmp .eq 14, 3) := by decide +kernel
theorem dL_refuses_352 : decode cL_refuses 352 = .ok (.aload_n 0, 1) := by decide +kernel
theorem dL_refuses_353 : decode cL_refuses 353 = .ok (.iconst 0, 1) := by decide +kernel
theorem dL_refuses_354 : decode cL_refuses 354 = .ok (.invokestatic 176, 3) := by decide +kernel
theorem dL_refuses_357 : decode cL_refuses 357 = .ok (.sipush (-1003), 3) := by decide +kernel
theorem dL_refuses_360 : decode cL_refuses 360 = .ok (.if_icmp .ne 7, 3) := by decide +kernel
theorem dL_refuses_363 : decode cL_refuses 363 = .ok (.iconst 1, 1) := by decide +kernel
theorem dL_refuses_364 : decode cL_refuses 364 = .ok (.goto 4, 3) := by decide +kernel
theorem dL_refuses_367 : decode cL_refuses 367 = .ok (.iconst 0, 1) := by decide +kernel
theorem dL_refuses_368 : decode cL_refuses 368 = .ok (.istore_n 3, 1) := by decide +kernel
theorem dL_refuses_369 : decode cL_refuses 369 = .ok (.iload_n 3, 1) := by decide +kernel
theorem dL_refuses_370 : decode cL_refuses 370 = .ok (.ifCond .eq 211, 3) := by decide +kernel
theorem dL_refuses_373 : decode cL_refuses 373 = .ok (.aload_n 0, 1) := by decide +kernel
theorem dL_refuses_374 : decode cL_refuses 374 = .ok (.iload_n 1, 1) := by decide +kernel
theorem dL_refuses_375 : decode cL_refuses 375 = .ok (.invokestatic 179, 3) := by decide +kernel
theorem dL_refuses_378 : decode cL_refuses 378 = .ok (.sipush (-1001), 3) := by decide +kernel
theorem dL_refuses_381 : decode cL_refuses 381 = .ok (.if_icmp .ne 200, 3) := by decide +kernel
theorem dL_refuses_384 : decode cL_refuses 384 = .ok (.aload_n 0, 1) := by decide +kernel
theorem dL_refuses_385 : decode cL_refuses 385 = .ok (.sipush 151, 3) := by decide +kernel
theorem dL_refuses_388 : decode cL_refuses 388 = .ok (.iconst 1, 1) := by decide +kernel
theorem dL_refuses_389 : decode cL_refuses 389 = .ok (.invokestatic 182, 3) := by decide +kernel
theorem dL_refuses_392 : decode cL_refuses 392 = .ok (.sipush (-1002), 3) := by decide +kernel
theorem dL_refuses_395 : decode cL_refuses 395 = .ok (.if_icmp .ne 186, 3) := by decide +kernel
theorem dL_refuses_398 : decode cL_refuses 398 = .ok (.aload_n 0, 1) := by decide +kernel
theorem dL_refuses_399 : decode cL_refuses 399 = .ok (.iconst 0, 1) := by decide +kernel
theorem dL_refuses_400 : decode cL_refuses 400 = .ok (.iconst 0, 1) := by decide +kernel
theorem dL_refuses_401 : decode cL_refuses 401 = .ok (.invokestatic 182, 3) := by decide +kernel
theorem dL_refuses_404 : decode cL_refuses 404 = .ok (.sipush (-1002), 3) := by decide +kernel
theorem dL_refuses_407 : decode cL_refuses 407 = .ok (.if_icmp .ne 174, 3) := by decide +kernel
theorem dL_refuses_410 : decode cL_refuses 410 = .ok (.aload_n 0, 1) := by decide +kernel
theorem dL_refuses_411 : decode cL_refuses 411 = .ok (.iconst 1, 1) := by decide +kernel
theorem dL_refuses_412 : decode cL_refuses 412 = .ok (.iconst 0, 1) := by decide +kernel
theorem dL_refuses_413 : decode cL_refuses 413 = .ok (.bipush 7, 2) := by decide +kernel
theorem dL_refuses_415 : decode cL_refuses 415 = .ok (.invokestatic 185, 3) := by decide +kernel
theorem dL_refuses_418 : decode cL_refuses 418 = .ok (.sipush (-1002), 3) := by decide +kernel
theorem dL_refuses_421 : decode cL_refuses 421 = .ok (.if_icmp .ne 160, 3) := by decide +kernel
theorem dL_refuses_424 : decode cL_refuses 424 = .ok (.aload_n 0, 1) := by decide +kernel
theorem dL_refuses_425 : decode cL_refuses 425 = .ok (.bipush 97, 2) := by decide +kernel
theorem dL_refuses_427 : decode cL_refuses 427 = .ok (.iconst 0, 1) := by decide +kernel
theorem dL_refuses_428 : decode cL_refuses 428 = .ok (.iconst 0, 1) := by decide +kernel
theorem dL_refuses_429 : decode cL_refuses 429 = .ok (.invokestatic 185, 3) := by decide +kernel
theorem dL_refuses_432 : decode cL_refuses 432 = .ok (.sipush (-1002), 3) := by decide +kernel
theorem dL_refuses_435 : decode cL_refuses 435 = .ok (.if_icmp .ne 146, 3) := by decide +kernel
theorem dL_refuses_438 : decode cL_refuses 438 = .ok (.aload_n 0, 1) := by decide +kernel
theorem dL_refuses_439 : decode cL_refuses 439 = .ok (.bipush 100, 2) := by decide +kernel
theorem dL_refuses_441 : decode cL_refuses 441 = .ok (.iconst 0, 1) := by decide +kernel
theorem dL_refuses_442 : decode cL_refuses 442 = .ok (.invokestatic 189, 3) := by decide +kernel
theorem dL_refuses_445 : decode cL_refuses 445 = .ok (.sipush (-1002), 3) := by decide +kernel
theorem dL_refuses_448 : decode cL_refuses 448 = .ok (.if_icmp .ne 133, 3) := by decide +kernel
theorem dL_refuses_451 : decode cL_refuses 451 = .ok (.aload_n 0, 1) := by decide +kernel
theorem dL_refuses_452 : decode cL_refuses 452 = .ok (.iconst 0, 1) := by decide +kernel
theorem dL_refuses_453 : decode cL_refuses 453 = .ok (.bipush 6, 2) := by decide +kernel
theorem dL_refuses_455 : decode cL_refuses 455 = .ok (.invokestatic 189, 3) := by decide +kernel
theorem dL_refuses_458 : decode cL_refuses 458 = .ok (.sipush (-1002), 3) := by decide +kernel
theorem dL_refuses_461 : decode cL_refuses 461 = .ok (.if_icmp .ne 120, 3) := by decide +kernel
theorem dL_refuses_464 : decode cL_refuses 464 = .ok (.aload_n 0, 1) := by decide +kernel
theorem dL_refuses_465 : decode cL_refuses 465 = .ok (.iconst 1, 1) := by decide +kernel
theorem dL_refuses_466 : decode cL_refuses 466 = .ok (.bipush 9, 2) := by decide +kernel
theorem dL_refuses_468 : decode cL_refuses 468 = .ok (.invokestatic 192, 3) := by decide +kernel
theorem dL_refuses_471 : decode cL_refuses 471 = .ok (.sipush (-1002), 3) := by decide +kernel
theorem dL_refuses_474 : decode cL_refuses 474 = .ok (.if_icmp .ne 107, 3) := by decide +kernel
theorem dL_refuses_477 : decode cL_refuses 477 = .ok (.aload_n 0, 1) := by decide +kernel
theorem dL_refuses_478 : decode cL_refuses 478 = .ok (.iconst 0, 1) := by decide +kernel
theorem dL_refuses_479 : decode cL_refuses 479 = .ok (.bipush 10, 2) := by decide +kernel
theorem dL_refuses_481 : decode cL_refuses 481 = .ok (.invokestatic 192, 3) := by decide +kernel
theorem dL_refuses_484 : decode cL_refuses 484 = .ok (.sipush (-1002), 3) := by decide +kernel
theorem dL_refuses_487 : decode cL_refuses 487 = .ok (.if_icmp .ne 94, 3) := by decide +kernel
theorem dL_refuses_490 : decode cL_refuses 490 = .ok (.aload_n 0, 1) := by decide +kernel
theorem dL_refuses_491 : decode cL_refuses 491 = .ok (.bipush 97, 2) := by decide +kernel
theorem dL_refuses_493 : decode cL_refuses 493 = .ok (.iconst 0, 1) := by decide +kernel
theorem dL_refuses_494 : decode cL_refuses 494 = .ok (.invokestatic 195, 3) := by decide +kernel
theorem dL_refuses_497 : decode cL_refuses 497 = .ok (.sipush (-1002), 3) := by decide +kernel
theorem dL_refuses_500 : decode cL_refuses 500 = .ok (.if_icmp .ne 81, 3) := by decide +kernel
theorem dL_refuses_503 : decode cL_refuses 503 = .ok (.aload_n 0, 1) := by decide +kernel
theorem dL_refuses_504 : decode cL_refuses 504 = .ok (.iconst 4, 1) := by decide +kernel
theorem dL_refuses_505 : decode cL_refuses 505 = .ok (.lconst 0, 1) := by decide +kernel
theorem dL_refuses_506 : decode cL_refuses 506 = .ok (.invokestatic 198, 3) := by decide +kernel
theorem dL_refuses_509 : decode cL_refuses 509 = .ok (.sipush (-1002), 3) := by decide +kernel
theorem dL_refuses_512 : decode cL_refuses 512 = .ok (.if_icmp .ne 69, 3) := by decide +kernel
theorem dL_refuses_515 : decode cL_refuses 515 = .ok (.aload_n 0, 1) := by decide +kernel
theorem dL_refuses_516 : decode cL_refuses 516 = .ok (.iconst 1, 1) := by decide +kernel
theorem dL_refuses_517 : decode cL_refuses 517 = .ok (.ldc2_w 202, 3) := by decide +kernel
theorem dL_refuses_520 : decode cL_refuses 520 = .ok (.invokestatic 198, 3) := by decide +kernel
theorem dL_refuses_523 : decode cL_refuses 523 = .ok (.sipush (-1002), 3) := by decide +kernel
theorem dL_refuses_526 : decode cL_refuses 526 = .ok (.if_icmp .ne 55, 3) := by decide +kernel
theorem dL_refuses_529 : decode cL_refuses 529 = .ok (.aload_n 0, 1) := by decide +kernel
theorem dL_refuses_530 : decode cL_refuses 530 = .ok (.lconst 1, 1) := by decide +kernel
theorem dL_refuses_531 : decode cL_refuses 531 = .ok (.bipush 97, 2) := by decide +kernel
theorem dL_refuses_533 : decode cL_refuses 533 = .ok (.invokestatic 204, 3) := by decide +kernel
theorem dL_refuses_536 : decode cL_refuses 536 = .ok (.sipush (-1002), 3) := by decide +kernel
theorem dL_refuses_539 : decode cL_refuses 539 = .ok (.if_icmp .ne 42, 3) := by decide +kernel
theorem dL_refuses_542 : decode cL_refuses 542 = .ok (.aload_n 0, 1) := by decide +kernel
theorem dL_refuses_543 : decode cL_refuses 543 = .ok (.iconst 2, 1) := by decide +kernel
theorem dL_refuses_544 : decode cL_refuses 544 = .ok (.invokestatic 208, 3) := by decide +kernel
theorem dL_refuses_547 : decode cL_refuses 547 = .ok (.sipush (-1001), 3) := by decide +kernel
theorem dL_refuses_550 : decode cL_refuses 550 = .ok (.if_icmp .ne 31, 3) := by decide +kernel
theorem dL_refuses_553 : decode cL_refuses 553 = .ok (.aload_n 0, 1) := by decide +kernel
theorem dL_refuses_554 : decode cL_refuses 554 = .ok (.iconst (-1), 1) := by decide +kernel
theorem dL_refuses_555 : decode cL_refuses 555 = .ok (.invokestatic 142, 3) := by decide +kernel
theorem dL_refuses_558 : decode cL_refuses 558 = .ok (.sipush (-1001), 3) := by decide +kernel
theorem dL_refuses_561 : decode cL_refuses 561 = .ok (.if_icmp .ne 20, 3) := by decide +kernel
theorem dL_refuses_564 : decode cL_refuses 564 = .ok (.aload_n 0, 1) := by decide +kernel
theorem dL_refuses_565 : decode cL_refuses 565 = .ok (.sipush 256, 3) := by decide +kernel
theorem dL_refuses_568 : decode cL_refuses 568 = .ok (.invokestatic 102, 3) := by decide +kernel
theorem dL_refuses_571 : decode cL_refuses 571 = .ok (.sipush (-1002), 3) := by decide +kernel
theorem dL_refuses_574 : decode cL_refuses 574 = .ok (.if_icmp .ne 7, 3) := by decide +kernel
theorem dL_refuses_577 : decode cL_refuses 577 = .ok (.iconst 1, 1) := by decide +kernel
theorem dL_refuses_578 : decode cL_refuses 578 = .ok (.goto 4, 3) := by decide +kernel
theorem dL_refuses_581 : decode cL_refuses 581 = .ok (.iconst 0, 1) := by decide +kernel
theorem dL_refuses_582 : decode cL_refuses 582 = .ok (.ireturn, 1) := by decide +kernel
theorem dL_heat_0 : decode cL_heat 0 = .ok (.iconst 0, 1) := by decide +kernel
theorem dL_heat_1 : decode cL_heat 1 = .ok (.istore_n 1, 1) := by decide +kernel
theorem dL_heat_2 : decode cL_heat 2 = .ok (.iconst 0, 1) := by decide +kernel
theorem dL_heat_3 : decode cL_heat 3 = .ok (.istore_n 2, 1) := by decide +kernel
theorem dL_heat_4 : decode cL_heat 4 = .ok (.iload_n 2, 1) := by decide +kernel
theorem dL_heat_5 : decode cL_heat 5 = .ok (.aload_n 0, 1) := by decide +kernel
theorem dL_heat_6 : decode cL_heat 6 = .ok (.bipush 7, 2) := by decide +kernel
theorem dL_heat_8 : decode cL_heat 8 = .ok (.invokestatic 129, 3) := by decide +kernel
theorem dL_heat_11 : decode cL_heat 11 = .ok (.if_icmp .ge 17, 3) := by decide +kernel
theorem dL_heat_14 : decode cL_heat 14 = .ok (.iload_n 1, 1) := by decide +kernel
theorem dL_heat_15 : decode cL_heat 15 = .ok (.aload_n 0, 1) := by decide +kernel
theorem dL_heat_16 : decode cL_heat 16 = .ok (.iload_n 2, 1) := by decide +kernel
theorem dL_heat_17 : decode cL_heat 17 = .ok (.invokestatic 132, 3) := by decide +kernel
theorem dL_heat_20 : decode cL_heat 20 = .ok (.iadd, 1) := by decide +kernel
theorem dL_heat_21 : decode cL_heat 21 = .ok (.istore_n 1, 1) := by decide +kernel
theorem dL_heat_22 : decode cL_heat 22 = .ok (.iinc 2 1, 3) := by decide +kernel
theorem dL_heat_25 : decode cL_heat 25 = .ok (.goto (-21), 3) := by decide +kernel
theorem dL_heat_28 : decode cL_heat 28 = .ok (.iload_n 1, 1) := by decide +kernel
theorem dL_heat_29 : decode cL_heat 29 = .ok (.ireturn, 1) := by decide +kernel
theorem dL_sound_0 : decode cL_sound 0 = .ok (.aload_n 0, 1) := by decide +kernel
theorem dL_sound_1 : decode cL_sound 1 = .ok (.bipush 6, 2) := by decide +kernel
theorem dL_sound_3 : decode cL_sound 3 = .ok (.invokestatic 129, 3) := by decide +kernel
theorem dL_sound_6 : decode cL_sound 6 = .ok (.istore_n 1, 1) := by decide +kernel
theorem dL_sound_7 : decode cL_sound 7 = .ok (.iconst 2, 1) := by decide +kernel
theorem dL_sound_8 : decode cL_sound 8 = .ok (.newarray .int, 2) := by decide +kernel
theorem dL_sound_10 : decode cL_sound 10 = .ok (.astore_n 2, 1) := by decide +kernel
theorem dL_sound_11 : decode cL_sound 11 = .ok (.iconst 0, 1) := by decide +kernel
theorem dL_sound_12 : decode cL_sound 12 = .ok (.istore_n 3, 1) := by decide +kernel
theorem dL_sound_13 : decode cL_sound 13 = .ok (.iconst 0, 1) := by decide +kernel
theorem dL_sound_14 : decode cL_sound 14 = .ok (.istore 4, 2) := by decide +kernel
theorem dL_sound_16 : decode cL_sound 16 = .ok (.bipush (-9), 2) := by decide +kernel
theorem dL_sound_18 : decode cL_sound 18 = .ok (.istore 5, 2) := by decide +kernel
theorem dL_sound_20 : decode cL_sound 20 = .ok (.aload_n 0, 1) := by decide +kernel
theorem dL_sound_21 : decode cL_sound 21 = .ok (.bipush 9, 2) := by decide +kernel
theorem dL_sound_23 : decode cL_sound 23 = .ok (.invokestatic 129, 3) := by decide +kernel
theorem dL_sound_26 : decode cL_sound 26 = .ok (.aload_n 0, 1) := by decide +kernel
theorem dL_sound_27 : decode cL_sound 27 = .ok (.invokestatic 211, 3) := by decide +kernel
theorem dL_sound_30 : decode cL_sound 30 = .ok (.aload_n 0, 1) := by decide +kernel
theorem dL_sound_31 : decode cL_sound 31 = .ok (.bipush 7, 2) := by decide +kernel
theorem dL_sound_33 : decode cL_sound 33 = .ok (.invokestatic 129, 3) := by decide +kernel
theorem dL_sound_36 : decode cL_sound 36 = .ok (.idiv, 1) := by decide +kernel
theorem dL_sound_37 : decode cL_sound 37 = .ok (.if_icmp .ne 7, 3) := by decide +kernel
theorem dL_sound_40 : decode cL_sound 40 = .ok (.iconst 1, 1) := by decide +kernel
theorem dL_sound_41 : decode cL_sound 41 = .ok (.goto 4, 3) := by decide +kernel
theorem dL_sound_44 : decode cL_sound 44 = .ok (.iconst 0, 1) := by decide +kernel
theorem dL_sound_45 : decode cL_sound 45 = .ok (.istore 6, 2) := by decide +kernel
theorem dL_sound_47 : decode cL_sound 47 = .ok (.iconst 0, 1) := by decide +kernel
theorem dL_sound_48 : decode cL_sound 48 = .ok (.istore 7, 2) := by decide +kernel
theorem dL_sound_50 : decode cL_sound 50 = .ok (.iload 7, 2) := by decide +kernel
theorem dL_sound_52 : decode cL_sound 52 = .ok (.iload_n 1, 1) := by decide +kernel
theorem dL_sound_53 : decode cL_sound 53 = .ok (.if_icmp .ge 214, 3) := by decide +kernel
theorem dL_sound_56 : decode cL_sound 56 = .ok (.iload 6, 2) := by decide +kernel
theorem dL_sound_58 : decode cL_sound 58 = .ok (.ifCond .eq 209, 3) := by decide +kernel
theorem dL_sound_61 : decode cL_sound 61 = .ok (.aload_n 0, 1) := by decide +kernel
theorem dL_sound_62 : decode cL_sound 62 = .ok (.iload 7, 2) := by decide +kernel
theorem dL_sound_64 : decode cL_sound 64 = .ok (.iconst 2, 1) := by decide +kernel
theorem dL_sound_65 : decode cL_sound 65 = .ok (.invokestatic 151, 3) := by decide +kernel
theorem dL_sound_68 : decode cL_sound 68 = .ok (.istore 8, 2) := by decide +kernel
theorem dL_sound_70 : decode cL_sound 70 = .ok (.aload_n 0, 1) := by decide +kernel
theorem dL_sound_71 : decode cL_sound 71 = .ok (.iload 7, 2) := by decide +kernel
theorem dL_sound_73 : decode cL_sound 73 = .ok (.iconst 3, 1) := by decide +kernel
theorem dL_sound_74 : decode cL_sound 74 = .ok (.invokestatic 151, 3) := by decide +kernel
theorem dL_sound_77 : decode cL_sound 77 = .ok (.istore 9, 2) := by decide +kernel
theorem dL_sound_79 : decode cL_sound 79 = .ok (.aload_n 2, 1) := by decide +kernel
theorem dL_sound_80 : decode cL_sound 80 = .ok (.aload_n 0, 1) := by decide +kernel
theorem dL_sound_81 : decode cL_sound 81 = .ok (.iload 7, 2) := by decide +kernel
theorem dL_sound_83 : decode cL_sound 83 = .ok (.iconst 1, 1) := by decide +kernel
theorem dL_sound_84 : decode cL_sound 84 = .ok (.invokestatic 151, 3) := by decide +kernel
theorem dL_sound_87 : decode cL_sound 87 = .ok (.dup2, 1) := by decide +kernel
theorem dL_sound_88 : decode cL_sound 88 = .ok (.iaload, 1) := by decide +kernel
theorem dL_sound_89 : decode cL_sound 89 = .ok (.iload 8, 2) := by decide +kernel
theorem dL_sound_91 : decode cL_sound 91 = .ok (.iconst 1, 1) := by decide +kernel
theorem dL_sound_92 : decode cL_sound 92 = .ok (.if_icmp .eq 9, 3) := by decide +kernel
theorem dL_sound_95 : decode cL_sound 95 = .ok (.iload 8, 2) := by decide +kernel
theorem dL_sound_97 : decode cL_sound 97 = .ok (.iconst 2, 1) := by decide +kernel
theorem dL_sound_98 : decode cL_sound 98 = .ok (.if_icmp .ne 13, 3) := by decide +kernel
theorem dL_sound_101 : decode cL_sound 101 = .ok (.aload_n 0, 1) := by decide +kernel
theorem dL_sound_102 : decode cL_sound 102 = .ok (.iload 7, 2) := by decide +kernel
theorem dL_sound_104 : decode cL_sound 104 = .ok (.iconst 0, 1) := by decide +kernel
theorem dL_sound_105 : decode cL_sound 105 = .ok (.invokestatic 151, 3) := by decide +kernel
theorem dL_sound_108 : decode cL_sound 108 = .ok (.goto 4, 3) := by decide +kernel
theorem dL_sound_111 : decode cL_sound 111 = .ok (.iconst 0, 1) := by decide +kernel
theorem dL_sound_112 : decode cL_sound 112 = .ok (.iadd, 1) := by decide +kernel
theorem dL_sound_113 : decode cL_sound 113 = .ok (.iastore, 1) := by decide +kernel
theorem dL_sound_114 : decode cL_sound 114 = .ok (.iload_n 3, 1) := by decide +kernel
theorem dL_sound_115 : decode cL_sound 115 = .ok (.iload 8, 2) := by decide +kernel
theorem dL_sound_117 : decode cL_sound 117 = .ok (.iconst 2, 1) := by decide +kernel
theorem dL_sound_118 : decode cL_sound 118 = .ok (.if_icmp .ne 7, 3) := by decide +kernel
theorem dL_sound_121 : decode cL_sound 121 = .ok (.iconst 1, 1) := by decide +kernel
theorem dL_sound_122 : decode cL_sound 122 = .ok (.goto 4, 3) := by decide +kernel
theorem dL_sound_125 : decode cL_sound 125 = .ok (.iconst 0, 1) := by decide +kernel
theorem dL_sound_126 : decode cL_sound 126 = .ok (.iadd, 1) := by decide +kernel
theorem dL_sound_127 : decode cL_sound 127 = .ok (.istore_n 3, 1) := by decide +kernel
theorem dL_sound_128 : decode cL_sound 128 = .ok (.iload 4, 2) := by decide +kernel
theorem dL_sound_130 : decode cL_sound 130 = .ok (.aload_n 0, 1) := by decide +kernel
theorem dL_sound_131 : decode cL_sound 131 = .ok (.iload 7, 2) := by decide +kernel
theorem dL_sound_133 : decode cL_sound 133 = .ok (.bipush 6, 2) := by decide +kernel
theorem dL_sound_135 : decode cL_sound 135 = .ok (.invokestatic 151, 3) := by decide +kernel
theorem dL_sound_138 : decode cL_sound 138 = .ok (.iadd, 1) := by decide +kernel
theorem dL_sound_139 : decode cL_sound 139 = .ok (.istore 4, 2) := by decide +kernel
theorem dL_sound_141 : decode cL_sound 141 = .ok (.iload 8, 2) := by decide +kernel
theorem dL_sound_143 : decode cL_sound 143 = .ok (.iconst 1, 1) := by decide +kernel
theorem dL_sound_144 : decode cL_sound 144 = .ok (.if_icmp .ne 7, 3) := by decide +kernel
theorem dL_sound_147 : decode cL_sound 147 = .ok (.iconst 1, 1) := by decide +kernel
theorem dL_sound_148 : decode cL_sound 148 = .ok (.goto 4, 3) := by decide +kernel
theorem dL_sound_151 : decode cL_sound 151 = .ok (.iconst 0, 1) := by decide +kernel
theorem dL_sound_152 : decode cL_sound 152 = .ok (.iload 9, 2) := by decide +kernel
theorem dL_sound_154 : decode cL_sound 154 = .ok (.ifCond .le 7, 3) := by decide +kernel
theorem dL_sound_157 : decode cL_sound 157 = .ok (.iconst 1, 1) := by decide +kernel
theorem dL_sound_158 : decode cL_sound 158 = .ok (.goto 4, 3) := by decide +kernel
theorem dL_sound_161 : decode cL_sound 161 = .ok (.iconst 0, 1) := by decide +kernel
theorem dL_sound_162 : decode cL_sound 162 = .ok (.if_icmp .ne 96, 3) := by decide +kernel
theorem dL_sound_165 : decode cL_sound 165 = .ok (.iload 9, 2) := by decide +kernel
theorem dL_sound_167 : decode cL_sound 167 = .ok (.iconst 5, 1) := by decide +kernel
theorem dL_sound_168 : decode cL_sound 168 = .ok (.if_icmp .gt 90, 3) := by decide +kernel
theorem dL_sound_171 : decode cL_sound 171 = .ok (.aload_n 0, 1) := by decide +kernel
theorem dL_sound_172 : decode cL_sound 172 = .ok (.iload 7, 2) := by decide +kernel
theorem dL_sound_174 : decode cL_sound 174 = .ok (.bipush 6, 2) := by decide +kernel
theorem dL_sound_176 : decode cL_sound 176 = .ok (.invokestatic 151, 3) := by decide +kernel
theorem dL_sound_179 : decode cL_sound 179 = .ok (.aload_n 0, 1) := by decide +kernel
theorem dL_sound_180 : decode cL_sound 180 = .ok (.iload 7, 2) := by decide +kernel
theorem dL_sound_182 : decode cL_sound 182 = .ok (.iconst 0, 1) := by decide +kernel
theorem dL_sound_183 : decode cL_sound 183 = .ok (.invokestatic 151, 3) := by decide +kernel
theorem dL_sound_186 : decode cL_sound 186 = .ok (.aload_n 0, 1) := by decide +kernel
theorem dL_sound_187 : decode cL_sound 187 = .ok (.iload 7, 2) := by decide +kernel
theorem dL_sound_189 : decode cL_sound 189 = .ok (.iconst 4, 1) := by decide +kernel
theorem dL_sound_190 : decode cL_sound 190 = .ok (.invokestatic 151, 3) := by decide +kernel
theorem dL_sound_193 : decode cL_sound 193 = .ok (.imul, 1) := by decide +kernel
theorem dL_sound_194 : decode cL_sound 194 = .ok (.if_icmp .lt 64, 3) := by decide +kernel
theorem dL_sound_197 : decode cL_sound 197 = .ok (.aload_n 0, 1) := by decide +kernel
theorem dL_sound_198 : decode cL_sound 198 = .ok (.iload 7, 2) := by decide +kernel
theorem dL_sound_200 : decode cL_sound 200 = .ok (.iconst 4, 1) := by decide +kernel
theorem dL_sound_201 : decode cL_sound 201 = .ok (.invokestatic 151, 3) := by decide +kernel
theorem dL_sound_204 : decode cL_sound 204 = .ok (.aload_n 0, 1) := by decide +kernel
theorem dL_sound_205 : decode cL_sound 205 = .ok (.bipush 8, 2) := by decide +kernel
theorem dL_sound_207 : decode cL_sound 207 = .ok (.invokestatic 129, 3) := by decide +kernel
theorem dL_sound_210 : decode cL_sound 210 = .ok (.if_icmp .gt 48, 3) := by decide +kernel
theorem dL_sound_213 : decode cL_sound 213 = .ok (.aload_n 0, 1) := by decide +kernel
theorem dL_sound_214 : decode cL_sound 214 = .ok (.iload 7, 2) := by decide +kernel
theorem dL_sound_216 : decode cL_sound 216 = .ok (.iconst 5, 1) := by decide +kernel
theorem dL_sound_217 : decode cL_sound 217 = .ok (.invokestatic 151, 3) := by decide +kernel
theorem dL_sound_220 : decode cL_sound 220 = .ok (.ifCond .gt 14, 3) := by decide +kernel
theorem dL_sound_223 : decode cL_sound 223 = .ok (.iload 8, 2) := by decide +kernel
theorem dL_sound_225 : decode cL_sound 225 = .ok (.ifCond .eq 9, 3) := by decide +kernel
theorem dL_sound_228 : decode cL_sound 228 = .ok (.iload 8, 2) := by decide +kernel
theorem dL_sound_230 : decode cL_sound 230 = .ok (.iconst 4, 1) := by decide +kernel
theorem dL_sound_231 : decode cL_sound 231 = .ok (.if_icmp .ne 27, 3) := by decide +kernel
theorem dL_sound_234 : decode cL_sound 234 = .ok (.aload_n 0, 1) := by decide +kernel
theorem dL_sound_235 : decode cL_sound 235 = .ok (.iload 7, 2) := by decide +kernel
theorem dL_sound_237 : decode cL_sound 237 = .ok (.iconst 4, 1) := by decide +kernel
theorem dL_sound_238 : decode cL_sound 238 = .ok (.invokestatic 151, 3) := by decide +kernel
theorem dL_sound_241 : decode cL_sound 241 = .ok (.ifCond .eq 13, 3) := by decide +kernel
theorem dL_sound_244 : decode cL_sound 244 = .ok (.aload_n 0, 1) := by decide +kernel
theorem dL_sound_245 : decode cL_sound 245 = .ok (.iload 7, 2) := by decide +kernel
theorem dL_sound_247 : decode cL_sound 247 = .ok (.iconst 5, 1) := by decide +kernel
theorem dL_sound_248 : decode cL_sound 248 = .ok (.invokestatic 151, 3) := by decide +kernel
theorem dL_sound_251 : decode cL_sound 251 = .ok (.ifCond .le 7, 3) := by decide +kernel
theorem dL_sound_254 : decode cL_sound 254 = .ok (.iconst 1, 1) := by decide +kernel
theorem dL_sound_255 : decode cL_sound 255 = .ok (.goto 4, 3) := by decide +kernel
theorem dL_sound_258 : decode cL_sound 258 = .ok (.iconst 0, 1) := by decide +kernel
theorem dL_sound_259 : decode cL_sound 259 = .ok (.istore 6, 2) := by decide +kernel
theorem dL_sound_261 : decode cL_sound 261 = .ok (.iinc 7 1, 3) := by decide +kernel
theorem dL_sound_264 : decode cL_sound 264 = .ok (.goto (-214), 3) := by decide +kernel
theorem dL_sound_267 : decode cL_sound 267 = .ok (.iconst 0, 1) := by decide +kernel
theorem dL_sound_268 : decode cL_sound 268 = .ok (.istore 7, 2) := by decide +kernel
theorem dL_sound_270 : decode cL_sound 270 = .ok (.iload 7, 2) := by decide +kernel
theorem dL_sound_272 : decode cL_sound 272 = .ok (.iload_n 1, 1) := by decide +kernel
theorem dL_sound_273 : decode cL_sound 273 = .ok (.if_icmp .ge 201, 3) := by decide +kernel
theorem dL_sound_276 : decode cL_sound 276 = .ok (.iload 6, 2) := by decide +kernel
theorem dL_sound_278 : decode cL_sound 278 = .ok (.ifCond .eq 196, 3) := by decide +kernel
theorem dL_sound_281 : decode cL_sound 281 = .ok (.aload_n 0, 1) := by decide +kernel
theorem dL_sound_282 : decode cL_sound 282 = .ok (.iload 7, 2) := by decide +kernel
theorem dL_sound_284 : decode cL_sound 284 = .ok (.iconst 1, 1) := by decide +kernel
theorem dL_sound_285 : decode cL_sound 285 = .ok (.invokestatic 151, 3) := by decide +kernel
theorem dL_sound_288 : decode cL_sound 288 = .ok (.istore 8, 2) := by decide +kernel
theorem dL_sound_290 : decode cL_sound 290 = .ok (.aload_n 0, 1) := by decide +kernel
theorem dL_sound_291 : decode cL_sound 291 = .ok (.iload 7, 2) := by decide +kernel
theorem dL_sound_293 : decode cL_sound 293 = .ok (.iconst 2, 1) := by decide +kernel
theorem dL_sound_294 : decode cL_sound 294 = .ok (.invokestatic 151, 3) := by decide +kernel
theorem dL_sound_297 : decode cL_sound 297 = .ok (.istore 9, 2) := by decide +kernel
theorem dL_sound_299 : decode cL_sound 299 = .ok (.aload_n 0, 1) := by decide +kernel
theorem dL_sound_300 : decode cL_sound 300 = .ok (.iload 8, 2) := by decide +kernel
theorem dL_sound_302 : decode cL_sound 302 = .ok (.iconst 2, 1) := by decide +kernel
theorem dL_sound_303 : decode cL_sound 303 = .ok (.invokestatic 135, 3) := by decide +kernel
theorem dL_sound_306 : decode cL_sound 306 = .ok (.iconst 1, 1) := by decide +kernel
theorem dL_sound_307 : decode cL_sound 307 = .ok (.if_icmp .ne 29, 3) := by decide +kernel
theorem dL_sound_310 : decode cL_sound 310 = .ok (.aload_n 2, 1) := by decide +kernel
theorem dL_sound_311 : decode cL_sound 311 = .ok (.iload 8, 2) := by decide +kernel
theorem dL_sound_313 : decode cL_sound 313 = .ok (.iaload, 1) := by decide +kernel
theorem dL_sound_314 : decode cL_sound 314 = .ok (.aload_n 0, 1) := by decide +kernel
theorem dL_sound_315 : decode cL_sound 315 = .ok (.iload 7, 2) := by decide +kernel
theorem dL_sound_317 : decode cL_sound 317 = .ok (.iconst 0, 1) := by decide +kernel
theorem dL_sound_318 : decode cL_sound 318 = .ok (.invokestatic 151, 3) := by decide +kernel
theorem dL_sound_321 : decode cL_sound 321 = .ok (.iadd, 1) := by decide +kernel
theorem dL_sound_322 : decode cL_sound 322 = .ok (.aload_n 0, 1) := by decide +kernel
theorem dL_sound_323 : decode cL_sound 323 = .ok (.iload 8, 2) := by decide +kernel
theorem dL_sound_325 : decode cL_sound 325 = .ok (.iconst 0, 1) := by decide +kernel
theorem dL_sound_326 : decode cL_sound 326 = .ok (.invokestatic 135, 3) := by decide +kernel
theorem dL_sound_329 : decode cL_sound 329 = .ok (.if_icmp .gt 7, 3) := by decide +kernel
theorem dL_sound_332 : decode cL_sound 332 = .ok (.iconst 1, 1) := by decide +kernel
theorem dL_sound_333 : decode cL_sound 333 = .ok (.goto 4, 3) := by decide +kernel
theorem dL_sound_336 : decode cL_sound 336 = .ok (.iconst 0, 1) := by decide +kernel
theorem dL_sound_337 : decode cL_sound 337 = .ok (.istore 10, 2) := by decide +kernel
theorem dL_sound_339 : decode cL_sound 339 = .ok (.iload 9, 2) := by decide +kernel
theorem dL_sound_341 : decode cL_sound 341 = .ok (.iconst 1, 1) := by decide +kernel
theorem dL_sound_342 : decode cL_sound 342 = .ok (.if_icmp .eq 9, 3) := by decide +kernel
theorem dL_sound_345 : decode cL_sound 345 = .ok (.iload 9, 2) := by decide +kernel
theorem dL_sound_347 : decode cL_sound 347 = .ok (.iconst 2, 1) := by decide +kernel
theorem dL_sound_348 : decode cL_sound 348 = .ok (.if_icmp .ne 7, 3) := by decide +kernel
theorem dL_sound_351 : decode cL_sound 351 = .ok (.iconst 1, 1) := by decide +kernel
theorem dL_sound_352 : decode cL_sound 352 = .ok (.goto 37, 3) := by decide +kernel
theorem dL_sound_355 : decode cL_sound 355 = .ok (.iload 9, 2) := by decide +kernel
theorem dL_sound_357 : decode cL_sound 357 = .ok (.iconst 4, 1) := by decide +kernel
theorem dL_sound_358 : decode cL_sound 358 = .ok (.if_icmp .ne 7, 3) := by decide +kernel
theorem dL_sound_361 : decode cL_sound 361 = .ok (.iconst 2, 1) := by decide +kernel
theorem dL_sound_362 : decode cL_sound 362 = .ok (.goto 27, 3) := by decide +kernel
theorem dL_sound_365 : decode cL_sound 365 = .ok (.iload 10, 2) := by decide +kernel
theorem dL_sound_367 : decode cL_sound 367 = .ok (.ifCond .eq 7, 3) := by decide +kernel
theorem dL_sound_370 : decode cL_sound 370 = .ok (.iconst 0, 1) := by decide +kernel
theorem dL_sound_371 : decode cL_sound 371 = .ok (.goto 18, 3) := by decide +kernel
theorem dL_sound_374 : decode cL_sound 374 = .ok (.aload_n 0, 1) := by decide +kernel
theorem dL_sound_375 : decode cL_sound 375 = .ok (.iload 8, 2) := by decide +kernel
theorem dL_sound_377 : decode cL_sound 377 = .ok (.iconst 2, 1) := by decide +kernel
theorem dL_sound_378 : decode cL_sound 378 = .ok (.invokestatic 135, 3) := by decide +kernel
theorem dL_sound_381 : decode cL_sound 381 = .ok (.ifCond .ne 7, 3) := by decide +kernel
theorem dL_sound_384 : decode cL_sound 384 = .ok (.iconst 3, 1) := by decide +kernel
theorem dL_sound_385 : decode cL_sound 385 = .ok (.goto 4, 3) := by decide +kernel
theorem dL_sound_388 : decode cL_sound 388 = .ok (.iconst 4, 1) := by decide +kernel
theorem dL_sound_389 : decode cL_sound 389 = .ok (.istore 11, 2) := by decide +kernel
theorem dL_sound_391 : decode cL_sound 391 = .ok (.iload 11, 2) := by decide +kernel
theorem dL_sound_393 : decode cL_sound 393 = .ok (.ifCond .ne 32, 3) := by decide +kernel
theorem dL_sound_396 : decode cL_sound 396 = .ok (.iload 5, 2) := by decide +kernel
theorem dL_sound_398 : decode cL_sound 398 = .ok (.bipush (-9), 2) := by decide +kernel
theorem dL_sound_400 : decode cL_sound 400 = .ok (.if_icmp .eq 20, 3) := by decide +kernel
theorem dL_sound_403 : decode cL_sound 403 = .ok (.aload_n 0, 1) := by decide +kernel
theorem dL_sound_404 : decode cL_sound 404 = .ok (.iload 7, 2) := by decide +kernel
theorem dL_sound_406 : decode cL_sound 406 = .ok (.iconst 4, 1) := by decide +kernel
theorem dL_sound_407 : decode cL_sound 407 = .ok (.invokestatic 151, 3) := by decide +kernel
theorem dL_sound_410 : decode cL_sound 410 = .ok (.aload_n 0, 1) := by decide +kernel
theorem dL_sound_411 : decode cL_sound 411 = .ok (.iload 5, 2) := by decide +kernel
theorem dL_sound_413 : decode cL_sound 413 = .ok (.iconst 4, 1) := by decide +kernel
theorem dL_sound_414 : decode cL_sound 414 = .ok (.invokestatic 151, 3) := by decide +kernel
theorem dL_sound_417 : decode cL_sound 417 = .ok (.if_icmp .ge 8, 3) := by decide +kernel
theorem dL_sound_420 : decode cL_sound 420 = .ok (.iload 7, 2) := by decide +kernel
theorem dL_sound_422 : decode cL_sound 422 = .ok (.goto 5, 3) := by decide +kernel
theorem dL_sound_425 : decode cL_sound 425 = .ok (.iload 5, 2) := by decide +kernel
theorem dL_sound_427 : decode cL_sound 427 = .ok (.istore 5, 2) := by decide +kernel
theorem dL_sound_429 : decode cL_sound 429 = .ok (.aload_n 0, 1) := by decide +kernel
theorem dL_sound_430 : decode cL_sound 430 = .ok (.iload 7, 2) := by decide +kernel
theorem dL_sound_432 : decode cL_sound 432 = .ok (.bipush 7, 2) := by decide +kernel
theorem dL_sound_434 : decode cL_sound 434 = .ok (.invokestatic 151, 3) := by decide +kernel
theorem dL_sound_437 : decode cL_sound 437 = .ok (.iload 10, 2) := by decide +kernel
theorem dL_sound_439 : decode cL_sound 439 = .ok (.ifCond .eq 7, 3) := by decide +kernel
theorem dL_sound_442 : decode cL_sound 442 = .ok (.iconst 1, 1) := by decide +kernel
theorem dL_sound_443 : decode cL_sound 443 = .ok (.goto 4, 3) := by decide +kernel
theorem dL_sound_446 : decode cL_sound 446 = .ok (.iconst 0, 1) := by decide +kernel
theorem dL_sound_447 : decode cL_sound 447 = .ok (.if_icmp .ne 18, 3) := by decide +kernel
theorem dL_sound_450 : decode cL_sound 450 = .ok (.aload_n 0, 1) := by decide +kernel
theorem dL_sound_451 : decode cL_sound 451 = .ok (.iload 7, 2) := by decide +kernel
theorem dL_sound_453 : decode cL_sound 453 = .ok (.invokestatic 179, 3) := by decide +kernel
theorem dL_sound_456 : decode cL_sound 456 = .ok (.iload 11, 2) := by decide +kernel
theorem dL_sound_458 : decode cL_sound 458 = .ok (.if_icmp .ne 7, 3) := by decide +kernel
theorem dL_sound_461 : decode cL_sound 461 = .ok (.iconst 1, 1) := by decide +kernel
theorem dL_sound_462 : decode cL_sound 462 = .ok (.goto 4, 3) := by decide +kernel
theorem dL_sound_465 : decode cL_sound 465 = .ok (.iconst 0, 1) := by decide +kernel
theorem dL_sound_466 : decode cL_sound 466 = .ok (.istore 6, 2) := by decide +kernel
theorem dL_sound_468 : decode cL_sound 468 = .ok (.iinc 7 1, 3) := by decide +kernel
theorem dL_sound_471 : decode cL_sound 471 = .ok (.goto (-201), 3) := by decide +kernel
theorem dL_sound_474 : decode cL_sound 474 = .ok (.aload_n 0, 1) := by decide +kernel
theorem dL_sound_475 : decode cL_sound 475 = .ok (.bipush 11, 2) := by decide +kernel
theorem dL_sound_477 : decode cL_sound 477 = .ok (.invokestatic 129, 3) := by decide +kernel
theorem dL_sound_480 : decode cL_sound 480 = .ok (.iconst 1, 1) := by decide +kernel
theorem dL_sound_481 : decode cL_sound 481 = .ok (.if_icmp .ne 7, 3) := by decide +kernel
theorem dL_sound_484 : decode cL_sound 484 = .ok (.iconst 1, 1) := by decide +kernel
theorem dL_sound_485 : decode cL_sound 485 = .ok (.goto 4, 3) := by decide +kernel
theorem dL_sound_488 : decode cL_sound 488 = .ok (.iconst 0, 1) := by decide +kernel
theorem dL_sound_489 : decode cL_sound 489 = .ok (.istore 7, 2) := by decide +kernel
theorem dL_sound_491 : decode cL_sound 491 = .ok (.iload 6, 2) := by decide +kernel
theorem dL_sound_493 : decode cL_sound 493 = .ok (.ifCond .eq 142, 3) := by decide +kernel
theorem dL_sound_496 : decode cL_sound 496 = .ok (.aload_n 2, 1) := by decide +kernel
theorem dL_sound_497 : decode cL_sound 497 = .ok (.iconst 0, 1) := by decide +kernel
theorem dL_sound_498 : decode cL_sound 498 = .ok (.iaload, 1) := by decide +kernel
theorem dL_sound_499 : decode cL_sound 499 = .ok (.aload_n 0, 1) := by decide +kernel
theorem dL_sound_500 : decode cL_sound 500 = .ok (.iconst 0, 1) := by decide +kernel
theorem dL_sound_501 : decode cL_sound 501 = .ok (.iconst 1, 1) := by decide +kernel
theorem dL_sound_502 : decode cL_sound 502 = .ok (.invokestatic 135, 3) := by decide +kernel
theorem dL_sound_505 : decode cL_sound 505 = .ok (.if_icmp .ne 130, 3) := by decide +kernel
theorem dL_sound_508 : decode cL_sound 508 = .ok (.aload_n 2, 1) := by decide +kernel
theorem dL_sound_509 : decode cL_sound 509 = .ok (.iconst 1, 1) := by decide +kernel
theorem dL_sound_510 : decode cL_sound 510 = .ok (.iaload, 1) := by decide +kernel
theorem dL_sound_511 : decode cL_sound 511 = .ok (.aload_n 0, 1) := by decide +kernel
theorem dL_sound_512 : decode cL_sound 512 = .ok (.iconst 1, 1) := by decide +kernel
theorem dL_sound_513 : decode cL_sound 513 = .ok (.iconst 1, 1) := by decide +kernel
theorem dL_sound_514 : decode cL_sound 514 = .ok (.invokestatic 135, 3) := by decide +kernel
theorem dL_sound_517 : decode cL_sound 517 = .ok (.if_icmp .ne 118, 3) := by decide +kernel
theorem dL_sound_520 : decode cL_sound 520 = .ok (.iload_n 3, 1) := by decide +kernel
theorem dL_sound_521 : decode cL_sound 521 = .ok (.aload_n 0, 1) := by decide +kernel
theorem dL_sound_522 : decode cL_sound 522 = .ok (.bipush 16, 2) := by decide +kernel
theorem dL_sound_524 : decode cL_sound 524 = .ok (.invokestatic 129, 3) := by decide +kernel
theorem dL_sound_527 : decode cL_sound 527 = .ok (.if_icmp .ne 108, 3) := by decide +kernel
theorem dL_sound_530 : decode cL_sound 530 = .ok (.iload 4, 2) := by decide +kernel
theorem dL_sound_532 : decode cL_sound 532 = .ok (.aload_n 0, 1) := by decide +kernel
theorem dL_sound_533 : decode cL_sound 533 = .ok (.iconst 4, 1) := by decide +kernel
theorem dL_sound_534 : decode cL_sound 534 = .ok (.invokestatic 148, 3) := by decide +kernel
theorem dL_sound_537 : decode cL_sound 537 = .ok (.if_icmp .ne 98, 3) := by decide +kernel
theorem dL_sound_540 : decode cL_sound 540 = .ok (.iload 5, 2) := by decide +kernel
theorem dL_sound_542 : decode cL_sound 542 = .ok (.aload_n 0, 1) := by decide +kernel
theorem dL_sound_543 : decode cL_sound 543 = .ok (.invokevirtual 145, 3) := by decide +kernel
theorem dL_sound_546 : decode cL_sound 546 = .ok (.if_icmp .ne 89, 3) := by decide +kernel
theorem dL_sound_549 : decode cL_sound 549 = .ok (.aload_n 0, 1) := by decide +kernel
theorem dL_sound_550 : decode cL_sound 550 = .ok (.iconst 0, 1) := by decide +kernel
theorem dL_sound_551 : decode cL_sound 551 = .ok (.iconst 3, 1) := by decide +kernel
theorem dL_sound_552 : decode cL_sound 552 = .ok (.invokestatic 135, 3) := by decide +kernel
theorem dL_sound_555 : decode cL_sound 555 = .ok (.aload_n 0, 1) := by decide +kernel
theorem dL_sound_556 : decode cL_sound 556 = .ok (.iconst 1, 1) := by decide +kernel
theorem dL_sound_557 : decode cL_sound 557 = .ok (.iconst 3, 1) := by decide +kernel
theorem dL_sound_558 : decode cL_sound 558 = .ok (.invokestatic 135, 3) := by decide +kernel
theorem dL_sound_561 : decode cL_sound 561 = .ok (.iadd, 1) := by decide +kernel
theorem dL_sound_562 : decode cL_sound 562 = .ok (.iload_n 1, 1) := by decide +kernel
theorem dL_sound_563 : decode cL_sound 563 = .ok (.if_icmp .ne 72, 3) := by decide +kernel
theorem dL_sound_566 : decode cL_sound 566 = .ok (.aload_n 0, 1) := by decide +kernel
theorem dL_sound_567 : decode cL_sound 567 = .ok (.iconst 1, 1) := by decide +kernel
theorem dL_sound_568 : decode cL_sound 568 = .ok (.invokestatic 148, 3) := by decide +kernel
theorem dL_sound_571 : decode cL_sound 571 = .ok (.bipush 10, 2) := by decide +kernel
theorem dL_sound_573 : decode cL_sound 573 = .ok (.aload_n 0, 1) := by decide +kernel
theorem dL_sound_574 : decode cL_sound 574 = .ok (.iconst 5, 1) := by decide +kernel
theorem dL_sound_575 : decode cL_sound 575 = .ok (.invokestatic 148, 3) := by decide +kernel
theorem dL_sound_578 : decode cL_sound 578 = .ok (.imul, 1) := by decide +kernel
theorem dL_sound_579 : decode cL_sound 579 = .ok (.if_icmp .ne 56, 3) := by decide +kernel
theorem dL_sound_582 : decode cL_sound 582 = .ok (.iload 7, 2) := by decide +kernel
theorem dL_sound_584 : decode cL_sound 584 = .ok (.ifCond .ne 21, 3) := by decide +kernel
theorem dL_sound_587 : decode cL_sound 587 = .ok (.aload_n 0, 1) := by decide +kernel
theorem dL_sound_588 : decode cL_sound 588 = .ok (.bipush 12, 2) := by decide +kernel
theorem dL_sound_590 : decode cL_sound 590 = .ok (.invokestatic 129, 3) := by decide +kernel
theorem dL_sound_593 : decode cL_sound 593 = .ok (.ifCond .ne 42, 3) := by decide +kernel
theorem dL_sound_596 : decode cL_sound 596 = .ok (.aload_n 0, 1) := by decide +kernel
theorem dL_sound_597 : decode cL_sound 597 = .ok (.bipush 13, 2) := by decide +kernel
theorem dL_sound_599 : decode cL_sound 599 = .ok (.invokestatic 129, 3) := by decide +kernel
theorem dL_sound_602 : decode cL_sound 602 = .ok (.ifCond .ne 33, 3) := by decide +kernel
theorem dL_sound_605 : decode cL_sound 605 = .ok (.aload_n 0, 1) := by decide +kernel
theorem dL_sound_606 : decode cL_sound 606 = .ok (.bipush 12, 2) := by decide +kernel
theorem dL_sound_608 : decode cL_sound 608 = .ok (.invokestatic 129, 3) := by decide +kernel
theorem dL_sound_611 : decode cL_sound 611 = .ok (.aload_n 0, 1) := by decide +kernel
theorem dL_sound_612 : decode cL_sound 612 = .ok (.bipush 13, 2) := by decide +kernel
theorem dL_sound_614 : decode cL_sound 614 = .ok (.invokestatic 129, 3) := by decide +kernel
theorem dL_sound_617 : decode cL_sound 617 = .ok (.if_icmp .gt 18, 3) := by decide +kernel
theorem dL_sound_620 : decode cL_sound 620 = .ok (.aload_n 0, 1) := by decide +kernel
theorem dL_sound_621 : decode cL_sound 621 = .ok (.bipush 13, 2) := by decide +kernel
theorem dL_sound_623 : decode cL_sound 623 = .ok (.invokestatic 129, 3) := by decide +kernel
theorem dL_sound_626 : decode cL_sound 626 = .ok (.bipush 12, 2) := by decide +kernel
theorem dL_sound_628 : decode cL_sound 628 = .ok (.if_icmp .ge 7, 3) := by decide +kernel
theorem dL_sound_631 : decode cL_sound 631 = .ok (.iconst 1, 1) := by decide +kernel
theorem dL_sound_632 : decode cL_sound 632 = .ok (.goto 4, 3) := by decide +kernel
theorem dL_sound_635 : decode cL_sound 635 = .ok (.iconst 0, 1) := by decide +kernel
theorem dL_sound_636 : decode cL_sound 636 = .ok (.ireturn, 1) := by decide +kernel
theorem dL_ticks_0 : decode cL_ticks 0 = .ok (.aload_n 0, 1) := by decide +kernel
theorem dL_ticks_1 : decode cL_ticks 1 = .ok (.bipush 6, 2) := by decide +kernel
theorem dL_ticks_3 : decode cL_ticks 3 = .ok (.invokestatic 129, 3) := by decide +kernel
theorem dL_ticks_6 : decode cL_ticks 6 = .ok (.istore_n 2, 1) := by decide +kernel
theorem dL_ticks_7 : decode cL_ticks 7 = .ok (.iconst 1, 1) := by decide +kernel
theorem dL_ticks_8 : decode cL_ticks 8 = .ok (.iload_n 1, 1) := by decide +kernel
theorem dL_ticks_9 : decode cL_ticks 9 = .ok (.bipush 20, 2) := by decide +kernel
theorem dL_ticks_11 : decode cL_ticks 11 = .ok (.irem, 1) := by decide +kernel
theorem dL_ticks_12 : decode cL_ticks 12 = .ok (.iadd, 1) := by decide +kernel
theorem dL_ticks_13 : decode cL_ticks 13 = .ok (.istore_n 3, 1) := by decide +kernel
theorem dL_ticks_14 : decode cL_ticks 14 = .ok (.iload_n 1, 1) := by decide +kernel
theorem dL_ticks_15 : decode cL_ticks 15 = .ok (.bipush 32, 2) := by decide +kernel
theorem dL_ticks_17 : decode cL_ticks 17 = .ok (.idiv, 1) := by decide +kernel
theorem dL_ticks_18 : decode cL_ticks 18 = .ok (.iconst 4, 1) := by decide +kernel
theorem dL_ticks_19 : decode cL_ticks 19 = .ok (.irem, 1) := by decide +kernel
theorem dL_ticks_20 : decode cL_ticks 20 = .ok (.istore 4, 2) := by decide +kernel
theorem dL_ticks_22 : decode cL_ticks 22 = .ok (.aload_n 0, 1) := by decide +kernel
theorem dL_ticks_23 : decode cL_ticks 23 = .ok (.iload_n 3, 1) := by decide +kernel
theorem dL_ticks_24 : decode cL_ticks 24 = .ok (.iload 4, 2) := by decide +kernel
theorem dL_ticks_26 : decode cL_ticks 26 = .ok (.iconst 0, 1) := by decide +kernel
theorem dL_ticks_27 : decode cL_ticks 27 = .ok (.invokestatic 185, 3) := by decide +kernel
theorem dL_ticks_30 : decode cL_ticks 30 = .ok (.istore 5, 2) := by decide +kernel
theorem dL_ticks_32 : decode cL_ticks 32 = .ok (.aload_n 0, 1) := by decide +kernel
theorem dL_ticks_33 : decode cL_ticks 33 = .ok (.iload_n 3, 1) := by decide +kernel
theorem dL_ticks_34 : decode cL_ticks 34 = .ok (.iload 4, 2) := by decide +kernel
theorem dL_ticks_36 : decode cL_ticks 36 = .ok (.bipush 6, 2) := by decide +kernel
theorem dL_ticks_38 : decode cL_ticks 38 = .ok (.invokestatic 185, 3) := by decide +kernel
theorem dL_ticks_41 : decode cL_ticks 41 = .ok (.istore 6, 2) := by decide +kernel
theorem dL_ticks_43 : decode cL_ticks 43 = .ok (.aload_n 0, 1) := by decide +kernel
theorem dL_ticks_44 : decode cL_ticks 44 = .ok (.iload_n 3, 1) := by decide +kernel
theorem dL_ticks_45 : decode cL_ticks 45 = .ok (.iload 4, 2) := by decide +kernel
theorem dL_ticks_47 : decode cL_ticks 47 = .ok (.iconst 3, 1) := by decide +kernel
theorem dL_ticks_48 : decode cL_ticks 48 = .ok (.invokestatic 185, 3) := by decide +kernel
theorem dL_ticks_51 : decode cL_ticks 51 = .ok (.aload_n 0, 1) := by decide +kernel
theorem dL_ticks_52 : decode cL_ticks 52 = .ok (.iconst 4, 1) := by decide +kernel
theorem dL_ticks_53 : decode cL_ticks 53 = .ok (.invokestatic 148, 3) := by decide +kernel
theorem dL_ticks_56 : decode cL_ticks 56 = .ok (.iadd, 1) := by decide +kernel
theorem dL_ticks_57 : decode cL_ticks 57 = .ok (.istore 7, 2) := by decide +kernel
theorem dL_ticks_59 : decode cL_ticks 59 = .ok (.aload_n 0, 1) := by decide +kernel
theorem dL_ticks_60 : decode cL_ticks 60 = .ok (.iload_n 3, 1) := by decide +kernel
theorem dL_ticks_61 : decode cL_ticks 61 = .ok (.iload 4, 2) := by decide +kernel
theorem dL_ticks_63 : decode cL_ticks 63 = .ok (.iconst 4, 1) := by decide +kernel
theorem dL_ticks_64 : decode cL_ticks 64 = .ok (.invokestatic 185, 3) := by decide +kernel
theorem dL_ticks_67 : decode cL_ticks 67 = .ok (.istore 8, 2) := by decide +kernel
theorem dL_ticks_69 : decode cL_ticks 69 = .ok (.aload_n 0, 1) := by decide +kernel
theorem dL_ticks_70 : decode cL_ticks 70 = .ok (.iload_n 3, 1) := by decide +kernel
theorem dL_ticks_71 : decode cL_ticks 71 = .ok (.iload 4, 2) := by decide +kernel
theorem dL_ticks_73 : decode cL_ticks 73 = .ok (.iconst 5, 1) := by decide +kernel
theorem dL_ticks_74 : decode cL_ticks 74 = .ok (.invokestatic 185, 3) := by decide +kernel
theorem dL_ticks_77 : decode cL_ticks 77 = .ok (.aload_n 0, 1) := by decide +kernel
theorem dL_ticks_78 : decode cL_ticks 78 = .ok (.bipush 14, 2) := by decide +kernel
theorem dL_ticks_80 : decode cL_ticks 80 = .ok (.invokestatic 129, 3) := by decide +kernel
theorem dL_ticks_83 : decode cL_ticks 83 = .ok (.iadd, 1) := by decide +kernel
theorem dL_ticks_84 : decode cL_ticks 84 = .ok (.istore 9, 2) := by decide +kernel
theorem dL_ticks_86 : decode cL_ticks 86 = .ok (.bipush 99, 2) := by decide +kernel
theorem dL_ticks_88 : decode cL_ticks 88 = .ok (.istore 10, 2) := by decide +kernel
theorem dL_ticks_90 : decode cL_ticks 90 = .ok (.iconst 1, 1) := by decide +kernel
theorem dL_ticks_91 : decode cL_ticks 91 = .ok (.istore 11, 2) := by decide +kernel
theorem dL_ticks_93 : decode cL_ticks 93 = .ok (.iconst 0, 1) := by decide +kernel
theorem dL_ticks_94 : decode cL_ticks 94 = .ok (.istore 12, 2) := by decide +kernel
theorem dL_ticks_96 : decode cL_ticks 96 = .ok (.iload 12, 2) := by decide +kernel
theorem dL_ticks_98 : decode cL_ticks 98 = .ok (.iload_n 3, 1) := by decide +kernel
theorem dL_ticks_99 : decode cL_ticks 99 = .ok (.if_icmp .ge 858, 3) := by decide +kernel
theorem dL_ticks_102 : decode cL_ticks 102 = .ok (.iload 11, 2) := by decide +kernel
theorem dL_ticks_104 : decode cL_ticks 104 = .ok (.ifCond .eq 853, 3) := by decide +kernel
theorem dL_ticks_107 : decode cL_ticks 107 = .ok (.aload_n 0, 1) := by decide +kernel
theorem dL_ticks_108 : decode cL_ticks 108 = .ok (.invokestatic 211, 3) := by decide +kernel
theorem dL_ticks_111 : decode cL_ticks 111 = .ok (.istore 13, 2) := by decide +kernel
theorem dL_ticks_113 : decode cL_ticks 113 = .ok (.aload_n 0, 1) := by decide +kernel
theorem dL_ticks_114 : decode cL_ticks 114 = .ok (.iconst 1, 1) := by decide +kernel
theorem dL_ticks_115 : decode cL_ticks 115 = .ok (.invokestatic 148, 3) := by decide +kernel
theorem dL_ticks_118 : decode cL_ticks 118 = .ok (.istore 14, 2) := by decide +kernel
theorem dL_ticks_120 : decode cL_ticks 120 = .ok (.aload_n 0, 1) := by decide +kernel
theorem dL_ticks_121 : decode cL_ticks 121 = .ok (.iconst 2, 1) := by decide +kernel
theorem dL_ticks_122 : decode cL_ticks 122 = .ok (.invokestatic 148, 3) := by decide +kernel
theorem dL_ticks_125 : decode cL_ticks 125 = .ok (.istore 15, 2) := by decide +kernel
theorem dL_ticks_127 : decode cL_ticks 127 = .ok (.aload_n 0, 1) := by decide +kernel
theorem dL_ticks_128 : decode cL_ticks 128 = .ok (.iconst 3, 1) := by decide +kernel
theorem dL_ticks_129 : decode cL_ticks 129 = .ok (.invokestatic 148, 3) := by decide +kernel
theorem dL_ticks_132 : decode cL_ticks 132 = .ok (.istore 16, 2) := by decide +kernel
theorem dL_ticks_134 : decode cL_ticks 134 = .ok (.aload_n 0, 1) := by decide +kernel
theorem dL_ticks_135 : decode cL_ticks 135 = .ok (.iconst 0, 1) := by decide +kernel
theorem dL_ticks_136 : decode cL_ticks 136 = .ok (.invokestatic 148, 3) := by decide +kernel
theorem dL_ticks_139 : decode cL_ticks 139 = .ok (.istore 17, 2) := by decide +kernel
theorem dL_ticks_141 : decode cL_ticks 141 = .ok (.aload_n 0, 1) := by decide +kernel
theorem dL_ticks_142 : decode cL_ticks 142 = .ok (.bipush 8, 2) := by decide +kernel
theorem dL_ticks_144 : decode cL_ticks 144 = .ok (.invokestatic 129, 3) := by decide +kernel
theorem dL_ticks_147 : decode cL_ticks 147 = .ok (.bipush 24, 2) := by decide +kernel
theorem dL_ticks_149 : decode cL_ticks 149 = .ok (.irem, 1) := by decide +kernel
theorem dL_ticks_150 : decode cL_ticks 150 = .ok (.aload_n 0, 1) := by decide +kernel
theorem dL_ticks_151 : decode cL_ticks 151 = .ok (.iconst 5, 1) := by decide +kernel
theorem dL_ticks_152 : decode cL_ticks 152 = .ok (.invokestatic 129, 3) := by decide +kernel
theorem dL_ticks_155 : decode cL_ticks 155 = .ok (.if_icmp .ne 7, 3) := by decide +kernel
theorem dL_ticks_158 : decode cL_ticks 158 = .ok (.iconst 1, 1) := by decide +kernel
theorem dL_ticks_159 : decode cL_ticks 159 = .ok (.goto 4, 3) := by decide +kernel
theorem dL_ticks_162 : decode cL_ticks 162 = .ok (.iconst 0, 1) := by decide +kernel
theorem dL_ticks_163 : decode cL_ticks 163 = .ok (.istore 18, 2) := by decide +kernel
theorem dL_ticks_165 : decode cL_ticks 165 = .ok (.aload_n 0, 1) := by decide +kernel
theorem dL_ticks_166 : decode cL_ticks 166 = .ok (.bipush 11, 2) := by decide +kernel
theorem dL_ticks_168 : decode cL_ticks 168 = .ok (.invokestatic 129, 3) := by decide +kernel
theorem dL_ticks_171 : decode cL_ticks 171 = .ok (.iconst 1, 1) := by decide +kernel
theorem dL_ticks_172 : decode cL_ticks 172 = .ok (.if_icmp .ne 7, 3) := by decide +kernel
theorem dL_ticks_175 : decode cL_ticks 175 = .ok (.iconst 1, 1) := by decide +kernel
theorem dL_ticks_176 : decode cL_ticks 176 = .ok (.goto 4, 3) := by decide +kernel
theorem dL_ticks_179 : decode cL_ticks 179 = .ok (.iconst 0, 1) := by decide +kernel
theorem dL_ticks_180 : decode cL_ticks 180 = .ok (.istore 19, 2) := by decide +kernel
theorem dL_ticks_182 : decode cL_ticks 182 = .ok (.aload_n 0, 1) := by decide +kernel
theorem dL_ticks_183 : decode cL_ticks 183 = .ok (.bipush 14, 2) := by decide +kernel
theorem dL_ticks_185 : decode cL_ticks 185 = .ok (.invokestatic 129, 3) := by decide +kernel
theorem dL_ticks_188 : decode cL_ticks 188 = .ok (.aload_n 0, 1) := by decide +kernel
theorem dL_ticks_189 : decode cL_ticks 189 = .ok (.bipush 15, 2) := by decide +kernel
theorem dL_ticks_191 : decode cL_ticks 191 = .ok (.invokestatic 129, 3) := by decide +kernel
theorem dL_ticks_194 : decode cL_ticks 194 = .ok (.iadd, 1) := by decide +kernel
theorem dL_ticks_195 : decode cL_ticks 195 = .ok (.istore 20, 2) := by decide +kernel
theorem dL_ticks_197 : decode cL_ticks 197 = .ok (.bipush 20, 2) := by decide +kernel
theorem dL_ticks_199 : decode cL_ticks 199 = .ok (.newarray .int, 2) := by decide +kernel
theorem dL_ticks_201 : decode cL_ticks 201 = .ok (.astore 21, 2) := by decide +kernel
theorem dL_ticks_203 : decode cL_ticks 203 = .ok (.iconst 0, 1) := by decide +kernel
theorem dL_ticks_204 : decode cL_ticks 204 = .ok (.istore 22, 2) := by decide +kernel
theorem dL_ticks_206 : decode cL_ticks 206 = .ok (.iload 22, 2) := by decide +kernel
theorem dL_ticks_208 : decode cL_ticks 208 = .ok (.iload_n 2, 1) := by decide +kernel
theorem dL_ticks_209 : decode cL_ticks 209 = .ok (.if_icmp .ge 72, 3) := by decide +kernel
theorem dL_ticks_212 : decode cL_ticks 212 = .ok (.aload 21, 2) := by decide +kernel
theorem dL_ticks_214 : decode cL_ticks 214 = .ok (.iconst 4, 1) := by decide +kernel
theorem dL_ticks_215 : decode cL_ticks 215 = .ok (.iload 22, 2) := by decide +kernel
theorem dL_ticks_217 : decode cL_ticks 217 = .ok (.imul, 1) := by decide +kernel
theorem dL_ticks_218 : decode cL_ticks 218 = .ok (.aload_n 0, 1) := by decide +kernel
theorem dL_ticks_219 : decode cL_ticks 219 = .ok (.iload 22, 2) := by decide +kernel
theorem dL_ticks_221 : decode cL_ticks 221 = .ok (.iconst 2, 1) := by decide +kernel
theorem dL_ticks_222 : decode cL_ticks 222 = .ok (.invokestatic 151, 3) := by decide +kernel
theorem dL_ticks_225 : decode cL_ticks 225 = .ok (.iastore, 1) := by decide +kernel
theorem dL_ticks_226 : decode cL_ticks 226 = .ok (.aload 21, 2) := by decide +kernel
theorem dL_ticks_228 : decode cL_ticks 228 = .ok (.iconst 4, 1) := by decide +kernel
theorem dL_ticks_229 : decode cL_ticks 229 = .ok (.iload 22, 2) := by decide +kernel
theorem dL_ticks_231 : decode cL_ticks 231 = .ok (.imul, 1) := by decide +kernel
theorem dL_ticks_232 : decode cL_ticks 232 = .ok (.iconst 1, 1) := by decide +kernel
theorem dL_ticks_233 : decode cL_ticks 233 = .ok (.iadd, 1) := by decide +kernel
theorem dL_ticks_234 : decode cL_ticks 234 = .ok (.aload_n 0, 1) := by decide +kernel
theorem dL_ticks_235 : decode cL_ticks 235 = .ok (.iload 22, 2) := by decide +kernel
theorem dL_ticks_237 : decode cL_ticks 237 = .ok (.iconst 5, 1) := by decide +kernel
theorem dL_ticks_238 : decode cL_ticks 238 = .ok (.invokestatic 151, 3) := by decide +kernel
theorem dL_ticks_241 : decode cL_ticks 241 = .ok (.iastore, 1) := by decide +kernel
theorem dL_ticks_242 : decode cL_ticks 242 = .ok (.aload 21, 2) := by decide +kernel
theorem dL_ticks_244 : decode cL_ticks 244 = .ok (.iconst 4, 1) := by decide +kernel
theorem dL_ticks_245 : decode cL_ticks 245 = .ok (.iload 22, 2) := by decide +kernel
theorem dL_ticks_247 : decode cL_ticks 247 = .ok (.imul, 1) := by decide +kernel
theorem dL_ticks_248 : decode cL_ticks 248 = .ok (.iconst 2, 1) := by decide +kernel
theorem dL_ticks_249 : decode cL_ticks 249 = .ok (.iadd, 1) := by decide +kernel
theorem dL_ticks_250 : decode cL_ticks 250 = .ok (.aload_n 0, 1) := by decide +kernel
theorem dL_ticks_251 : decode cL_ticks 251 = .ok (.iload 22, 2) := by decide +kernel
theorem dL_ticks_253 : decode cL_ticks 253 = .ok (.iconst 4, 1) := by decide +kernel
theorem dL_ticks_254 : decode cL_ticks 254 = .ok (.invokestatic 151, 3) := by decide +kernel
theorem dL_ticks_257 : decode cL_ticks 257 = .ok (.iastore, 1) := by decide +kernel
theorem dL_ticks_258 : decode cL_ticks 258 = .ok (.aload 21, 2) := by decide +kernel
theorem dL_ticks_260 : decode cL_ticks 260 = .ok (.iconst 4, 1) := by decide +kernel
theorem dL_ticks_261 : decode cL_ticks 261 = .ok (.iload 22, 2) := by decide +kernel
theorem dL_ticks_263 : decode cL_ticks 263 = .ok (.imul, 1) := by decide +kernel
theorem dL_ticks_264 : decode cL_ticks 264 = .ok (.iconst 3, 1) := by decide +kernel
theorem dL_ticks_265 : decode cL_ticks 265 = .ok (.iadd, 1) := by decide +kernel
theorem dL_ticks_266 : decode cL_ticks 266 = .ok (.aload_n 0, 1) := by decide +kernel
theorem dL_ticks_267 : decode cL_ticks 267 = .ok (.iload 22, 2) := by decide +kernel
theorem dL_ticks_269 : decode cL_ticks 269 = .ok (.bipush 6, 2) := by decide +kernel
theorem dL_ticks_271 : decode cL_ticks 271 = .ok (.invokestatic 151, 3) := by decide +kernel
theorem dL_ticks_274 : decode cL_ticks 274 = .ok (.iastore, 1) := by decide +kernel
theorem dL_ticks_275 : decode cL_ticks 275 = .ok (.iinc 22 1, 3) := by decide +kernel
theorem dL_ticks_278 : decode cL_ticks 278 = .ok (.goto (-72), 3) := by decide +kernel
theorem dL_ticks_281 : decode cL_ticks 281 = .ok (.aload_n 0, 1) := by decide +kernel
theorem dL_ticks_282 : decode cL_ticks 282 = .ok (.iconst 1, 1) := by decide +kernel
theorem dL_ticks_283 : decode cL_ticks 283 = .ok (.iload 4, 2) := by decide +kernel
theorem dL_ticks_285 : decode cL_ticks 285 = .ok (.invokestatic 154, 3) := by decide +kernel
theorem dL_ticks_288 : decode cL_ticks 288 = .ok (.istore 22, 2) := by decide +kernel
theorem dL_ticks_290 : decode cL_ticks 290 = .ok (.iload 22, 2) := by decide +kernel
theorem dL_ticks_292 : decode cL_ticks 292 = .ok (.iload 10, 2) := by decide +kernel
theorem dL_ticks_294 : decode cL_ticks 294 = .ok (.if_icmp .ge 8, 3) := by decide +kernel
theorem dL_ticks_297 : decode cL_ticks 297 = .ok (.iload 22, 2) := by decide +kernel
theorem dL_ticks_299 : decode cL_ticks 299 = .ok (.goto 5, 3) := by decide +kernel
theorem dL_ticks_302 : decode cL_ticks 302 = .ok (.iload 10, 2) := by decide +kernel
theorem dL_ticks_304 : decode cL_ticks 304 = .ok (.istore 10, 2) := by decide +kernel
theorem dL_ticks_306 : decode cL_ticks 306 = .ok (.iconst 0, 1) := by decide +kernel
theorem dL_ticks_307 : decode cL_ticks 307 = .ok (.istore 23, 2) := by decide +kernel
theorem dL_ticks_309 : decode cL_ticks 309 = .ok (.iconst 0, 1) := by decide +kernel
theorem dL_ticks_310 : decode cL_ticks 310 = .ok (.istore 24, 2) := by decide +kernel
theorem dL_ticks_312 : decode cL_ticks 312 = .ok (.iconst 0, 1) := by decide +kernel
theorem dL_ticks_313 : decode cL_ticks 313 = .ok (.istore 25, 2) := by decide +kernel
theorem dL_ticks_315 : decode cL_ticks 315 = .ok (.iconst 0, 1) := by decide +kernel
theorem dL_ticks_316 : decode cL_ticks 316 = .ok (.istore 26, 2) := by decide +kernel
theorem dL_ticks_318 : decode cL_ticks 318 = .ok (.iload 26, 2) := by decide +kernel
theorem dL_ticks_320 : decode cL_ticks 320 = .ok (.iload_n 2, 1) := by decide +kernel
theorem dL_ticks_321 : decode cL_ticks 321 = .ok (.if_icmp .ge 367, 3) := by decide +kernel
theorem dL_ticks_324 : decode cL_ticks 324 = .ok (.iload 11, 2) := by decide +kernel
theorem dL_ticks_326 : decode cL_ticks 326 = .ok (.ifCond .eq 362, 3) := by decide +kernel
theorem dL_ticks_329 : decode cL_ticks 329 = .ok (.aload_n 0, 1) := by decide +kernel
theorem dL_ticks_330 : decode cL_ticks 330 = .ok (.iload 26, 2) := by decide +kernel
theorem dL_ticks_332 : decode cL_ticks 332 = .ok (.iconst 5, 1) := by decide +kernel
theorem dL_ticks_333 : decode cL_ticks 333 = .ok (.invokestatic 151, 3) := by decide +kernel
theorem dL_ticks_336 : decode cL_ticks 336 = .ok (.aload 21, 2) := by decide +kernel
theorem dL_ticks_338 : decode cL_ticks 338 = .ok (.iconst 4, 1) := by decide +kernel
theorem dL_ticks_339 : decode cL_ticks 339 = .ok (.iload 26, 2) := by decide +kernel
theorem dL_ticks_341 : decode cL_ticks 341 = .ok (.imul, 1) := by decide +kernel
theorem dL_ticks_342 : decode cL_ticks 342 = .ok (.iconst 1, 1) := by decide +kernel
theorem dL_ticks_343 : decode cL_ticks 343 = .ok (.iadd, 1) := by decide +kernel
theorem dL_ticks_344 : decode cL_ticks 344 = .ok (.iaload, 1) := by decide +kernel
theorem dL_ticks_345 : decode cL_ticks 345 = .ok (.iconst 1, 1) := by decide +kernel
theorem dL_ticks_346 : decode cL_ticks 346 = .ok (.iadd, 1) := by decide +kernel
theorem dL_ticks_347 : decode cL_ticks 347 = .ok (.if_icmp .ne 7, 3) := by decide +kernel
theorem dL_ticks_350 : decode cL_ticks 350 = .ok (.iconst 1, 1) := by decide +kernel
theorem dL_ticks_351 : decode cL_ticks 351 = .ok (.goto 4, 3) := by decide +kernel
theorem dL_ticks_354 : decode cL_ticks 354 = .ok (.iconst 0, 1) := by decide +kernel
theorem dL_ticks_355 : decode cL_ticks 355 = .ok (.istore 27, 2) := by decide +kernel
theorem dL_ticks_357 : decode cL_ticks 357 = .ok (.aload_n 0, 1) := by decide +kernel
theorem dL_ticks_358 : decode cL_ticks 358 = .ok (.iload 26, 2) := by decide +kernel
theorem dL_ticks_360 : decode cL_ticks 360 = .ok (.iconst 4, 1) := by decide +kernel
theorem dL_ticks_361 : decode cL_ticks 361 = .ok (.invokestatic 151, 3) := by decide +kernel
theorem dL_ticks_364 : decode cL_ticks 364 = .ok (.aload 21, 2) := by decide +kernel
theorem dL_ticks_366 : decode cL_ticks 366 = .ok (.iconst 4, 1) := by decide +kernel
theorem dL_ticks_367 : decode cL_ticks 367 = .ok (.iload 26, 2) := by decide +kernel
theorem dL_ticks_369 : decode cL_ticks 369 = .ok (.imul, 1) := by decide +kernel
theorem dL_ticks_370 : decode cL_ticks 370 = .ok (.iconst 2, 1) := by decide +kernel
theorem dL_ticks_371 : decode cL_ticks 371 = .ok (.iadd, 1) := by decide +kernel
theorem dL_ticks_372 : decode cL_ticks 372 = .ok (.iaload, 1) := by decide +kernel
theorem dL_ticks_373 : decode cL_ticks 373 = .ok (.iconst 1, 1) := by decide +kernel
theorem dL_ticks_374 : decode cL_ticks 374 = .ok (.iadd, 1) := by decide +kernel
theorem dL_ticks_375 : decode cL_ticks 375 = .ok (.if_icmp .ne 7, 3) := by decide +kernel
theorem dL_ticks_378 : decode cL_ticks 378 = .ok (.iconst 1, 1) := by decide +kernel
theorem dL_ticks_379 : decode cL_ticks 379 = .ok (.goto 4, 3) := by decide +kernel
theorem dL_ticks_382 : decode cL_ticks 382 = .ok (.iconst 0, 1) := by decide +kernel
theorem dL_ticks_383 : decode cL_ticks 383 = .ok (.istore 28, 2) := by decide +kernel
theorem dL_ticks_385 : decode cL_ticks 385 = .ok (.aload_n 0, 1) := by decide +kernel
theorem dL_ticks_386 : decode cL_ticks 386 = .ok (.iload 26, 2) := by decide +kernel
theorem dL_ticks_388 : decode cL_ticks 388 = .ok (.iconst 2, 1) := by decide +kernel
theorem dL_ticks_389 : decode cL_ticks 389 = .ok (.invokestatic 151, 3) := by decide +kernel
theorem dL_ticks_392 : decode cL_ticks 392 = .ok (.istore 29, 2) := by decide +kernel
theorem dL_ticks_394 : decode cL_ticks 394 = .ok (.iload 23, 2) := by decide +kernel
theorem dL_ticks_396 : decode cL_ticks 396 = .ok (.iload 27, 2) := by decide +kernel
theorem dL_ticks_398 : decode cL_ticks 398 = .ok (.ifCond .eq 7, 3) := by decide +kernel
theorem dL_ticks_401 : decode cL_ticks 401 = .ok (.iconst 1, 1) := by decide +kernel
theorem dL_ticks_402 : decode cL_ticks 402 = .ok (.goto 4, 3) := by decide +kernel
theorem dL_ticks_405 : decode cL_ticks 405 = .ok (.iconst 0, 1) := by decide +kernel
theorem dL_ticks_406 : decode cL_ticks 406 = .ok (.iadd, 1) := by decide +kernel
theorem dL_ticks_407 : decode cL_ticks 407 = .ok (.istore 23, 2) := by decide +kernel
theorem dL_ticks_409 : decode cL_ticks 409 = .ok (.iload 24, 2) := by decide +kernel
theorem dL_ticks_411 : decode cL_ticks 411 = .ok (.aload 21, 2) := by decide +kernel
theorem dL_ticks_413 : decode cL_ticks 413 = .ok (.iconst 4, 1) := by decide +kernel
theorem dL_ticks_414 : decode cL_ticks 414 = .ok (.iload 26, 2) := by decide +kernel
theorem dL_ticks_416 : decode cL_ticks 416 = .ok (.imul, 1) := by decide +kernel
theorem dL_ticks_417 : decode cL_ticks 417 = .ok (.iaload, 1) := by decide +kernel
theorem dL_ticks_418 : decode cL_ticks 418 = .ok (.iconst 2, 1) := by decide +kernel
theorem dL_ticks_419 : decode cL_ticks 419 = .ok (.if_icmp .ne 13, 3) := by decide +kernel
theorem dL_ticks_422 : decode cL_ticks 422 = .ok (.iload 29, 2) := by decide +kernel
theorem dL_ticks_424 : decode cL_ticks 424 = .ok (.iconst 3, 1) := by decide +kernel
theorem dL_ticks_425 : decode cL_ticks 425 = .ok (.if_icmp .ne 7, 3) := by decide +kernel
theorem dL_ticks_428 : decode cL_ticks 428 = .ok (.iconst 1, 1) := by decide +kernel
theorem dL_ticks_429 : decode cL_ticks 429 = .ok (.goto 4, 3) := by decide +kernel
theorem dL_ticks_432 : decode cL_ticks 432 = .ok (.iconst 0, 1) := by decide +kernel
theorem dL_ticks_433 : decode cL_ticks 433 = .ok (.iadd, 1) := by decide +kernel
theorem dL_ticks_434 : decode cL_ticks 434 = .ok (.istore 24, 2) := by decide +kernel
theorem dL_ticks_436 : decode cL_ticks 436 = .ok (.iload 25, 2) := by decide +kernel
theorem dL_ticks_438 : decode cL_ticks 438 = .ok (.iload 28, 2) := by decide +kernel
theorem dL_ticks_440 : decode cL_ticks 440 = .ok (.ifCond .eq 13, 3) := by decide +kernel
theorem dL_ticks_443 : decode cL_ticks 443 = .ok (.aload_n 0, 1) := by decide +kernel
theorem dL_ticks_444 : decode cL_ticks 444 = .ok (.iload 26, 2) := by decide +kernel
theorem dL_ticks_446 : decode cL_ticks 446 = .ok (.iconst 0, 1) := by decide +kernel
theorem dL_ticks_447 : decode cL_ticks 447 = .ok (.invokestatic 151, 3) := by decide +kernel
theorem dL_ticks_450 : decode cL_ticks 450 = .ok (.goto 4, 3) := by decide +kernel
theorem dL_ticks_453 : decode cL_ticks 453 = .ok (.iconst 0, 1) := by decide +kernel
theorem dL_ticks_454 : decode cL_ticks 454 = .ok (.iadd, 1) := by decide +kernel
theorem dL_ticks_455 : decode cL_ticks 455 = .ok (.istore 25, 2) := by decide +kernel
theorem dL_ticks_457 : decode cL_ticks 457 = .ok (.iload 8, 2) := by decide +kernel
theorem dL_ticks_459 : decode cL_ticks 459 = .ok (.iload 27, 2) := by decide +kernel
theorem dL_ticks_461 : decode cL_ticks 461 = .ok (.ifCond .eq 7, 3) := by decide +kernel
theorem dL_ticks_464 : decode cL_ticks 464 = .ok (.iconst 1, 1) := by decide +kernel
theorem dL_ticks_465 : decode cL_ticks 465 = .ok (.goto 4, 3) := by decide +kernel
theorem dL_ticks_468 : decode cL_ticks 468 = .ok (.iconst 0, 1) := by decide +kernel
theorem dL_ticks_469 : decode cL_ticks 469 = .ok (.isub, 1) := by decide +kernel
theorem dL_ticks_470 : decode cL_ticks 470 = .ok (.istore 8, 2) := by decide +kernel
theorem dL_ticks_472 : decode cL_ticks 472 = .ok (.iload 27, 2) := by decide +kernel
theorem dL_ticks_474 : decode cL_ticks 474 = .ok (.ifCond .ne 22, 3) := by decide +kernel
theorem dL_ticks_477 : decode cL_ticks 477 = .ok (.aload_n 0, 1) := by decide +kernel
theorem dL_ticks_478 : decode cL_ticks 478 = .ok (.iload 26, 2) := by decide +kernel
theorem dL_ticks_480 : decode cL_ticks 480 = .ok (.iconst 5, 1) := by decide +kernel
theorem dL_ticks_481 : decode cL_ticks 481 = .ok (.invokestatic 151, 3) := by decide +kernel
theorem dL_ticks_484 : decode cL_ticks 484 = .ok (.aload 21, 2) := by decide +kernel
theorem dL_ticks_486 : decode cL_ticks 486 = .ok (.iconst 4, 1) := by decide +kernel
theorem dL_ticks_487 : decode cL_ticks 487 = .ok (.iload 26, 2) := by decide +kernel
theorem dL_ticks_489 : decode cL_ticks 489 = .ok (.imul, 1) := by decide +kernel
theorem dL_ticks_490 : decode cL_ticks 490 = .ok (.iconst 1, 1) := by decide +kernel
theorem dL_ticks_491 : decode cL_ticks 491 = .ok (.iadd, 1) := by decide +kernel
theorem dL_ticks_492 : decode cL_ticks 492 = .ok (.iaload, 1) := by decide +kernel
theorem dL_ticks_493 : decode cL_ticks 493 = .ok (.if_icmp .ne 186, 3) := by decide +kernel
theorem dL_ticks_496 : decode cL_ticks 496 = .ok (.iload 28, 2) := by decide +kernel
theorem dL_ticks_498 : decode cL_ticks 498 = .ok (.ifCond .ne 22, 3) := by decide +kernel
theorem dL_ticks_501 : decode cL_ticks 501 = .ok (.aload_n 0, 1) := by decide +kernel
theorem dL_ticks_502 : decode cL_ticks 502 = .ok (.iload 26, 2) := by decide +kernel
theorem dL_ticks_504 : decode cL_ticks 504 = .ok (.iconst 4, 1) := by decide +kernel
theorem dL_ticks_505 : decode cL_ticks 505 = .ok (.invokestatic 151, 3) := by decide +kernel
theorem dL_ticks_508 : decode cL_ticks 508 = .ok (.aload 21, 2) := by decide +kernel
theorem dL_ticks_510 : decode cL_ticks 510 = .ok (.iconst 4, 1) := by decide +kernel
theorem dL_ticks_511 : decode cL_ticks 511 = .ok (.iload 26, 2) := by decide +kernel
theorem dL_ticks_513 : decode cL_ticks 513 = .ok (.imul, 1) := by decide +kernel
theorem dL_ticks_514 : decode cL_ticks 514 = .ok (.iconst 2, 1) := by decide +kernel
theorem dL_ticks_515 : decode cL_ticks 515 = .ok (.iadd, 1) := by decide +kernel
theorem dL_ticks_516 : decode cL_ticks 516 = .ok (.iaload, 1) := by decide +kernel
theorem dL_ticks_517 : decode cL_ticks 517 = .ok (.if_icmp .ne 162, 3) := by decide +kernel
theorem dL_ticks_520 : decode cL_ticks 520 = .ok (.iload 28, 2) := by decide +kernel
theorem dL_ticks_522 : decode cL_ticks 522 = .ok (.aload 21, 2) := by decide +kernel
theorem dL_ticks_524 : decode cL_ticks 524 = .ok (.iconst 4, 1) := by decide +kernel
theorem dL_ticks_525 : decode cL_ticks 525 = .ok (.iload 26, 2) := by decide +kernel
theorem dL_ticks_527 : decode cL_ticks 527 = .ok (.imul, 1) := by decide +kernel
theorem dL_ticks_528 : decode cL_ticks 528 = .ok (.iaload, 1) := by decide +kernel
theorem dL_ticks_529 : decode cL_ticks 529 = .ok (.iconst 2, 1) := by decide +kernel
theorem dL_ticks_530 : decode cL_ticks 530 = .ok (.if_icmp .ne 9, 3) := by decide +kernel
theorem dL_ticks_533 : decode cL_ticks 533 = .ok (.iload 29, 2) := by decide +kernel
theorem dL_ticks_535 : decode cL_ticks 535 = .ok (.iconst 2, 1) := by decide +kernel
theorem dL_ticks_536 : decode cL_ticks 536 = .ok (.if_icmp .eq 19, 3) := by decide +kernel
theorem dL_ticks_539 : decode cL_ticks 539 = .ok (.aload 21, 2) := by decide +kernel
theorem dL_ticks_541 : decode cL_ticks 541 = .ok (.iconst 4, 1) := by decide +kernel
theorem dL_ticks_542 : decode cL_ticks 542 = .ok (.iload 26, 2) := by decide +kernel
theorem dL_ticks_544 : decode cL_ticks 544 = .ok (.imul, 1) := by decide +kernel
theorem dL_ticks_545 : decode cL_ticks 545 = .ok (.iaload, 1) := by decide +kernel
theorem dL_ticks_546 : decode cL_ticks 546 = .ok (.iconst 3, 1) := by decide +kernel
theorem dL_ticks_547 : decode cL_ticks 547 = .ok (.if_icmp .ne 12, 3) := by decide +kernel
theorem dL_ticks_550 : decode cL_ticks 550 = .ok (.iload 27, 2) := by decide +kernel
theorem dL_ticks_552 : decode cL_ticks 552 = .ok (.ifCond .eq 7, 3) := by decide +kernel
theorem dL_ticks_555 : decode cL_ticks 555 = .ok (.iconst 1, 1) := by decide +kernel
theorem dL_ticks_556 : decode cL_ticks 556 = .ok (.goto 4, 3) := by decide +kernel
theorem dL_ticks_559 : decode cL_ticks 559 = .ok (.iconst 0, 1) := by decide +kernel
theorem dL_ticks_560 : decode cL_ticks 560 = .ok (.if_icmp .ne 119, 3) := by decide +kernel
theorem dL_ticks_563 : decode cL_ticks 563 = .ok (.aload_n 0, 1) := by decide +kernel
theorem dL_ticks_564 : decode cL_ticks 564 = .ok (.iload 26, 2) := by decide +kernel
theorem dL_ticks_566 : decode cL_ticks 566 = .ok (.bipush 6, 2) := by decide +kernel
theorem dL_ticks_568 : decode cL_ticks 568 = .ok (.invokestatic 151, 3) := by decide +kernel
theorem dL_ticks_571 : decode cL_ticks 571 = .ok (.aload 21, 2) := by decide +kernel
theorem dL_ticks_573 : decode cL_ticks 573 = .ok (.iconst 4, 1) := by decide +kernel
theorem dL_ticks_574 : decode cL_ticks 574 = .ok (.iload 26, 2) := by decide +kernel
theorem dL_ticks_576 : decode cL_ticks 576 = .ok (.imul, 1) := by decide +kernel
theorem dL_ticks_577 : decode cL_ticks 577 = .ok (.iconst 3, 1) := by decide +kernel
theorem dL_ticks_578 : decode cL_ticks 578 = .ok (.iadd, 1) := by decide +kernel
theorem dL_ticks_579 : decode cL_ticks 579 = .ok (.iaload, 1) := by decide +kernel
theorem dL_ticks_580 : decode cL_ticks 580 = .ok (.isub, 1) := by decide +kernel
theorem dL_ticks_581 : decode cL_ticks 581 = .ok (.iload 28, 2) := by decide +kernel
theorem dL_ticks_583 : decode cL_ticks 583 = .ok (.ifCond .eq 13, 3) := by decide +kernel
theorem dL_ticks_586 : decode cL_ticks 586 = .ok (.aload_n 0, 1) := by decide +kernel
theorem dL_ticks_587 : decode cL_ticks 587 = .ok (.iload 26, 2) := by decide +kernel
theorem dL_ticks_589 : decode cL_ticks 589 = .ok (.iconst 0, 1) := by decide +kernel
theorem dL_ticks_590 : decode cL_ticks 590 = .ok (.invokestatic 151, 3) := by decide +kernel
theorem dL_ticks_593 : decode cL_ticks 593 = .ok (.goto 14, 3) := by decide +kernel
theorem dL_ticks_596 : decode cL_ticks 596 = .ok (.iload 29, 2) := by decide +kernel
theorem dL_ticks_598 : decode cL_ticks 598 = .ok (.iconst 3, 1) := by decide +kernel
theorem dL_ticks_599 : decode cL_ticks 599 = .ok (.if_icmp .ne 7, 3) := by decide +kernel
theorem dL_ticks_602 : decode cL_ticks 602 = .ok (.iconst 1, 1) := by decide +kernel
theorem dL_ticks_603 : decode cL_ticks 603 = .ok (.goto 4, 3) := by decide +kernel
theorem dL_ticks_606 : decode cL_ticks 606 = .ok (.iconst 0, 1) := by decide +kernel
theorem dL_ticks_607 : decode cL_ticks 607 = .ok (.if_icmp .ne 72, 3) := by decide +kernel
theorem dL_ticks_610 : decode cL_ticks 610 = .ok (.iload 27, 2) := by decide +kernel
theorem dL_ticks_612 : decode cL_ticks 612 = .ok (.ifCond .eq 24, 3) := by decide +kernel
theorem dL_ticks_615 : decode cL_ticks 615 = .ok (.aload 21, 2) := by decide +kernel
theorem dL_ticks_617 : decode cL_ticks 617 = .ok (.iconst 4, 1) := by decide +kernel
theorem dL_ticks_618 : decode cL_ticks 618 = .ok (.iload 26, 2) := by decide +kernel
theorem dL_ticks_620 : decode cL_ticks 620 = .ok (.imul, 1) := by decide +kernel
theorem dL_ticks_621 : decode cL_ticks 621 = .ok (.iaload, 1) := by decide +kernel
theorem dL_ticks_622 : decode cL_ticks 622 = .ok (.ifCond .eq 14, 3) := by decide +kernel
theorem dL_ticks_625 : decode cL_ticks 625 = .ok (.aload 21, 2) := by decide +kernel
theorem dL_ticks_627 : decode cL_ticks 627 = .ok (.iconst 4, 1) := by decide +kernel
theorem dL_ticks_628 : decode cL_ticks 628 = .ok (.iload 26, 2) := by decide +kernel
theorem dL_ticks_630 : decode cL_ticks 630 = .ok (.imul, 1) := by decide +kernel
theorem dL_ticks_631 : decode cL_ticks 631 = .ok (.iaload, 1) := by decide +kernel
theorem dL_ticks_632 : decode cL_ticks 632 = .ok (.iconst 3, 1) := by decide +kernel
theorem dL_ticks_633 : decode cL_ticks 633 = .ok (.if_icmp .ne 46, 3) := by decide +kernel
theorem dL_ticks_636 : decode cL_ticks 636 = .ok (.aload 21, 2) := by decide +kernel
theorem dL_ticks_638 : decode cL_ticks 638 = .ok (.iconst 4, 1) := by decide +kernel
theorem dL_ticks_639 : decode cL_ticks 639 = .ok (.iload 26, 2) := by decide +kernel
theorem dL_ticks_641 : decode cL_ticks 641 = .ok (.imul, 1) := by decide +kernel
theorem dL_ticks_642 : decode cL_ticks 642 = .ok (.iaload, 1) := by decide +kernel
theorem dL_ticks_643 : decode cL_ticks 643 = .ok (.iconst 4, 1) := by decide +kernel
theorem dL_ticks_644 : decode cL_ticks 644 = .ok (.if_icmp .ne 9, 3) := by decide +kernel
theorem dL_ticks_647 : decode cL_ticks 647 = .ok (.iload 29, 2) := by decide +kernel
theorem dL_ticks_649 : decode cL_ticks 649 = .ok (.iconst 4, 1) := by decide +kernel
theorem dL_ticks_650 : decode cL_ticks 650 = .ok (.if_icmp .ne 29, 3) := by decide +kernel
theorem dL_ticks_653 : decode cL_ticks 653 = .ok (.aload 21, 2) := by decide +kernel
theorem dL_ticks_655 : decode cL_ticks 655 = .ok (.iconst 4, 1) := by decide +kernel
theorem dL_ticks_656 : decode cL_ticks 656 = .ok (.iload 26, 2) := by decide +kernel
theorem dL_ticks_658 : decode cL_ticks 658 = .ok (.imul, 1) := by decide +kernel
theorem dL_ticks_659 : decode cL_ticks 659 = .ok (.iaload, 1) := by decide +kernel
theorem dL_ticks_660 : decode cL_ticks 660 = .ok (.iconst 3, 1) := by decide +kernel
theorem dL_ticks_661 : decode cL_ticks 661 = .ok (.if_icmp .ne 14, 3) := by decide +kernel
theorem dL_ticks_664 : decode cL_ticks 664 = .ok (.iload 27, 2) := by decide +kernel
theorem dL_ticks_666 : decode cL_ticks 666 = .ok (.ifCond .ne 9, 3) := by decide +kernel
theorem dL_ticks_669 : decode cL_ticks 669 = .ok (.iload 29, 2) := by decide +kernel
theorem dL_ticks_671 : decode cL_ticks 671 = .ok (.iconst 3, 1) := by decide +kernel
theorem dL_ticks_672 : decode cL_ticks 672 = .ok (.if_icmp .ne 7, 3) := by decide +kernel
theorem dL_ticks_675 : decode cL_ticks 675 = .ok (.iconst 1, 1) := by decide +kernel
theorem dL_ticks_676 : decode cL_ticks 676 = .ok (.goto 4, 3) := by decide +kernel
theorem dL_ticks_679 : decode cL_ticks 679 = .ok (.iconst 0, 1) := by decide +kernel
theorem dL_ticks_680 : decode cL_ticks 680 = .ok (.istore 11, 2) := by decide +kernel
theorem dL_ticks_682 : decode cL_ticks 682 = .ok (.iinc 26 1, 3) := by decide +kernel
theorem dL_ticks_685 : decode cL_ticks 685 = .ok (.goto (-367), 3) := by decide +kernel
theorem dL_ticks_688 : decode cL_ticks 688 = .ok (.aload_n 0, 1) := by decide +kernel
theorem dL_ticks_689 : decode cL_ticks 689 = .ok (.bipush 10, 2) := by decide +kernel
theorem dL_ticks_691 : decode cL_ticks 691 = .ok (.invokestatic 129, 3) := by decide +kernel
theorem dL_ticks_694 : decode cL_ticks 694 = .ok (.istore 26, 2) := by decide +kernel
theorem dL_ticks_696 : decode cL_ticks 696 = .ok (.aload_n 0, 1) := by decide +kernel
theorem dL_ticks_697 : decode cL_ticks 697 = .ok (.bipush 11, 2) := by decide +kernel
theorem dL_ticks_699 : decode cL_ticks 699 = .ok (.invokestatic 129, 3) := by decide +kernel
theorem dL_ticks_702 : decode cL_ticks 702 = .ok (.iconst 1, 1) := by decide +kernel
theorem dL_ticks_703 : decode cL_ticks 703 = .ok (.if_icmp .ne 7, 3) := by decide +kernel
theorem dL_ticks_706 : decode cL_ticks 706 = .ok (.iconst 1, 1) := by decide +kernel
theorem dL_ticks_707 : decode cL_ticks 707 = .ok (.goto 4, 3) := by decide +kernel
theorem dL_ticks_710 : decode cL_ticks 710 = .ok (.iconst 0, 1) := by decide +kernel
theorem dL_ticks_711 : decode cL_ticks 711 = .ok (.istore 27, 2) := by decide +kernel
theorem dL_ticks_713 : decode cL_ticks 713 = .ok (.aload_n 0, 1) := by decide +kernel
theorem dL_ticks_714 : decode cL_ticks 714 = .ok (.bipush 14, 2) := by decide +kernel
theorem dL_ticks_716 : decode cL_ticks 716 = .ok (.invokestatic 129, 3) := by decide +kernel
theorem dL_ticks_719 : decode cL_ticks 719 = .ok (.aload_n 0, 1) := by decide +kernel
theorem dL_ticks_720 : decode cL_ticks 720 = .ok (.bipush 15, 2) := by decide +kernel
theorem dL_ticks_722 : decode cL_ticks 722 = .ok (.invokestatic 129, 3) := by decide +kernel
theorem dL_ticks_725 : decode cL_ticks 725 = .ok (.iadd, 1) := by decide +kernel
theorem dL_ticks_726 : decode cL_ticks 726 = .ok (.iload 20, 2) := by decide +kernel
theorem dL_ticks_728 : decode cL_ticks 728 = .ok (.isub, 1) := by decide +kernel
theorem dL_ticks_729 : decode cL_ticks 729 = .ok (.istore 28, 2) := by decide +kernel
theorem dL_ticks_731 : decode cL_ticks 731 = .ok (.iload 11, 2) := by decide +kernel
theorem dL_ticks_733 : decode cL_ticks 733 = .ok (.ifCond .eq 166, 3) := by decide +kernel
theorem dL_ticks_736 : decode cL_ticks 736 = .ok (.iload 23, 2) := by decide +kernel
theorem dL_ticks_738 : decode cL_ticks 738 = .ok (.iconst 1, 1) := by decide +kernel
theorem dL_ticks_739 : decode cL_ticks 739 = .ok (.if_icmp .gt 160, 3) := by decide +kernel
theorem dL_ticks_742 : decode cL_ticks 742 = .ok (.iload 24, 2) := by decide +kernel
theorem dL_ticks_744 : decode cL_ticks 744 = .ok (.iconst 1, 1) := by decide +kernel
theorem dL_ticks_745 : decode cL_ticks 745 = .ok (.if_icmp .gt 154, 3) := by decide +kernel
theorem dL_ticks_748 : decode cL_ticks 748 = .ok (.iload 23, 2) := by decide +kernel
theorem dL_ticks_750 : decode cL_ticks 750 = .ok (.iload 24, 2) := by decide +kernel
theorem dL_ticks_752 : decode cL_ticks 752 = .ok (.iadd, 1) := by decide +kernel
theorem dL_ticks_753 : decode cL_ticks 753 = .ok (.iconst 1, 1) := by decide +kernel
theorem dL_ticks_754 : decode cL_ticks 754 = .ok (.if_icmp .gt 145, 3) := by decide +kernel
theorem dL_ticks_757 : decode cL_ticks 757 = .ok (.iload 26, 2) := by decide +kernel
theorem dL_ticks_759 : decode cL_ticks 759 = .ok (.ifCond .eq 11, 3) := by decide +kernel
theorem dL_ticks_762 : decode cL_ticks 762 = .ok (.iload 23, 2) := by decide +kernel
theorem dL_ticks_764 : decode cL_ticks 764 = .ok (.iload 24, 2) := by decide +kernel
theorem dL_ticks_766 : decode cL_ticks 766 = .ok (.iadd, 1) := by decide +kernel
theorem dL_ticks_767 : decode cL_ticks 767 = .ok (.ifCond .ne 132, 3) := by decide +kernel
theorem dL_ticks_770 : decode cL_ticks 770 = .ok (.aload_n 0, 1) := by decide +kernel
theorem dL_ticks_771 : decode cL_ticks 771 = .ok (.iconst 0, 1) := by decide +kernel
theorem dL_ticks_772 : decode cL_ticks 772 = .ok (.invokestatic 148, 3) := by decide +kernel
theorem dL_ticks_775 : decode cL_ticks 775 = .ok (.iload 17, 2) := by decide +kernel
theorem dL_ticks_777 : decode cL_ticks 777 = .ok (.iload 25, 2) := by decide +kernel
theorem dL_ticks_779 : decode cL_ticks 779 = .ok (.iadd, 1) := by decide +kernel
theorem dL_ticks_780 : decode cL_ticks 780 = .ok (.if_icmp .ne 119, 3) := by decide +kernel
theorem dL_ticks_783 : decode cL_ticks 783 = .ok (.aload_n 0, 1) := by decide +kernel
theorem dL_ticks_784 : decode cL_ticks 784 = .ok (.invokestatic 211, 3) := by decide +kernel
theorem dL_ticks_787 : decode cL_ticks 787 = .ok (.iload 13, 2) := by decide +kernel
theorem dL_ticks_789 : decode cL_ticks 789 = .ok (.iload 25, 2) := by decide +kernel
theorem dL_ticks_791 : decode cL_ticks 791 = .ok (.iadd, 1) := by decide +kernel
theorem dL_ticks_792 : decode cL_ticks 792 = .ok (.aload_n 0, 1) := by decide +kernel
theorem dL_ticks_793 : decode cL_ticks 793 = .ok (.iconst 1, 1) := by decide +kernel
theorem dL_ticks_794 : decode cL_ticks 794 = .ok (.invokestatic 148, 3) := by decide +kernel
theorem dL_ticks_797 : decode cL_ticks 797 = .ok (.iadd, 1) := by decide +kernel
theorem dL_ticks_798 : decode cL_ticks 798 = .ok (.iload 14, 2) := by decide +kernel
theorem dL_ticks_800 : decode cL_ticks 800 = .ok (.isub, 1) := by decide +kernel
theorem dL_ticks_801 : decode cL_ticks 801 = .ok (.aload_n 0, 1) := by decide +kernel
theorem dL_ticks_802 : decode cL_ticks 802 = .ok (.iconst 2, 1) := by decide +kernel
theorem dL_ticks_803 : decode cL_ticks 803 = .ok (.invokestatic 148, 3) := by decide +kernel
theorem dL_ticks_806 : decode cL_ticks 806 = .ok (.isub, 1) := by decide +kernel
theorem dL_ticks_807 : decode cL_ticks 807 = .ok (.iload 15, 2) := by decide +kernel
theorem dL_ticks_809 : decode cL_ticks 809 = .ok (.iadd, 1) := by decide +kernel
theorem dL_ticks_810 : decode cL_ticks 810 = .ok (.aload_n 0, 1) := by decide +kernel
theorem dL_ticks_811 : decode cL_ticks 811 = .ok (.iconst 3, 1) := by decide +kernel
theorem dL_ticks_812 : decode cL_ticks 812 = .ok (.invokestatic 148, 3) := by decide +kernel
theorem dL_ticks_815 : decode cL_ticks 815 = .ok (.isub, 1) := by decide +kernel
theorem dL_ticks_816 : decode cL_ticks 816 = .ok (.iload 16, 2) := by decide +kernel
theorem dL_ticks_818 : decode cL_ticks 818 = .ok (.iadd, 1) := by decide +kernel
theorem dL_ticks_819 : decode cL_ticks 819 = .ok (.if_icmp .ne 80, 3) := by decide +kernel
theorem dL_ticks_822 : decode cL_ticks 822 = .ok (.aload_n 0, 1) := by decide +kernel
theorem dL_ticks_823 : decode cL_ticks 823 = .ok (.iconst 1, 1) := by decide +kernel
theorem dL_ticks_824 : decode cL_ticks 824 = .ok (.invokestatic 148, 3) := by decide +kernel
theorem dL_ticks_827 : decode cL_ticks 827 = .ok (.iload 14, 2) := by decide +kernel
theorem dL_ticks_829 : decode cL_ticks 829 = .ok (.bipush 10, 2) := by decide +kernel
theorem dL_ticks_831 : decode cL_ticks 831 = .ok (.iload 4, 2) := by decide +kernel
theorem dL_ticks_833 : decode cL_ticks 833 = .ok (.imul, 1) := by decide +kernel
theorem dL_ticks_834 : decode cL_ticks 834 = .ok (.iadd, 1) := by decide +kernel
theorem dL_ticks_835 : decode cL_ticks 835 = .ok (.if_icmp .ne 64, 3) := by decide +kernel
theorem dL_ticks_838 : decode cL_ticks 838 = .ok (.iload 27, 2) := by decide +kernel
theorem dL_ticks_840 : decode cL_ticks 840 = .ok (.iload 19, 2) := by decide +kernel
theorem dL_ticks_842 : decode cL_ticks 842 = .ok (.ifCond .ne 8, 3) := by decide +kernel
theorem dL_ticks_845 : decode cL_ticks 845 = .ok (.iload 18, 2) := by decide +kernel
theorem dL_ticks_847 : decode cL_ticks 847 = .ok (.ifCond .eq 12, 3) := by decide +kernel
theorem dL_ticks_850 : decode cL_ticks 850 = .ok (.iload 28, 2) := by decide +kernel
theorem dL_ticks_852 : decode cL_ticks 852 = .ok (.ifCond .ne 7, 3) := by decide +kernel
theorem dL_ticks_855 : decode cL_ticks 855 = .ok (.iconst 1, 1) := by decide +kernel
theorem dL_ticks_856 : decode cL_ticks 856 = .ok (.goto 4, 3) := by decide +kernel
theorem dL_ticks_859 : decode cL_ticks 859 = .ok (.iconst 0, 1) := by decide +kernel
theorem dL_ticks_860 : decode cL_ticks 860 = .ok (.if_icmp .ne 39, 3) := by decide +kernel
theorem dL_ticks_863 : decode cL_ticks 863 = .ok (.iload 28, 2) := by decide +kernel
theorem dL_ticks_865 : decode cL_ticks 865 = .ok (.ifCond .lt 34, 3) := by decide +kernel
theorem dL_ticks_868 : decode cL_ticks 868 = .ok (.iload 28, 2) := by decide +kernel
theorem dL_ticks_870 : decode cL_ticks 870 = .ok (.iload 19, 2) := by decide +kernel
theorem dL_ticks_872 : decode cL_ticks 872 = .ok (.ifCond .ne 8, 3) := by decide +kernel
theorem dL_ticks_875 : decode cL_ticks 875 = .ok (.iload 18, 2) := by decide +kernel
theorem dL_ticks_877 : decode cL_ticks 877 = .ok (.ifCond .eq 7, 3) := by decide +kernel
theorem dL_ticks_880 : decode cL_ticks 880 = .ok (.iconst 1, 1) := by decide +kernel
theorem dL_ticks_881 : decode cL_ticks 881 = .ok (.goto 4, 3) := by decide +kernel
theorem dL_ticks_884 : decode cL_ticks 884 = .ok (.iconst 0, 1) := by decide +kernel
theorem dL_ticks_885 : decode cL_ticks 885 = .ok (.if_icmp .gt 14, 3) := by decide +kernel
theorem dL_ticks_888 : decode cL_ticks 888 = .ok (.aload_n 0, 1) := by decide +kernel
theorem dL_ticks_889 : decode cL_ticks 889 = .ok (.invokestatic 214, 3) := by decide +kernel
theorem dL_ticks_892 : decode cL_ticks 892 = .ok (.ifCond .eq 7, 3) := by decide +kernel
theorem dL_ticks_895 : decode cL_ticks 895 = .ok (.iconst 1, 1) := by decide +kernel
theorem dL_ticks_896 : decode cL_ticks 896 = .ok (.goto 4, 3) := by decide +kernel
theorem dL_ticks_899 : decode cL_ticks 899 = .ok (.iconst 0, 1) := by decide +kernel
theorem dL_ticks_900 : decode cL_ticks 900 = .ok (.istore 11, 2) := by decide +kernel
theorem dL_ticks_902 : decode cL_ticks 902 = .ok (.iconst 1, 1) := by decide +kernel
theorem dL_ticks_903 : decode cL_ticks 903 = .ok (.istore 29, 2) := by decide +kernel
theorem dL_ticks_905 : decode cL_ticks 905 = .ok (.iload 29, 2) := by decide +kernel
theorem dL_ticks_907 : decode cL_ticks 907 = .ok (.aload_n 0, 1) := by decide +kernel
theorem dL_ticks_908 : decode cL_ticks 908 = .ok (.bipush 7, 2) := by decide +kernel
theorem dL_ticks_910 : decode cL_ticks 910 = .ok (.invokestatic 129, 3) := by decide +kernel
theorem dL_ticks_913 : decode cL_ticks 913 = .ok (.if_icmp .ge 38, 3) := by decide +kernel
theorem dL_ticks_916 : decode cL_ticks 916 = .ok (.iload 11, 2) := by decide +kernel
theorem dL_ticks_918 : decode cL_ticks 918 = .ok (.ifCond .eq 33, 3) := by decide +kernel
theorem dL_ticks_921 : decode cL_ticks 921 = .ok (.aload_n 0, 1) := by decide +kernel
theorem dL_ticks_922 : decode cL_ticks 922 = .ok (.iload 29, 2) := by decide +kernel
theorem dL_ticks_924 : decode cL_ticks 924 = .ok (.iconst 1, 1) := by decide +kernel
theorem dL_ticks_925 : decode cL_ticks 925 = .ok (.isub, 1) := by decide +kernel
theorem dL_ticks_926 : decode cL_ticks 926 = .ok (.invokestatic 132, 3) := by decide +kernel
theorem dL_ticks_929 : decode cL_ticks 929 = .ok (.aload_n 0, 1) := by decide +kernel
theorem dL_ticks_930 : decode cL_ticks 930 = .ok (.iload 29, 2) := by decide +kernel
theorem dL_ticks_932 : decode cL_ticks 932 = .ok (.invokestatic 132, 3) := by decide +kernel
theorem dL_ticks_935 : decode cL_ticks 935 = .ok (.if_icmp .gt 7, 3) := by decide +kernel
theorem dL_ticks_938 : decode cL_ticks 938 = .ok (.iconst 1, 1) := by decide +kernel
theorem dL_ticks_939 : decode cL_ticks 939 = .ok (.goto 4, 3) := by decide +kernel
theorem dL_ticks_942 : decode cL_ticks 942 = .ok (.iconst 0, 1) := by decide +kernel
theorem dL_ticks_943 : decode cL_ticks 943 = .ok (.istore 11, 2) := by decide +kernel
theorem dL_ticks_945 : decode cL_ticks 945 = .ok (.iinc 29 1, 3) := by decide +kernel
theorem dL_ticks_948 : decode cL_ticks 948 = .ok (.goto (-43), 3) := by decide +kernel
theorem dL_ticks_951 : decode cL_ticks 951 = .ok (.iinc 12 1, 3) := by decide +kernel
theorem dL_ticks_954 : decode cL_ticks 954 = .ok (.goto (-858), 3) := by decide +kernel
theorem dL_ticks_957 : decode cL_ticks 957 = .ok (.iload 11, 2) := by decide +kernel
theorem dL_ticks_959 : decode cL_ticks 959 = .ok (.ifCond .eq 51, 3) := by decide +kernel
theorem dL_ticks_962 : decode cL_ticks 962 = .ok (.aload_n 0, 1) := by decide +kernel
theorem dL_ticks_963 : decode cL_ticks 963 = .ok (.bipush 9, 2) := by decide +kernel
theorem dL_ticks_965 : decode cL_ticks 965 = .ok (.invokestatic 129, 3) := by decide +kernel
theorem dL_ticks_968 : decode cL_ticks 968 = .ok (.iload 5, 2) := by decide +kernel
theorem dL_ticks_970 : decode cL_ticks 970 = .ok (.if_icmp .ne 40, 3) := by decide +kernel
theorem dL_ticks_973 : decode cL_ticks 973 = .ok (.iload 10, 2) := by decide +kernel
theorem dL_ticks_975 : decode cL_ticks 975 = .ok (.iload 6, 2) := by decide +kernel
theorem dL_ticks_977 : decode cL_ticks 977 = .ok (.if_icmp .ne 33, 3) := by decide +kernel
theorem dL_ticks_980 : decode cL_ticks 980 = .ok (.aload_n 0, 1) := by decide +kernel
theorem dL_ticks_981 : decode cL_ticks 981 = .ok (.iconst 4, 1) := by decide +kernel
theorem dL_ticks_982 : decode cL_ticks 982 = .ok (.invokestatic 148, 3) := by decide +kernel
theorem dL_ticks_985 : decode cL_ticks 985 = .ok (.iload 7, 2) := by decide +kernel
theorem dL_ticks_987 : decode cL_ticks 987 = .ok (.if_icmp .ne 23, 3) := by decide +kernel
theorem dL_ticks_990 : decode cL_ticks 990 = .ok (.iload 8, 2) := by decide +kernel
theorem dL_ticks_992 : decode cL_ticks 992 = .ok (.ifCond .ne 18, 3) := by decide +kernel
theorem dL_ticks_995 : decode cL_ticks 995 = .ok (.aload_n 0, 1) := by decide +kernel
theorem dL_ticks_996 : decode cL_ticks 996 = .ok (.bipush 14, 2) := by decide +kernel
theorem dL_ticks_998 : decode cL_ticks 998 = .ok (.invokestatic 129, 3) := by decide +kernel
theorem dL_ticks_1001 : decode cL_ticks 1001 = .ok (.iload 9, 2) := by decide +kernel
theorem dL_ticks_1003 : decode cL_ticks 1003 = .ok (.if_icmp .ne 7, 3) := by decide +kernel
theorem dL_ticks_1006 : decode cL_ticks 1006 = .ok (.iconst 1, 1) := by decide +kernel
theorem dL_ticks_1007 : decode cL_ticks 1007 = .ok (.goto 4, 3) := by decide +kernel
theorem dL_ticks_1010 : decode cL_ticks 1010 = .ok (.iconst 0, 1) := by decide +kernel
theorem dL_ticks_1011 : decode cL_ticks 1011 = .ok (.ireturn, 1) := by decide +kernel
theorem dL_hands_0 : decode cL_hands 0 = .ok (.aload_n 0, 1) := by decide +kernel
theorem dL_hands_1 : decode cL_hands 1 = .ok (.bipush 6, 2) := by decide +kernel
theorem dL_hands_3 : decode cL_hands 3 = .ok (.invokestatic 129, 3) := by decide +kernel
theorem dL_hands_6 : decode cL_hands 6 = .ok (.istore_n 2, 1) := by decide +kernel
theorem dL_hands_7 : decode cL_hands 7 = .ok (.aload_n 0, 1) := by decide +kernel
theorem dL_hands_8 : decode cL_hands 8 = .ok (.bipush 7, 2) := by decide +kernel
theorem dL_hands_10 : decode cL_hands 10 = .ok (.invokestatic 129, 3) := by decide +kernel
theorem dL_hands_13 : decode cL_hands 13 = .ok (.istore_n 3, 1) := by decide +kernel
theorem dL_hands_14 : decode cL_hands 14 = .ok (.aload_n 0, 1) := by decide +kernel
theorem dL_hands_15 : decode cL_hands 15 = .ok (.bipush 8, 2) := by decide +kernel
theorem dL_hands_17 : decode cL_hands 17 = .ok (.invokestatic 129, 3) := by decide +kernel
theorem dL_hands_20 : decode cL_hands 20 = .ok (.istore 4, 2) := by decide +kernel
theorem dL_hands_22 : decode cL_hands 22 = .ok (.aload_n 0, 1) := by decide +kernel
theorem dL_hands_23 : decode cL_hands 23 = .ok (.iconst 0, 1) := by decide +kernel
theorem dL_hands_24 : decode cL_hands 24 = .ok (.invokestatic 208, 3) := by decide +kernel
theorem dL_hands_27 : decode cL_hands 27 = .ok (.iload 4, 2) := by decide +kernel
theorem dL_hands_29 : decode cL_hands 29 = .ok (.if_icmp .ne 7, 3) := by decide +kernel
theorem dL_hands_32 : decode cL_hands 32 = .ok (.iconst 1, 1) := by decide +kernel
theorem dL_hands_33 : decode cL_hands 33 = .ok (.goto 4, 3) := by decide +kernel
theorem dL_hands_36 : decode cL_hands 36 = .ok (.iconst 0, 1) := by decide +kernel
theorem dL_hands_37 : decode cL_hands 37 = .ok (.istore 5, 2) := by decide +kernel
theorem dL_hands_39 : decode cL_hands 39 = .ok (.aload_n 0, 1) := by decide +kernel
theorem dL_hands_40 : decode cL_hands 40 = .ok (.iload_n 3, 1) := by decide +kernel
theorem dL_hands_41 : decode cL_hands 41 = .ok (.iconst 1, 1) := by decide +kernel
theorem dL_hands_42 : decode cL_hands 42 = .ok (.isub, 1) := by decide +kernel
theorem dL_hands_43 : decode cL_hands 43 = .ok (.invokestatic 132, 3) := by decide +kernel
theorem dL_hands_46 : decode cL_hands 46 = .ok (.istore 6, 2) := by decide +kernel
theorem dL_hands_48 : decode cL_hands 48 = .ok (.aload_n 0, 1) := by decide +kernel
theorem dL_hands_49 : decode cL_hands 49 = .ok (.iconst 0, 1) := by decide +kernel
theorem dL_hands_50 : decode cL_hands 50 = .ok (.invokestatic 132, 3) := by decide +kernel
theorem dL_hands_53 : decode cL_hands 53 = .ok (.istore 7, 2) := by decide +kernel
theorem dL_hands_55 : decode cL_hands 55 = .ok (.iload 5, 2) := by decide +kernel
theorem dL_hands_57 : decode cL_hands 57 = .ok (.ifCond .eq 54, 3) := by decide +kernel
theorem dL_hands_60 : decode cL_hands 60 = .ok (.aload_n 0, 1) := by decide +kernel
theorem dL_hands_61 : decode cL_hands 61 = .ok (.iconst 1, 1) := by decide +kernel
theorem dL_hands_62 : decode cL_hands 62 = .ok (.invokestatic 157, 3) := by decide +kernel
theorem dL_hands_65 : decode cL_hands 65 = .ok (.iload 6, 2) := by decide +kernel
theorem dL_hands_67 : decode cL_hands 67 = .ok (.if_icmp .ne 44, 3) := by decide +kernel
theorem dL_hands_70 : decode cL_hands 70 = .ok (.aload_n 0, 1) := by decide +kernel
theorem dL_hands_71 : decode cL_hands 71 = .ok (.iconst 0, 1) := by decide +kernel
theorem dL_hands_72 : decode cL_hands 72 = .ok (.invokestatic 132, 3) := by decide +kernel
theorem dL_hands_75 : decode cL_hands 75 = .ok (.bipush 10, 2) := by decide +kernel
theorem dL_hands_77 : decode cL_hands 77 = .ok (.if_icmp .ne 34, 3) := by decide +kernel
theorem dL_hands_80 : decode cL_hands 80 = .ok (.aload_n 0, 1) := by decide +kernel
theorem dL_hands_81 : decode cL_hands 81 = .ok (.iconst 1, 1) := by decide +kernel
theorem dL_hands_82 : decode cL_hands 82 = .ok (.invokestatic 132, 3) := by decide +kernel
theorem dL_hands_85 : decode cL_hands 85 = .ok (.iload 7, 2) := by decide +kernel
theorem dL_hands_87 : decode cL_hands 87 = .ok (.if_icmp .ne 24, 3) := by decide +kernel
theorem dL_hands_90 : decode cL_hands 90 = .ok (.aload_n 0, 1) := by decide +kernel
theorem dL_hands_91 : decode cL_hands 91 = .ok (.invokestatic 139, 3) := by decide +kernel
theorem dL_hands_94 : decode cL_hands 94 = .ok (.ifCond .lt 17, 3) := by decide +kernel
theorem dL_hands_97 : decode cL_hands 97 = .ok (.aload_n 0, 1) := by decide +kernel
theorem dL_hands_98 : decode cL_hands 98 = .ok (.iconst 0, 1) := by decide +kernel
theorem dL_hands_99 : decode cL_hands 99 = .ok (.invokestatic 132, 3) := by decide +kernel
theorem dL_hands_102 : decode cL_hands 102 = .ok (.iload 7, 2) := by decide +kernel
theorem dL_hands_104 : decode cL_hands 104 = .ok (.if_icmp .ne 7, 3) := by decide +kernel
theorem dL_hands_107 : decode cL_hands 107 = .ok (.iconst 1, 1) := by decide +kernel
theorem dL_hands_108 : decode cL_hands 108 = .ok (.goto 4, 3) := by decide +kernel
theorem dL_hands_111 : decode cL_hands 111 = .ok (.iconst 0, 1) := by decide +kernel
theorem dL_hands_112 : decode cL_hands 112 = .ok (.istore 5, 2) := by decide +kernel
theorem dL_hands_114 : decode cL_hands 114 = .ok (.iload_n 1, 1) := by decide +kernel
theorem dL_hands_115 : decode cL_hands 115 = .ok (.iconst 2, 1) := by decide +kernel
theorem dL_hands_116 : decode cL_hands 116 = .ok (.irem, 1) := by decide +kernel
theorem dL_hands_117 : decode cL_hands 117 = .ok (.istore 8, 2) := by decide +kernel
theorem dL_hands_119 : decode cL_hands 119 = .ok (.iconst 0, 1) := by decide +kernel
theorem dL_hands_120 : decode cL_hands 120 = .ok (.istore 9, 2) := by decide +kernel
theorem dL_hands_122 : decode cL_hands 122 = .ok (.iconst 0, 1) := by decide +kernel
theorem dL_hands_123 : decode cL_hands 123 = .ok (.istore 10, 2) := by decide +kernel
theorem dL_hands_125 : decode cL_hands 125 = .ok (.iload 10, 2) := by decide +kernel
theorem dL_hands_127 : decode cL_hands 127 = .ok (.iload_n 2, 1) := by decide +kernel
theorem dL_hands_128 : decode cL_hands 128 = .ok (.if_icmp .ge 51, 3) := by decide +kernel
theorem dL_hands_131 : decode cL_hands 131 = .ok (.aload_n 0, 1) := by decide +kernel
theorem dL_hands_132 : decode cL_hands 132 = .ok (.iload 10, 2) := by decide +kernel
theorem dL_hands_134 : decode cL_hands 134 = .ok (.iconst 2, 1) := by decide +kernel
theorem dL_hands_135 : decode cL_hands 135 = .ok (.invokestatic 151, 3) := by decide +kernel
theorem dL_hands_138 : decode cL_hands 138 = .ok (.istore 11, 2) := by decide +kernel
theorem dL_hands_140 : decode cL_hands 140 = .ok (.iload 9, 2) := by decide +kernel
theorem dL_hands_142 : decode cL_hands 142 = .ok (.aload_n 0, 1) := by decide +kernel
theorem dL_hands_143 : decode cL_hands 143 = .ok (.iload 10, 2) := by decide +kernel
theorem dL_hands_145 : decode cL_hands 145 = .ok (.iconst 1, 1) := by decide +kernel
theorem dL_hands_146 : decode cL_hands 146 = .ok (.invokestatic 151, 3) := by decide +kernel
theorem dL_hands_149 : decode cL_hands 149 = .ok (.iload 8, 2) := by decide +kernel
theorem dL_hands_151 : decode cL_hands 151 = .ok (.if_icmp .ne 18, 3) := by decide +kernel
theorem dL_hands_154 : decode cL_hands 154 = .ok (.iload 11, 2) := by decide +kernel
theorem dL_hands_156 : decode cL_hands 156 = .ok (.ifCond .le 13, 3) := by decide +kernel
theorem dL_hands_159 : decode cL_hands 159 = .ok (.iload 11, 2) := by decide +kernel
theorem dL_hands_161 : decode cL_hands 161 = .ok (.iconst 4, 1) := by decide +kernel
theorem dL_hands_162 : decode cL_hands 162 = .ok (.if_icmp .ge 7, 3) := by decide +kernel
theorem dL_hands_165 : decode cL_hands 165 = .ok (.iconst 1, 1) := by decide +kernel
theorem dL_hands_166 : decode cL_hands 166 = .ok (.goto 4, 3) := by decide +kernel
theorem dL_hands_169 : decode cL_hands 169 = .ok (.iconst 0, 1) := by decide +kernel
theorem dL_hands_170 : decode cL_hands 170 = .ok (.iadd, 1) := by decide +kernel
theorem dL_hands_171 : decode cL_hands 171 = .ok (.istore 9, 2) := by decide +kernel
theorem dL_hands_173 : decode cL_hands 173 = .ok (.iinc 10 1, 3) := by decide +kernel
theorem dL_hands_176 : decode cL_hands 176 = .ok (.goto (-51), 3) := by decide +kernel
theorem dL_hands_179 : decode cL_hands 179 = .ok (.iload 5, 2) := by decide +kernel
theorem dL_hands_181 : decode cL_hands 181 = .ok (.ifCond .eq 67, 3) := by decide +kernel
theorem dL_hands_184 : decode cL_hands 184 = .ok (.aload_n 0, 1) := by decide +kernel
theorem dL_hands_185 : decode cL_hands 185 = .ok (.iload 8, 2) := by decide +kernel
theorem dL_hands_187 : decode cL_hands 187 = .ok (.iconst 0, 1) := by decide +kernel
theorem dL_hands_188 : decode cL_hands 188 = .ok (.invokestatic 163, 3) := by decide +kernel
theorem dL_hands_191 : decode cL_hands 191 = .ok (.iload 9, 2) := by decide +kernel
theorem dL_hands_193 : decode cL_hands 193 = .ok (.if_icmp .ne 55, 3) := by decide +kernel
theorem dL_hands_196 : decode cL_hands 196 = .ok (.aload_n 0, 1) := by decide +kernel
theorem dL_hands_197 : decode cL_hands 197 = .ok (.iload 8, 2) := by decide +kernel
theorem dL_hands_199 : decode cL_hands 199 = .ok (.iconst 1, 1) := by decide +kernel
theorem dL_hands_200 : decode cL_hands 200 = .ok (.invokestatic 135, 3) := by decide +kernel
theorem dL_hands_203 : decode cL_hands 203 = .ok (.ifCond .ne 45, 3) := by decide +kernel
theorem dL_hands_206 : decode cL_hands 206 = .ok (.aload_n 0, 1) := by decide +kernel
theorem dL_hands_207 : decode cL_hands 207 = .ok (.iload 8, 2) := by decide +kernel
theorem dL_hands_209 : decode cL_hands 209 = .ok (.iconst 1, 1) := by decide +kernel
theorem dL_hands_210 : decode cL_hands 210 = .ok (.invokestatic 163, 3) := by decide +kernel
theorem dL_hands_213 : decode cL_hands 213 = .ok (.ifCond .ne 35, 3) := by decide +kernel
theorem dL_hands_216 : decode cL_hands 216 = .ok (.aload_n 0, 1) := by decide +kernel
theorem dL_hands_217 : decode cL_hands 217 = .ok (.iload 8, 2) := by decide +kernel
theorem dL_hands_219 : decode cL_hands 219 = .ok (.iconst 2, 1) := by decide +kernel
theorem dL_hands_220 : decode cL_hands 220 = .ok (.invokestatic 135, 3) := by decide +kernel
theorem dL_hands_223 : decode cL_hands 223 = .ok (.iconst 1, 1) := by decide +kernel
theorem dL_hands_224 : decode cL_hands 224 = .ok (.if_icmp .ne 24, 3) := by decide +kernel
theorem dL_hands_227 : decode cL_hands 227 = .ok (.aload_n 0, 1) := by decide +kernel
theorem dL_hands_228 : decode cL_hands 228 = .ok (.invokestatic 214, 3) := by decide +kernel
theorem dL_hands_231 : decode cL_hands 231 = .ok (.ifCond .eq 17, 3) := by decide +kernel
theorem dL_hands_234 : decode cL_hands 234 = .ok (.aload_n 0, 1) := by decide +kernel
theorem dL_hands_235 : decode cL_hands 235 = .ok (.iconst 0, 1) := by decide +kernel
theorem dL_hands_236 : decode cL_hands 236 = .ok (.invokestatic 142, 3) := by decide +kernel
theorem dL_hands_239 : decode cL_hands 239 = .ok (.iload 4, 2) := by decide +kernel
theorem dL_hands_241 : decode cL_hands 241 = .ok (.if_icmp .ne 7, 3) := by decide +kernel
theorem dL_hands_244 : decode cL_hands 244 = .ok (.iconst 1, 1) := by decide +kernel
theorem dL_hands_245 : decode cL_hands 245 = .ok (.goto 4, 3) := by decide +kernel
theorem dL_hands_248 : decode cL_hands 248 = .ok (.iconst 0, 1) := by decide +kernel
theorem dL_hands_249 : decode cL_hands 249 = .ok (.istore 5, 2) := by decide +kernel
theorem dL_hands_251 : decode cL_hands 251 = .ok (.iload_n 1, 1) := by decide +kernel
theorem dL_hands_252 : decode cL_hands 252 = .ok (.iconst 2, 1) := by decide +kernel
theorem dL_hands_253 : decode cL_hands 253 = .ok (.idiv, 1) := by decide +kernel
theorem dL_hands_254 : decode cL_hands 254 = .ok (.iload_n 2, 1) := by decide +kernel
theorem dL_hands_255 : decode cL_hands 255 = .ok (.irem, 1) := by decide +kernel
theorem dL_hands_256 : decode cL_hands 256 = .ok (.istore 10, 2) := by decide +kernel
theorem dL_hands_258 : decode cL_hands 258 = .ok (.aload_n 0, 1) := by decide +kernel
theorem dL_hands_259 : decode cL_hands 259 = .ok (.iload 10, 2) := by decide +kernel
theorem dL_hands_261 : decode cL_hands 261 = .ok (.iconst 2, 1) := by decide +kernel
theorem dL_hands_262 : decode cL_hands 262 = .ok (.invokestatic 151, 3) := by decide +kernel
theorem dL_hands_265 : decode cL_hands 265 = .ok (.istore 11, 2) := by decide +kernel
theorem dL_hands_267 : decode cL_hands 267 = .ok (.iload 5, 2) := by decide +kernel
theorem dL_hands_269 : decode cL_hands 269 = .ok (.ifCond .eq 101, 3) := by decide +kernel
theorem dL_hands_272 : decode cL_hands 272 = .ok (.iload 11, 2) := by decide +kernel
theorem dL_hands_274 : decode cL_hands 274 = .ok (.iconst 4, 1) := by decide +kernel
theorem dL_hands_275 : decode cL_hands 275 = .ok (.if_icmp .ne 34, 3) := by decide +kernel
theorem dL_hands_278 : decode cL_hands 278 = .ok (.aload_n 0, 1) := by decide +kernel
theorem dL_hands_279 : decode cL_hands 279 = .ok (.iload 10, 2) := by decide +kernel
theorem dL_hands_281 : decode cL_hands 281 = .ok (.invokestatic 173, 3) := by decide +kernel
theorem dL_hands_284 : decode cL_hands 284 = .ok (.ifCond .lt 86, 3) := by decide +kernel
theorem dL_hands_287 : decode cL_hands 287 = .ok (.aload_n 0, 1) := by decide +kernel
theorem dL_hands_288 : decode cL_hands 288 = .ok (.iload 10, 2) := by decide +kernel
theorem dL_hands_290 : decode cL_hands 290 = .ok (.iconst 2, 1) := by decide +kernel
theorem dL_hands_291 : decode cL_hands 291 = .ok (.invokestatic 151, 3) := by decide +kernel
theorem dL_hands_294 : decode cL_hands 294 = .ok (.ifCond .ne 76, 3) := by decide +kernel
theorem dL_hands_297 : decode cL_hands 297 = .ok (.aload_n 0, 1) := by decide +kernel
theorem dL_hands_298 : decode cL_hands 298 = .ok (.iload 10, 2) := by decide +kernel
theorem dL_hands_300 : decode cL_hands 300 = .ok (.invokestatic 170, 3) := by decide +kernel
theorem dL_hands_303 : decode cL_hands 303 = .ok (.ifCond .ne 67, 3) := by decide +kernel
theorem dL_hands_306 : decode cL_hands 306 = .ok (.goto 43, 3) := by decide +kernel
theorem dL_hands_309 : decode cL_hands 309 = .ok (.aload_n 0, 1) := by decide +kernel
theorem dL_hands_310 : decode cL_hands 310 = .ok (.iload 10, 2) := by decide +kernel
theorem dL_hands_312 : decode cL_hands 312 = .ok (.invokestatic 170, 3) := by decide +kernel
theorem dL_hands_315 : decode cL_hands 315 = .ok (.iload 11, 2) := by decide +kernel
theorem dL_hands_317 : decode cL_hands 317 = .ok (.if_icmp .ne 53, 3) := by decide +kernel
theorem dL_hands_320 : decode cL_hands 320 = .ok (.aload_n 0, 1) := by decide +kernel
theorem dL_hands_321 : decode cL_hands 321 = .ok (.iload 10, 2) := by decide +kernel
theorem dL_hands_323 : decode cL_hands 323 = .ok (.invokestatic 179, 3) := by decide +kernel
theorem dL_hands_326 : decode cL_hands 326 = .ok (.iconst 2, 1) := by decide +kernel
theorem dL_hands_327 : decode cL_hands 327 = .ok (.if_icmp .ne 43, 3) := by decide +kernel
theorem dL_hands_330 : decode cL_hands 330 = .ok (.aload_n 0, 1) := by decide +kernel
theorem dL_hands_331 : decode cL_hands 331 = .ok (.iload 10, 2) := by decide +kernel
theorem dL_hands_333 : decode cL_hands 333 = .ok (.invokestatic 173, 3) := by decide +kernel
theorem dL_hands_336 : decode cL_hands 336 = .ok (.ifCond .lt 34, 3) := by decide +kernel
theorem dL_hands_339 : decode cL_hands 339 = .ok (.aload_n 0, 1) := by decide +kernel
theorem dL_hands_340 : decode cL_hands 340 = .ok (.iload 10, 2) := by decide +kernel
theorem dL_hands_342 : decode cL_hands 342 = .ok (.iconst 2, 1) := by decide +kernel
theorem dL_hands_343 : decode cL_hands 343 = .ok (.invokestatic 151, 3) := by decide +kernel
theorem dL_hands_346 : decode cL_hands 346 = .ok (.ifCond .ne 24, 3) := by decide +kernel
theorem dL_hands_349 : decode cL_hands 349 = .ok (.aload_n 0, 1) := by decide +kernel
theorem dL_hands_350 : decode cL_hands 350 = .ok (.invokestatic 214, 3) := by decide +kernel
theorem dL_hands_353 : decode cL_hands 353 = .ok (.ifCond .eq 17, 3) := by decide +kernel
theorem dL_hands_356 : decode cL_hands 356 = .ok (.aload_n 0, 1) := by decide +kernel
theorem dL_hands_357 : decode cL_hands 357 = .ok (.iconst 0, 1) := by decide +kernel
theorem dL_hands_358 : decode cL_hands 358 = .ok (.invokestatic 142, 3) := by decide +kernel
theorem dL_hands_361 : decode cL_hands 361 = .ok (.iload 4, 2) := by decide +kernel
theorem dL_hands_363 : decode cL_hands 363 = .ok (.if_icmp .ne 7, 3) := by decide +kernel
theorem dL_hands_366 : decode cL_hands 366 = .ok (.iconst 1, 1) := by decide +kernel
theorem dL_hands_367 : decode cL_hands 367 = .ok (.goto 4, 3) := by decide +kernel
theorem dL_hands_370 : decode cL_hands 370 = .ok (.iconst 0, 1) := by decide +kernel
theorem dL_hands_371 : decode cL_hands 371 = .ok (.istore 5, 2) := by decide +kernel
theorem dL_hands_373 : decode cL_hands 373 = .ok (.iconst 1, 1) := by decide +kernel
theorem dL_hands_374 : decode cL_hands 374 = .ok (.iload_n 1, 1) := by decide +kernel
theorem dL_hands_375 : decode cL_hands 375 = .ok (.bipush 16, 2) := by decide +kernel
theorem dL_hands_377 : decode cL_hands 377 = .ok (.idiv, 1) := by decide +kernel
theorem dL_hands_378 : decode cL_hands 378 = .ok (.bipush 80, 2) := by decide +kernel
theorem dL_hands_380 : decode cL_hands 380 = .ok (.irem, 1) := by decide +kernel
theorem dL_hands_381 : decode cL_hands 381 = .ok (.iadd, 1) := by decide +kernel
theorem dL_hands_382 : decode cL_hands 382 = .ok (.istore 12, 2) := by decide +kernel
theorem dL_hands_384 : decode cL_hands 384 = .ok (.aload_n 0, 1) := by decide +kernel
theorem dL_hands_385 : decode cL_hands 385 = .ok (.iload 12, 2) := by decide +kernel
theorem dL_hands_387 : decode cL_hands 387 = .ok (.iconst 1, 1) := by decide +kernel
theorem dL_hands_388 : decode cL_hands 388 = .ok (.invokestatic 182, 3) := by decide +kernel
theorem dL_hands_391 : decode cL_hands 391 = .ok (.istore 13, 2) := by decide +kernel
theorem dL_hands_393 : decode cL_hands 393 = .ok (.iconst 0, 1) := by decide +kernel
theorem dL_hands_394 : decode cL_hands 394 = .ok (.istore 14, 2) := by decide +kernel
theorem dL_hands_396 : decode cL_hands 396 = .ok (.iconst 0, 1) := by decide +kernel
theorem dL_hands_397 : decode cL_hands 397 = .ok (.istore 15, 2) := by decide +kernel
theorem dL_hands_399 : decode cL_hands 399 = .ok (.iconst 2, 1) := by decide +kernel
theorem dL_hands_400 : decode cL_hands 400 = .ok (.newarray .int, 2) := by decide +kernel
theorem dL_hands_402 : decode cL_hands 402 = .ok (.astore 16, 2) := by decide +kernel
theorem dL_hands_404 : decode cL_hands 404 = .ok (.iconst 0, 1) := by decide +kernel
theorem dL_hands_405 : decode cL_hands 405 = .ok (.istore 17, 2) := by decide +kernel
theorem dL_hands_407 : decode cL_hands 407 = .ok (.iload 17, 2) := by decide +kernel
theorem dL_hands_409 : decode cL_hands 409 = .ok (.iload_n 2, 1) := by decide +kernel
theorem dL_hands_410 : decode cL_hands 410 = .ok (.if_icmp .ge 62, 3) := by decide +kernel
theorem dL_hands_413 : decode cL_hands 413 = .ok (.iload 13, 2) := by decide +kernel
theorem dL_hands_415 : decode cL_hands 415 = .ok (.bipush (-9), 2) := by decide +kernel
theorem dL_hands_417 : decode cL_hands 417 = .ok (.if_icmp .eq 55, 3) := by decide +kernel
theorem dL_hands_420 : decode cL_hands 420 = .ok (.iload 13, 2) := by decide +kernel
theorem dL_hands_422 : decode cL_hands 422 = .ok (.iload 17, 2) := by decide +kernel
theorem dL_hands_424 : decode cL_hands 424 = .ok (.ishr, 1) := by decide +kernel
theorem dL_hands_425 : decode cL_hands 425 = .ok (.iconst 1, 1) := by decide +kernel
theorem dL_hands_426 : decode cL_hands 426 = .ok (.iand, 1) := by decide +kernel
theorem dL_hands_427 : decode cL_hands 427 = .ok (.iconst 1, 1) := by decide +kernel
theorem dL_hands_428 : decode cL_hands 428 = .ok (.if_icmp .ne 38, 3) := by decide +kernel
theorem dL_hands_431 : decode cL_hands 431 = .ok (.iload 14, 2) := by decide +kernel
theorem dL_hands_433 : decode cL_hands 433 = .ok (.aload_n 0, 1) := by decide +kernel
theorem dL_hands_434 : decode cL_hands 434 = .ok (.iload 17, 2) := by decide +kernel
theorem dL_hands_436 : decode cL_hands 436 = .ok (.iconst 0, 1) := by decide +kernel
theorem dL_hands_437 : decode cL_hands 437 = .ok (.invokestatic 151, 3) := by decide +kernel
theorem dL_hands_440 : decode cL_hands 440 = .ok (.iadd, 1) := by decide +kernel
theorem dL_hands_441 : decode cL_hands 441 = .ok (.istore 14, 2) := by decide +kernel
theorem dL_hands_443 : decode cL_hands 443 = .ok (.iinc 15 1, 3) := by decide +kernel
theorem dL_hands_446 : decode cL_hands 446 = .ok (.aload 16, 2) := by decide +kernel
theorem dL_hands_448 : decode cL_hands 448 = .ok (.aload_n 0, 1) := by decide +kernel
theorem dL_hands_449 : decode cL_hands 449 = .ok (.iload 17, 2) := by decide +kernel
theorem dL_hands_451 : decode cL_hands 451 = .ok (.iconst 1, 1) := by decide +kernel
theorem dL_hands_452 : decode cL_hands 452 = .ok (.invokestatic 151, 3) := by decide +kernel
theorem dL_hands_455 : decode cL_hands 455 = .ok (.dup2, 1) := by decide +kernel
theorem dL_hands_456 : decode cL_hands 456 = .ok (.iaload, 1) := by decide +kernel
theorem dL_hands_457 : decode cL_hands 457 = .ok (.aload_n 0, 1) := by decide +kernel
theorem dL_hands_458 : decode cL_hands 458 = .ok (.iload 17, 2) := by decide +kernel
theorem dL_hands_460 : decode cL_hands 460 = .ok (.iconst 0, 1) := by decide +kernel
theorem dL_hands_461 : decode cL_hands 461 = .ok (.invokestatic 151, 3) := by decide +kernel
theorem dL_hands_464 : decode cL_hands 464 = .ok (.iadd, 1) := by decide +kernel
theorem dL_hands_465 : decode cL_hands 465 = .ok (.iastore, 1) := by decide +kernel
theorem dL_hands_466 : decode cL_hands 466 = .ok (.iinc 17 1, 3) := by decide +kernel
theorem dL_hands_469 : decode cL_hands 469 = .ok (.goto (-62), 3) := by decide +kernel
theorem dL_hands_472 : decode cL_hands 472 = .ok (.iload 5, 2) := by decide +kernel
theorem dL_hands_474 : decode cL_hands 474 = .ok (.ifCond .eq 101, 3) := by decide +kernel
theorem dL_hands_477 : decode cL_hands 477 = .ok (.iload 13, 2) := by decide +kernel
theorem dL_hands_479 : decode cL_hands 479 = .ok (.bipush (-9), 2) := by decide +kernel
theorem dL_hands_481 : decode cL_hands 481 = .ok (.if_icmp .ne 40, 3) := by decide +kernel
theorem dL_hands_484 : decode cL_hands 484 = .ok (.aload_n 0, 1) := by decide +kernel
theorem dL_hands_485 : decode cL_hands 485 = .ok (.iload 12, 2) := by decide +kernel
theorem dL_hands_487 : decode cL_hands 487 = .ok (.iconst 0, 1) := by decide +kernel
theorem dL_hands_488 : decode cL_hands 488 = .ok (.invokestatic 182, 3) := by decide +kernel
theorem dL_hands_491 : decode cL_hands 491 = .ok (.bipush (-9), 2) := by decide +kernel
theorem dL_hands_493 : decode cL_hands 493 = .ok (.if_icmp .ne 82, 3) := by decide +kernel
theorem dL_hands_496 : decode cL_hands 496 = .ok (.iload 12, 2) := by decide +kernel
theorem dL_hands_498 : decode cL_hands 498 = .ok (.sipush 150, 3) := by decide +kernel
theorem dL_hands_501 : decode cL_hands 501 = .ok (.if_icmp .eq 70, 3) := by decide +kernel
theorem dL_hands_504 : decode cL_hands 504 = .ok (.aload_n 0, 1) := by decide +kernel
theorem dL_hands_505 : decode cL_hands 505 = .ok (.iload 12, 2) := by decide +kernel
theorem dL_hands_507 : decode cL_hands 507 = .ok (.iconst 1, 1) := by decide +kernel
theorem dL_hands_508 : decode cL_hands 508 = .ok (.iadd, 1) := by decide +kernel
theorem dL_hands_509 : decode cL_hands 509 = .ok (.iconst 1, 1) := by decide +kernel
theorem dL_hands_510 : decode cL_hands 510 = .ok (.invokestatic 182, 3) := by decide +kernel
theorem dL_hands_513 : decode cL_hands 513 = .ok (.bipush (-9), 2) := by decide +kernel
theorem dL_hands_515 : decode cL_hands 515 = .ok (.if_icmp .ne 60, 3) := by decide +kernel
theorem dL_hands_518 : decode cL_hands 518 = .ok (.goto 53, 3) := by decide +kernel
theorem dL_hands_521 : decode cL_hands 521 = .ok (.aload_n 0, 1) := by decide +kernel
theorem dL_hands_522 : decode cL_hands 522 = .ok (.iload 12, 2) := by decide +kernel
theorem dL_hands_524 : decode cL_hands 524 = .ok (.iconst 0, 1) := by decide +kernel
theorem dL_hands_525 : decode cL_hands 525 = .ok (.invokestatic 182, 3) := by decide +kernel
theorem dL_hands_528 : decode cL_hands 528 = .ok (.iload 14, 2) := by decide +kernel
theorem dL_hands_530 : decode cL_hands 530 = .ok (.if_icmp .ne 45, 3) := by decide +kernel
theorem dL_hands_533 : decode cL_hands 533 = .ok (.iload 14, 2) := by decide +kernel
theorem dL_hands_535 : decode cL_hands 535 = .ok (.iload 12, 2) := by decide +kernel
theorem dL_hands_537 : decode cL_hands 537 = .ok (.if_icmp .lt 38, 3) := by decide +kernel
theorem dL_hands_540 : decode cL_hands 540 = .ok (.iload 15, 2) := by decide +kernel
theorem dL_hands_542 : decode cL_hands 542 = .ok (.ifCond .le 33, 3) := by decide +kernel
theorem dL_hands_545 : decode cL_hands 545 = .ok (.aload 16, 2) := by decide +kernel
theorem dL_hands_547 : decode cL_hands 547 = .ok (.iconst 0, 1) := by decide +kernel
theorem dL_hands_548 : decode cL_hands 548 = .ok (.iaload, 1) := by decide +kernel
theorem dL_hands_549 : decode cL_hands 549 = .ok (.aload_n 0, 1) := by decide +kernel
theorem dL_hands_550 : decode cL_hands 550 = .ok (.iconst 0, 1) := by decide +kernel
theorem dL_hands_551 : decode cL_hands 551 = .ok (.iconst 0, 1) := by decide +kernel
theorem dL_hands_552 : decode cL_hands 552 = .ok (.invokestatic 135, 3) := by decide +kernel
theorem dL_hands_555 : decode cL_hands 555 = .ok (.if_icmp .gt 20, 3) := by decide +kernel
theorem dL_hands_558 : decode cL_hands 558 = .ok (.aload 16, 2) := by decide +kernel
theorem dL_hands_560 : decode cL_hands 560 = .ok (.iconst 1, 1) := by decide +kernel
theorem dL_hands_561 : decode cL_hands 561 = .ok (.iaload, 1) := by decide +kernel
theorem dL_hands_562 : decode cL_hands 562 = .ok (.aload_n 0, 1) := by decide +kernel
theorem dL_hands_563 : decode cL_hands 563 = .ok (.iconst 1, 1) := by decide +kernel
theorem dL_hands_564 : decode cL_hands 564 = .ok (.iconst 0, 1) := by decide +kernel
theorem dL_hands_565 : decode cL_hands 565 = .ok (.invokestatic 135, 3) := by decide +kernel
theorem dL_hands_568 : decode cL_hands 568 = .ok (.if_icmp .gt 7, 3) := by decide +kernel
theorem dL_hands_571 : decode cL_hands 571 = .ok (.iconst 1, 1) := by decide +kernel
theorem dL_hands_572 : decode cL_hands 572 = .ok (.goto 4, 3) := by decide +kernel
theorem dL_hands_575 : decode cL_hands 575 = .ok (.iconst 0, 1) := by decide +kernel
theorem dL_hands_576 : decode cL_hands 576 = .ok (.istore 5, 2) := by decide +kernel
theorem dL_hands_578 : decode cL_hands 578 = .ok (.iload_n 1, 1) := by decide +kernel
theorem dL_hands_579 : decode cL_hands 579 = .ok (.bipush 64, 2) := by decide +kernel
theorem dL_hands_581 : decode cL_hands 581 = .ok (.idiv, 1) := by decide +kernel
theorem dL_hands_582 : decode cL_hands 582 = .ok (.bipush 100, 2) := by decide +kernel
theorem dL_hands_584 : decode cL_hands 584 = .ok (.irem, 1) := by decide +kernel
theorem dL_hands_585 : decode cL_hands 585 = .ok (.istore 17, 2) := by decide +kernel
theorem dL_hands_587 : decode cL_hands 587 = .ok (.iload_n 1, 1) := by decide +kernel
theorem dL_hands_588 : decode cL_hands 588 = .ok (.sipush 8192, 3) := by decide +kernel
theorem dL_hands_591 : decode cL_hands 591 = .ok (.idiv, 1) := by decide +kernel
theorem dL_hands_592 : decode cL_hands 592 = .ok (.bipush 6, 2) := by decide +kernel
theorem dL_hands_594 : decode cL_hands 594 = .ok (.irem, 1) := by decide +kernel
theorem dL_hands_595 : decode cL_hands 595 = .ok (.istore 18, 2) := by decide +kernel
theorem dL_hands_597 : decode cL_hands 597 = .ok (.aload_n 0, 1) := by decide +kernel
theorem dL_hands_598 : decode cL_hands 598 = .ok (.iload 17, 2) := by decide +kernel
theorem dL_hands_600 : decode cL_hands 600 = .ok (.iload 18, 2) := by decide +kernel
theorem dL_hands_602 : decode cL_hands 602 = .ok (.invokestatic 189, 3) := by decide +kernel
theorem dL_hands_605 : decode cL_hands 605 = .ok (.istore 19, 2) := by decide +kernel
theorem dL_hands_607 : decode cL_hands 607 = .ok (.iload 5, 2) := by decide +kernel
theorem dL_hands_609 : decode cL_hands 609 = .ok (.ifCond .eq 36, 3) := by decide +kernel
theorem dL_hands_612 : decode cL_hands 612 = .ok (.iload 19, 2) := by decide +kernel
theorem dL_hands_614 : decode cL_hands 614 = .ok (.ifCond .ne 7, 3) := by decide +kernel
theorem dL_hands_617 : decode cL_hands 617 = .ok (.iconst 1, 1) := by decide +kernel
theorem dL_hands_618 : decode cL_hands 618 = .ok (.goto 4, 3) := by decide +kernel
theorem dL_hands_621 : decode cL_hands 621 = .ok (.iconst 0, 1) := by decide +kernel
theorem dL_hands_622 : decode cL_hands 622 = .ok (.aload_n 0, 1) := by decide +kernel
theorem dL_hands_623 : decode cL_hands 623 = .ok (.bipush 9, 2) := by decide +kernel
theorem dL_hands_625 : decode cL_hands 625 = .ok (.invokestatic 129, 3) := by decide +kernel
theorem dL_hands_628 : decode cL_hands 628 = .ok (.iload 17, 2) := by decide +kernel
theorem dL_hands_630 : decode cL_hands 630 = .ok (.if_icmp .lt 7, 3) := by decide +kernel
theorem dL_hands_633 : decode cL_hands 633 = .ok (.iconst 1, 1) := by decide +kernel
theorem dL_hands_634 : decode cL_hands 634 = .ok (.goto 4, 3) := by decide +kernel
theorem dL_hands_637 : decode cL_hands 637 = .ok (.iconst 0, 1) := by decide +kernel
theorem dL_hands_638 : decode cL_hands 638 = .ok (.if_icmp .ne 7, 3) := by decide +kernel
theorem dL_hands_641 : decode cL_hands 641 = .ok (.iconst 1, 1) := by decide +kernel
theorem dL_hands_642 : decode cL_hands 642 = .ok (.goto 4, 3) := by decide +kernel
theorem dL_hands_645 : decode cL_hands 645 = .ok (.iconst 0, 1) := by decide +kernel
theorem dL_hands_646 : decode cL_hands 646 = .ok (.istore 5, 2) := by decide +kernel
theorem dL_hands_648 : decode cL_hands 648 = .ok (.iload 19, 2) := by decide +kernel
theorem dL_hands_650 : decode cL_hands 650 = .ok (.ifCond .le 58, 3) := by decide +kernel
theorem dL_hands_653 : decode cL_hands 653 = .ok (.iload 19, 2) := by decide +kernel
theorem dL_hands_655 : decode cL_hands 655 = .ok (.bipush 97, 2) := by decide +kernel
theorem dL_hands_657 : decode cL_hands 657 = .ok (.if_icmp .ge 51, 3) := by decide +kernel
theorem dL_hands_660 : decode cL_hands 660 = .ok (.iload 5, 2) := by decide +kernel
theorem dL_hands_662 : decode cL_hands 662 = .ok (.ifCond .eq 46, 3) := by decide +kernel
theorem dL_hands_665 : decode cL_hands 665 = .ok (.aload_n 0, 1) := by decide +kernel
theorem dL_hands_666 : decode cL_hands 666 = .ok (.iload 19, 2) := by decide +kernel
theorem dL_hands_668 : decode cL_hands 668 = .ok (.iload 18, 2) := by decide +kernel
theorem dL_hands_670 : decode cL_hands 670 = .ok (.iconst 0, 1) := by decide +kernel
theorem dL_hands_671 : decode cL_hands 671 = .ok (.invokestatic 185, 3) := by decide +kernel
theorem dL_hands_674 : decode cL_hands 674 = .ok (.iload 17, 2) := by decide +kernel
theorem dL_hands_676 : decode cL_hands 676 = .ok (.if_icmp .lt 29, 3) := by decide +kernel
theorem dL_hands_679 : decode cL_hands 679 = .ok (.iload 19, 2) := by decide +kernel
theorem dL_hands_681 : decode cL_hands 681 = .ok (.iconst 1, 1) := by decide +kernel
theorem dL_hands_682 : decode cL_hands 682 = .ok (.if_icmp .eq 19, 3) := by decide +kernel
theorem dL_hands_685 : decode cL_hands 685 = .ok (.aload_n 0, 1) := by decide +kernel
theorem dL_hands_686 : decode cL_hands 686 = .ok (.iload 19, 2) := by decide +kernel
theorem dL_hands_688 : decode cL_hands 688 = .ok (.iconst 1, 1) := by decide +kernel
theorem dL_hands_689 : decode cL_hands 689 = .ok (.isub, 1) := by decide +kernel
theorem dL_hands_690 : decode cL_hands 690 = .ok (.iload 18, 2) := by decide +kernel
theorem dL_hands_692 : decode cL_hands 692 = .ok (.iconst 0, 1) := by decide +kernel
theorem dL_hands_693 : decode cL_hands 693 = .ok (.invokestatic 185, 3) := by decide +kernel
theorem dL_hands_696 : decode cL_hands 696 = .ok (.iload 17, 2) := by decide +kernel
theorem dL_hands_698 : decode cL_hands 698 = .ok (.if_icmp .ge 7, 3) := by decide +kernel
theorem dL_hands_701 : decode cL_hands 701 = .ok (.iconst 1, 1) := by decide +kernel
theorem dL_hands_702 : decode cL_hands 702 = .ok (.goto 4, 3) := by decide +kernel
theorem dL_hands_705 : decode cL_hands 705 = .ok (.iconst 0, 1) := by decide +kernel
theorem dL_hands_706 : decode cL_hands 706 = .ok (.istore 5, 2) := by decide +kernel
theorem dL_hands_708 : decode cL_hands 708 = .ok (.iconst 1, 1) := by decide +kernel
theorem dL_hands_709 : decode cL_hands 709 = .ok (.iload_n 1, 1) := by decide +kernel
theorem dL_hands_710 : decode cL_hands 710 = .ok (.bipush 30, 2) := by decide +kernel
theorem dL_hands_712 : decode cL_hands 712 = .ok (.irem, 1) := by decide +kernel
theorem dL_hands_713 : decode cL_hands 713 = .ok (.iadd, 1) := by decide +kernel
theorem dL_hands_714 : decode cL_hands 714 = .ok (.istore 20, 2) := by decide +kernel
theorem dL_hands_716 : decode cL_hands 716 = .ok (.aload_n 0, 1) := by decide +kernel
theorem dL_hands_717 : decode cL_hands 717 = .ok (.iload 20, 2) := by decide +kernel
theorem dL_hands_719 : decode cL_hands 719 = .ok (.iload 18, 2) := by decide +kernel
theorem dL_hands_721 : decode cL_hands 721 = .ok (.invokestatic 195, 3) := by decide +kernel
theorem dL_hands_724 : decode cL_hands 724 = .ok (.istore 21, 2) := by decide +kernel
theorem dL_hands_726 : decode cL_hands 726 = .ok (.aload_n 0, 1) := by decide +kernel
theorem dL_hands_727 : decode cL_hands 727 = .ok (.iload 21, 2) := by decide +kernel
theorem dL_hands_729 : decode cL_hands 729 = .ok (.iload 20, 2) := by decide +kernel
theorem dL_hands_731 : decode cL_hands 731 = .ok (.iload 18, 2) := by decide +kernel
theorem dL_hands_733 : decode cL_hands 733 = .ok (.iload 4, 2) := by decide +kernel
theorem dL_hands_735 : decode cL_hands 735 = .ok (.invokestatic 218, 3) := by decide +kernel
theorem dL_hands_738 : decode cL_hands 738 = .ok (.istore 22, 2) := by decide +kernel
theorem dL_hands_740 : decode cL_hands 740 = .ok (.aload_n 0, 1) := by decide +kernel
theorem dL_hands_741 : decode cL_hands 741 = .ok (.iconst 1, 1) := by decide +kernel
theorem dL_hands_742 : decode cL_hands 742 = .ok (.iload_n 1, 1) := by decide +kernel
theorem dL_hands_743 : decode cL_hands 743 = .ok (.sipush 128, 3) := by decide +kernel
theorem dL_hands_746 : decode cL_hands 746 = .ok (.idiv, 1) := by decide +kernel
theorem dL_hands_747 : decode cL_hands 747 = .ok (.iconst 5, 1) := by decide +kernel
theorem dL_hands_748 : decode cL_hands 748 = .ok (.irem, 1) := by decide +kernel
theorem dL_hands_749 : decode cL_hands 749 = .ok (.iadd, 1) := by decide +kernel
theorem dL_hands_750 : decode cL_hands 750 = .ok (.iload 20, 2) := by decide +kernel
theorem dL_hands_752 : decode cL_hands 752 = .ok (.iload 18, 2) := by decide +kernel
theorem dL_hands_754 : decode cL_hands 754 = .ok (.iload 4, 2) := by decide +kernel
theorem dL_hands_756 : decode cL_hands 756 = .ok (.invokestatic 218, 3) := by decide +kernel
theorem dL_hands_759 : decode cL_hands 759 = .ok (.istore 23, 2) := by decide +kernel
theorem dL_hands_761 : decode cL_hands 761 = .ok (.aload_n 0, 1) := by decide +kernel
theorem dL_hands_762 : decode cL_hands 762 = .ok (.iload 20, 2) := by decide +kernel
theorem dL_hands_764 : decode cL_hands 764 = .ok (.bipush 10, 2) := by decide +kernel
theorem dL_hands_766 : decode cL_hands 766 = .ok (.iload 17, 2) := by decide +kernel
theorem dL_hands_768 : decode cL_hands 768 = .ok (.bipush 71, 2) := by decide +kernel
theorem dL_hands_770 : decode cL_hands 770 = .ok (.irem, 1) := by decide +kernel
theorem dL_hands_771 : decode cL_hands 771 = .ok (.iadd, 1) := by decide +kernel
theorem dL_hands_772 : decode cL_hands 772 = .ok (.invokestatic 192, 3) := by decide +kernel
theorem dL_hands_775 : decode cL_hands 775 = .ok (.istore 24, 2) := by decide +kernel
theorem dL_hands_777 : decode cL_hands 777 = .ok (.iload 5, 2) := by decide +kernel
theorem dL_hands_779 : decode cL_hands 779 = .ok (.ifCond .eq 49, 3) := by decide +kernel
theorem dL_hands_782 : decode cL_hands 782 = .ok (.iload 21, 2) := by decide +kernel
theorem dL_hands_784 : decode cL_hands 784 = .ok (.iconst 1, 1) := by decide +kernel
theorem dL_hands_785 : decode cL_hands 785 = .ok (.if_icmp .lt 43, 3) := by decide +kernel
theorem dL_hands_788 : decode cL_hands 788 = .ok (.iload 21, 2) := by decide +kernel
theorem dL_hands_790 : decode cL_hands 790 = .ok (.iconst 5, 1) := by decide +kernel
theorem dL_hands_791 : decode cL_hands 791 = .ok (.if_icmp .gt 37, 3) := by decide +kernel
theorem dL_hands_794 : decode cL_hands 794 = .ok (.iload 22, 2) := by decide +kernel
theorem dL_hands_796 : decode cL_hands 796 = .ok (.iload 23, 2) := by decide +kernel
theorem dL_hands_798 : decode cL_hands 798 = .ok (.if_icmp .gt 30, 3) := by decide +kernel
theorem dL_hands_801 : decode cL_hands 801 = .ok (.iload 24, 2) := by decide +kernel
theorem dL_hands_803 : decode cL_hands 803 = .ok (.bipush (-9), 2) := by decide +kernel
theorem dL_hands_805 : decode cL_hands 805 = .ok (.if_icmp .lt 23, 3) := by decide +kernel
theorem dL_hands_808 : decode cL_hands 808 = .ok (.iload 24, 2) := by decide +kernel
theorem dL_hands_810 : decode cL_hands 810 = .ok (.iconst 5, 1) := by decide +kernel
theorem dL_hands_811 : decode cL_hands 811 = .ok (.if_icmp .gt 17, 3) := by decide +kernel
theorem dL_hands_814 : decode cL_hands 814 = .ok (.aload_n 0, 1) := by decide +kernel
theorem dL_hands_815 : decode cL_hands 815 = .ok (.invokestatic 139, 3) := by decide +kernel
theorem dL_hands_818 : decode cL_hands 818 = .ok (.sipush (-1003), 3) := by decide +kernel
theorem dL_hands_821 : decode cL_hands 821 = .ok (.if_icmp .ne 7, 3) := by decide +kernel
theorem dL_hands_824 : decode cL_hands 824 = .ok (.iconst 1, 1) := by decide +kernel
theorem dL_hands_825 : decode cL_hands 825 = .ok (.goto 4, 3) := by decide +kernel
theorem dL_hands_828 : decode cL_hands 828 = .ok (.iconst 0, 1) := by decide +kernel
theorem dL_hands_829 : decode cL_hands 829 = .ok (.ireturn, 1) := by decide +kernel
theorem dL_purgeFuel_0 : decode cL_purgeFuel 0 = .ok (.aload_n 0, 1) := by decide +kernel
theorem dL_purgeFuel_1 : decode cL_purgeFuel 1 = .ok (.iconst 2, 1) := by decide +kernel
theorem dL_purgeFuel_2 : decode cL_purgeFuel 2 = .ok (.iload_n 1, 1) := by decide +kernel
theorem dL_purgeFuel_3 : decode cL_purgeFuel 3 = .ok (.invokestatic 160, 3) := by decide +kernel
theorem dL_purgeFuel_6 : decode cL_purgeFuel 6 = .ok (.istore 5, 2) := by decide +kernel
theorem dL_purgeFuel_8 : decode cL_purgeFuel 8 = .ok (.aload_n 0, 1) := by decide +kernel
theorem dL_purgeFuel_9 : decode cL_purgeFuel 9 = .ok (.iload_n 2, 1) := by decide +kernel
theorem dL_purgeFuel_10 : decode cL_purgeFuel 10 = .ok (.iload_n 3, 1) := by decide +kernel
theorem dL_purgeFuel_11 : decode cL_purgeFuel 11 = .ok (.iconst 3, 1) := by decide +kernel
theorem dL_purgeFuel_12 : decode cL_purgeFuel 12 = .ok (.invokestatic 185, 3) := by decide +kernel
theorem dL_purgeFuel_15 : decode cL_purgeFuel 15 = .ok (.istore 6, 2) := by decide +kernel
theorem dL_purgeFuel_17 : decode cL_purgeFuel 17 = .ok (.iload 5, 2) := by decide +kernel
theorem dL_purgeFuel_19 : decode cL_purgeFuel 19 = .ok (.ifCond .le 18, 3) := by decide +kernel
theorem dL_purgeFuel_22 : decode cL_purgeFuel 22 = .ok (.aload_n 0, 1) := by decide +kernel
theorem dL_purgeFuel_23 : decode cL_purgeFuel 23 = .ok (.iconst 0, 1) := by decide +kernel
theorem dL_purgeFuel_24 : decode cL_purgeFuel 24 = .ok (.invokestatic 142, 3) := by decide +kernel
theorem dL_purgeFuel_27 : decode cL_purgeFuel 27 = .ok (.iload 4, 2) := by decide +kernel
theorem dL_purgeFuel_29 : decode cL_purgeFuel 29 = .ok (.if_icmp .ne 8, 3) := by decide +kernel
theorem dL_purgeFuel_32 : decode cL_purgeFuel 32 = .ok (.iload 6, 2) := by decide +kernel
theorem dL_purgeFuel_34 : decode cL_purgeFuel 34 = .ok (.goto 4, 3) := by decide +kernel
theorem dL_purgeFuel_37 : decode cL_purgeFuel 37 = .ok (.iconst (-1), 1) := by decide +kernel
theorem dL_purgeFuel_38 : decode cL_purgeFuel 38 = .ok (.ireturn, 1) := by decide +kernel
theorem dL_scripts_0 : decode cL_scripts 0 = .ok (.aload_n 0, 1) := by decide +kernel
theorem dL_scripts_1 : decode cL_scripts 1 = .ok (.bipush 9, 2) := by decide +kernel
theorem dL_scripts_3 : decode cL_scripts 3 = .ok (.invokestatic 129, 3) := by decide +kernel
theorem dL_scripts_6 : decode cL_scripts 6 = .ok (.istore_n 2, 1) := by decide +kernel
theorem dL_scripts_7 : decode cL_scripts 7 = .ok (.aload_n 0, 1) := by decide +kernel
theorem dL_scripts_8 : decode cL_scripts 8 = .ok (.bipush 6, 2) := by decide +kernel
theorem dL_scripts_10 : decode cL_scripts 10 = .ok (.invokestatic 129, 3) := by decide +kernel
theorem dL_scripts_13 : decode cL_scripts 13 = .ok (.istore_n 3, 1) := by decide +kernel
theorem dL_scripts_14 : decode cL_scripts 14 = .ok (.iload_n 1, 1) := by decide +kernel
theorem dL_scripts_15 : decode cL_scripts 15 = .ok (.iload_n 3, 1) := by decide +kernel
theorem dL_scripts_16 : decode cL_scripts 16 = .ok (.irem, 1) := by decide +kernel
theorem dL_scripts_17 : decode cL_scripts 17 = .ok (.istore 4, 2) := by decide +kernel
theorem dL_scripts_19 : decode cL_scripts 19 = .ok (.aload_n 0, 1) := by decide +kernel
theorem dL_scripts_20 : decode cL_scripts 20 = .ok (.iload 4, 2) := by decide +kernel
theorem dL_scripts_22 : decode cL_scripts 22 = .ok (.iconst 2, 1) := by decide +kernel
theorem dL_scripts_23 : decode cL_scripts 23 = .ok (.invokestatic 151, 3) := by decide +kernel
theorem dL_scripts_26 : decode cL_scripts 26 = .ok (.istore 5, 2) := by decide +kernel
theorem dL_scripts_28 : decode cL_scripts 28 = .ok (.aload_n 0, 1) := by decide +kernel
theorem dL_scripts_29 : decode cL_scripts 29 = .ok (.bipush 14, 2) := by decide +kernel
theorem dL_scripts_31 : decode cL_scripts 31 = .ok (.invokestatic 129, 3) := by decide +kernel
theorem dL_scripts_34 : decode cL_scripts 34 = .ok (.istore 6, 2) := by decide +kernel
theorem dL_scripts_36 : decode cL_scripts 36 = .ok (.aload_n 0, 1) := by decide +kernel
theorem dL_scripts_37 : decode cL_scripts 37 = .ok (.iload_n 1, 1) := by decide +kernel
theorem dL_scripts_38 : decode cL_scripts 38 = .ok (.i2l, 1) := by decide +kernel
theorem dL_scripts_39 : decode cL_scripts 39 = .ok (.ldc2_w 222, 3) := by decide +kernel
theorem dL_scripts_42 : decode cL_scripts 42 = .ok (.lmul, 1) := by decide +kernel
theorem dL_scripts_43 : decode cL_scripts 43 = .ok (.bipush 20, 2) := by decide +kernel
theorem dL_scripts_45 : decode cL_scripts 45 = .ok (.invokestatic 204, 3) := by decide +kernel
theorem dL_scripts_48 : decode cL_scripts 48 = .ok (.istore 7, 2) := by decide +kernel
theorem dL_scripts_50 : decode cL_scripts 50 = .ok (.aload_n 0, 1) := by decide +kernel
theorem dL_scripts_51 : decode cL_scripts 51 = .ok (.iconst 1, 1) := by decide +kernel
theorem dL_scripts_52 : decode cL_scripts 52 = .ok (.ldc2_w 224, 3) := by decide +kernel
theorem dL_scripts_55 : decode cL_scripts 55 = .ok (.iload_n 2, 1) := by decide +kernel
theorem dL_scripts_56 : decode cL_scripts 56 = .ok (.i2l, 1) := by decide +kernel
theorem dL_scripts_57 : decode cL_scripts 57 = .ok (.ladd, 1) := by decide +kernel
theorem dL_scripts_58 : decode cL_scripts 58 = .ok (.invokestatic 198, 3) := by decide +kernel
theorem dL_scripts_61 : decode cL_scripts 61 = .ok (.bipush (-9), 2) := by decide +kernel
theorem dL_scripts_63 : decode cL_scripts 63 = .ok (.if_icmp .ne 190, 3) := by decide +kernel
theorem dL_scripts_66 : decode cL_scripts 66 = .ok (.iload_n 2, 1) := by decide +kernel
theorem dL_scripts_67 : decode cL_scripts 67 = .ok (.bipush 99, 2) := by decide +kernel
theorem dL_scripts_69 : decode cL_scripts 69 = .ok (.if_icmp .eq 17, 3) := by decide +kernel
theorem dL_scripts_72 : decode cL_scripts 72 = .ok (.aload_n 0, 1) := by decide +kernel
theorem dL_scripts_73 : decode cL_scripts 73 = .ok (.iconst 1, 1) := by decide +kernel
theorem dL_scripts_74 : decode cL_scripts 74 = .ok (.ldc2_w 226, 3) := by decide +kernel
theorem dL_scripts_77 : decode cL_scripts 77 = .ok (.iload_n 2, 1) := by decide +kernel
theorem dL_scripts_78 : decode cL_scripts 78 = .ok (.i2l, 1) := by decide +kernel
theorem dL_scripts_79 : decode cL_scripts 79 = .ok (.ladd, 1) := by decide +kernel
theorem dL_scripts_80 : decode cL_scripts 80 = .ok (.invokestatic 198, 3) := by decide +kernel
theorem dL_scripts_83 : decode cL_scripts 83 = .ok (.ifCond .ne 170, 3) := by decide +kernel
theorem dL_scripts_86 : decode cL_scripts 86 = .ok (.aload_n 0, 1) := by decide +kernel
theorem dL_scripts_87 : decode cL_scripts 87 = .ok (.iconst 1, 1) := by decide +kernel
theorem dL_scripts_88 : decode cL_scripts 88 = .ok (.ldc2_w 228, 3) := by decide +kernel
theorem dL_scripts_91 : decode cL_scripts 91 = .ok (.ldc2_w 230, 3) := by decide +kernel
theorem dL_scripts_94 : decode cL_scripts 94 = .ok (.iload 4, 2) := by decide +kernel
theorem dL_scripts_96 : decode cL_scripts 96 = .ok (.i2l, 1) := by decide +kernel
theorem dL_scripts_97 : decode cL_scripts 97 = .ok (.lmul, 1) := by decide +kernel
theorem dL_scripts_98 : decode cL_scripts 98 = .ok (.ladd, 1) := by decide +kernel
theorem dL_scripts_99 : decode cL_scripts 99 = .ok (.iload 5, 2) := by decide +kernel
theorem dL_scripts_101 : decode cL_scripts 101 = .ok (.i2l, 1) := by decide +kernel
theorem dL_scripts_102 : decode cL_scripts 102 = .ok (.ladd, 1) := by decide +kernel
theorem dL_scripts_103 : decode cL_scripts 103 = .ok (.invokestatic 198, 3) := by decide +kernel
theorem dL_scripts_106 : decode cL_scripts 106 = .ok (.bipush (-9), 2) := by decide +kernel
theorem dL_scripts_108 : decode cL_scripts 108 = .ok (.if_icmp .ne 145, 3) := by decide +kernel
theorem dL_scripts_111 : decode cL_scripts 111 = .ok (.aload_n 0, 1) := by decide +kernel
theorem dL_scripts_112 : decode cL_scripts 112 = .ok (.iconst 1, 1) := by decide +kernel
theorem dL_scripts_113 : decode cL_scripts 113 = .ok (.ldc2_w 232, 3) := by decide +kernel
theorem dL_scripts_116 : decode cL_scripts 116 = .ok (.ldc2_w 230, 3) := by decide +kernel
theorem dL_scripts_119 : decode cL_scripts 119 = .ok (.iload 4, 2) := by decide +kernel
theorem dL_scripts_121 : decode cL_scripts 121 = .ok (.i2l, 1) := by decide +kernel
theorem dL_scripts_122 : decode cL_scripts 122 = .ok (.lmul, 1) := by decide +kernel
theorem dL_scripts_123 : decode cL_scripts 123 = .ok (.ladd, 1) := by decide +kernel
theorem dL_scripts_124 : decode cL_scripts 124 = .ok (.invokestatic 198, 3) := by decide +kernel
theorem dL_scripts_127 : decode cL_scripts 127 = .ok (.ifCond .ne 126, 3) := by decide +kernel
theorem dL_scripts_130 : decode cL_scripts 130 = .ok (.iload 6, 2) := by decide +kernel
theorem dL_scripts_132 : decode cL_scripts 132 = .ok (.bipush 9, 2) := by decide +kernel
theorem dL_scripts_134 : decode cL_scripts 134 = .ok (.if_icmp .gt 20, 3) := by decide +kernel
theorem dL_scripts_137 : decode cL_scripts 137 = .ok (.aload_n 0, 1) := by decide +kernel
theorem dL_scripts_138 : decode cL_scripts 138 = .ok (.iconst 1, 1) := by decide +kernel
theorem dL_scripts_139 : decode cL_scripts 139 = .ok (.ldc2_w 234, 3) := by decide +kernel
theorem dL_scripts_142 : decode cL_scripts 142 = .ok (.iload 6, 2) := by decide +kernel
theorem dL_scripts_144 : decode cL_scripts 144 = .ok (.i2l, 1) := by decide +kernel
theorem dL_scripts_145 : decode cL_scripts 145 = .ok (.ladd, 1) := by decide +kernel
theorem dL_scripts_146 : decode cL_scripts 146 = .ok (.invokestatic 198, 3) := by decide +kernel
theorem dL_scripts_149 : decode cL_scripts 149 = .ok (.bipush (-9), 2) := by decide +kernel
theorem dL_scripts_151 : decode cL_scripts 151 = .ok (.if_icmp .ne 102, 3) := by decide +kernel
theorem dL_scripts_154 : decode cL_scripts 154 = .ok (.aload_n 0, 1) := by decide +kernel
theorem dL_scripts_155 : decode cL_scripts 155 = .ok (.iconst 1, 1) := by decide +kernel
theorem dL_scripts_156 : decode cL_scripts 156 = .ok (.ldc2_w 236, 3) := by decide +kernel
theorem dL_scripts_159 : decode cL_scripts 159 = .ok (.ldc2_w 230, 3) := by decide +kernel
theorem dL_scripts_162 : decode cL_scripts 162 = .ok (.iload 4, 2) := by decide +kernel
theorem dL_scripts_164 : decode cL_scripts 164 = .ok (.i2l, 1) := by decide +kernel
theorem dL_scripts_165 : decode cL_scripts 165 = .ok (.lmul, 1) := by decide +kernel
theorem dL_scripts_166 : decode cL_scripts 166 = .ok (.ladd, 1) := by decide +kernel
theorem dL_scripts_167 : decode cL_scripts 167 = .ok (.invokestatic 198, 3) := by decide +kernel
theorem dL_scripts_170 : decode cL_scripts 170 = .ok (.iload 5, 2) := by decide +kernel
theorem dL_scripts_172 : decode cL_scripts 172 = .ok (.iconst 4, 1) := by decide +kernel
theorem dL_scripts_173 : decode cL_scripts 173 = .ok (.if_icmp .ne 7, 3) := by decide +kernel
theorem dL_scripts_176 : decode cL_scripts 176 = .ok (.iconst 0, 1) := by decide +kernel
theorem dL_scripts_177 : decode cL_scripts 177 = .ok (.goto 5, 3) := by decide +kernel
theorem dL_scripts_180 : decode cL_scripts 180 = .ok (.bipush (-9), 2) := by decide +kernel
theorem dL_scripts_182 : decode cL_scripts 182 = .ok (.if_icmp .ne 71, 3) := by decide +kernel
theorem dL_scripts_185 : decode cL_scripts 185 = .ok (.aload_n 0, 1) := by decide +kernel
theorem dL_scripts_186 : decode cL_scripts 186 = .ok (.iconst 1, 1) := by decide +kernel
theorem dL_scripts_187 : decode cL_scripts 187 = .ok (.ldc2_w 238, 3) := by decide +kernel
theorem dL_scripts_190 : decode cL_scripts 190 = .ok (.ldc2_w 230, 3) := by decide +kernel
theorem dL_scripts_193 : decode cL_scripts 193 = .ok (.iload 4, 2) := by decide +kernel
theorem dL_scripts_195 : decode cL_scripts 195 = .ok (.i2l, 1) := by decide +kernel
theorem dL_scripts_196 : decode cL_scripts 196 = .ok (.lmul, 1) := by decide +kernel
theorem dL_scripts_197 : decode cL_scripts 197 = .ok (.ladd, 1) := by decide +kernel
theorem dL_scripts_198 : decode cL_scripts 198 = .ok (.invokestatic 198, 3) := by decide +kernel
theorem dL_scripts_201 : decode cL_scripts 201 = .ok (.iload 5, 2) := by decide +kernel
theorem dL_scripts_203 : decode cL_scripts 203 = .ok (.iconst 4, 1) := by decide +kernel
theorem dL_scripts_204 : decode cL_scripts 204 = .ok (.if_icmp .ne 8, 3) := by decide +kernel
theorem dL_scripts_207 : decode cL_scripts 207 = .ok (.bipush (-9), 2) := by decide +kernel
theorem dL_scripts_209 : decode cL_scripts 209 = .ok (.goto 4, 3) := by decide +kernel
theorem dL_scripts_212 : decode cL_scripts 212 = .ok (.iconst 0, 1) := by decide +kernel
theorem dL_scripts_213 : decode cL_scripts 213 = .ok (.if_icmp .ne 40, 3) := by decide +kernel
theorem dL_scripts_216 : decode cL_scripts 216 = .ok (.aload_n 0, 1) := by decide +kernel
theorem dL_scripts_217 : decode cL_scripts 217 = .ok (.iconst 1, 1) := by decide +kernel
theorem dL_scripts_218 : decode cL_scripts 218 = .ok (.ldc2_w 240, 3) := by decide +kernel
theorem dL_scripts_221 : decode cL_scripts 221 = .ok (.invokestatic 198, 3) := by decide +kernel
theorem dL_scripts_224 : decode cL_scripts 224 = .ok (.ifCond .ne 29, 3) := by decide +kernel
theorem dL_scripts_227 : decode cL_scripts 227 = .ok (.aload_n 0, 1) := by decide +kernel
theorem dL_scripts_228 : decode cL_scripts 228 = .ok (.iconst 1, 1) := by decide +kernel
theorem dL_scripts_229 : decode cL_scripts 229 = .ok (.ldc2_w 242, 3) := by decide +kernel
theorem dL_scripts_232 : decode cL_scripts 232 = .ok (.invokestatic 198, 3) := by decide +kernel
theorem dL_scripts_235 : decode cL_scripts 235 = .ok (.ifCond .ne 18, 3) := by decide +kernel
theorem dL_scripts_238 : decode cL_scripts 238 = .ok (.aload_n 0, 1) := by decide +kernel
theorem dL_scripts_239 : decode cL_scripts 239 = .ok (.iconst 1, 1) := by decide +kernel
theorem dL_scripts_240 : decode cL_scripts 240 = .ok (.ldc2_w 244, 3) := by decide +kernel
theorem dL_scripts_243 : decode cL_scripts 243 = .ok (.invokestatic 198, 3) := by decide +kernel
theorem dL_scripts_246 : decode cL_scripts 246 = .ok (.ifCond .ne 7, 3) := by decide +kernel
theorem dL_scripts_249 : decode cL_scripts 249 = .ok (.iconst 1, 1) := by decide +kernel
theorem dL_scripts_250 : decode cL_scripts 250 = .ok (.goto 4, 3) := by decide +kernel
theorem dL_scripts_253 : decode cL_scripts 253 = .ok (.iconst 0, 1) := by decide +kernel
theorem dL_scripts_254 : decode cL_scripts 254 = .ok (.istore 8, 2) := by decide +kernel
theorem dL_scripts_256 : decode cL_scripts 256 = .ok (.iload 8, 2) := by decide +kernel
theorem dL_scripts_258 : decode cL_scripts 258 = .ok (.ifCond .eq 150, 3) := by decide +kernel
theorem dL_scripts_261 : decode cL_scripts 261 = .ok (.aload_n 0, 1) := by decide +kernel
theorem dL_scripts_262 : decode cL_scripts 262 = .ok (.iconst 1, 1) := by decide +kernel
theorem dL_scripts_263 : decode cL_scripts 263 = .ok (.ldc2_w 246, 3) := by decide +kernel
theorem dL_scripts_266 : decode cL_scripts 266 = .ok (.invokestatic 198, 3) := by decide +kernel
theorem dL_scripts_269 : decode cL_scripts 269 = .ok (.ifCond .ne 139, 3) := by decide +kernel
theorem dL_scripts_272 : decode cL_scripts 272 = .ok (.aload_n 0, 1) := by decide +kernel
theorem dL_scripts_273 : decode cL_scripts 273 = .ok (.iconst 1, 1) := by decide +kernel
theorem dL_scripts_274 : decode cL_scripts 274 = .ok (.ldc2_w 248, 3) := by decide +kernel
theorem dL_scripts_277 : decode cL_scripts 277 = .ok (.invokestatic 198, 3) := by decide +kernel
theorem dL_scripts_280 : decode cL_scripts 280 = .ok (.ifCond .ne 128, 3) := by decide +kernel
theorem dL_scripts_283 : decode cL_scripts 283 = .ok (.aload_n 0, 1) := by decide +kernel
theorem dL_scripts_284 : decode cL_scripts 284 = .ok (.iconst 2, 1) := by decide +kernel
theorem dL_scripts_285 : decode cL_scripts 285 = .ok (.ldc2_w 250, 3) := by decide +kernel
theorem dL_scripts_288 : decode cL_scripts 288 = .ok (.invokestatic 198, 3) := by decide +kernel
theorem dL_scripts_291 : decode cL_scripts 291 = .ok (.bipush (-9), 2) := by decide +kernel
theorem dL_scripts_293 : decode cL_scripts 293 = .ok (.if_icmp .ne 115, 3) := by decide +kernel
theorem dL_scripts_296 : decode cL_scripts 296 = .ok (.aload_n 0, 1) := by decide +kernel
theorem dL_scripts_297 : decode cL_scripts 297 = .ok (.iconst 1, 1) := by decide +kernel
theorem dL_scripts_298 : decode cL_scripts 298 = .ok (.ldc2_w 252, 3) := by decide +kernel
theorem dL_scripts_301 : decode cL_scripts 301 = .ok (.invokestatic 198, 3) := by decide +kernel
theorem dL_scripts_304 : decode cL_scripts 304 = .ok (.ifCond .ne 104, 3) := by decide +kernel
theorem dL_scripts_307 : decode cL_scripts 307 = .ok (.aload_n 0, 1) := by decide +kernel
theorem dL_scripts_308 : decode cL_scripts 308 = .ok (.iconst 1, 1) := by decide +kernel
theorem dL_scripts_309 : decode cL_scripts 309 = .ok (.ldc2_w 254, 3) := by decide +kernel
theorem dL_scripts_312 : decode cL_scripts 312 = .ok (.invokestatic 198, 3) := by decide +kernel
theorem dL_scripts_315 : decode cL_scripts 315 = .ok (.bipush (-9), 2) := by decide +kernel
theorem dL_scripts_317 : decode cL_scripts 317 = .ok (.if_icmp .ne 91, 3) := by decide +kernel
theorem dL_scripts_320 : decode cL_scripts 320 = .ok (.aload_n 0, 1) := by decide +kernel
theorem dL_scripts_321 : decode cL_scripts 321 = .ok (.iconst 1, 1) := by decide +kernel
theorem dL_scripts_322 : decode cL_scripts 322 = .ok (.ldc2_w 256, 3) := by decide +kernel
theorem dL_scripts_325 : decode cL_scripts 325 = .ok (.invokestatic 198, 3) := by decide +kernel
theorem dL_scripts_328 : decode cL_scripts 328 = .ok (.ifCond .ne 80, 3) := by decide +kernel
theorem dL_scripts_331 : decode cL_scripts 331 = .ok (.aload_n 0, 1) := by decide +kernel
theorem dL_scripts_332 : decode cL_scripts 332 = .ok (.iconst 1, 1) := by decide +kernel
theorem dL_scripts_333 : decode cL_scripts 333 = .ok (.ldc2_w 258, 3) := by decide +kernel
theorem dL_scripts_336 : decode cL_scripts 336 = .ok (.invokestatic 198, 3) := by decide +kernel
theorem dL_scripts_339 : decode cL_scripts 339 = .ok (.ifCond .ne 69, 3) := by decide +kernel
theorem dL_scripts_342 : decode cL_scripts 342 = .ok (.aload_n 0, 1) := by decide +kernel
theorem dL_scripts_343 : decode cL_scripts 343 = .ok (.iconst 1, 1) := by decide +kernel
theorem dL_scripts_344 : decode cL_scripts 344 = .ok (.ldc2_w 260, 3) := by decide +kernel
theorem dL_scripts_347 : decode cL_scripts 347 = .ok (.invokestatic 198, 3) := by decide +kernel
theorem dL_scripts_350 : decode cL_scripts 350 = .ok (.bipush (-9), 2) := by decide +kernel
theorem dL_scripts_352 : decode cL_scripts 352 = .ok (.if_icmp .ne 56, 3) := by decide +kernel
theorem dL_scripts_355 : decode cL_scripts 355 = .ok (.aload_n 0, 1) := by decide +kernel
theorem dL_scripts_356 : decode cL_scripts 356 = .ok (.iconst 1, 1) := by decide +kernel
theorem dL_scripts_357 : decode cL_scripts 357 = .ok (.ldc2_w 236, 3) := by decide +kernel
theorem dL_scripts_360 : decode cL_scripts 360 = .ok (.ldc2_w 230, 3) := by decide +kernel
theorem dL_scripts_363 : decode cL_scripts 363 = .ok (.iload_n 3, 1) := by decide +kernel
theorem dL_scripts_364 : decode cL_scripts 364 = .ok (.i2l, 1) := by decide +kernel
theorem dL_scripts_365 : decode cL_scripts 365 = .ok (.lmul, 1) := by decide +kernel
theorem dL_scripts_366 : decode cL_scripts 366 = .ok (.ladd, 1) := by decide +kernel
theorem dL_scripts_367 : decode cL_scripts 367 = .ok (.invokestatic 198, 3) := by decide +kernel
theorem dL_scripts_370 : decode cL_scripts 370 = .ok (.ifCond .ne 38, 3) := by decide +kernel
theorem dL_scripts_373 : decode cL_scripts 373 = .ok (.aload_n 0, 1) := by decide +kernel
theorem dL_scripts_374 : decode cL_scripts 374 = .ok (.iconst 1, 1) := by decide +kernel
theorem dL_scripts_375 : decode cL_scripts 375 = .ok (.lconst 0, 1) := by decide +kernel
theorem dL_scripts_376 : decode cL_scripts 376 = .ok (.invokestatic 198, 3) := by decide +kernel
theorem dL_scripts_379 : decode cL_scripts 379 = .ok (.ifCond .ne 29, 3) := by decide +kernel
theorem dL_scripts_382 : decode cL_scripts 382 = .ok (.iload 7, 2) := by decide +kernel
theorem dL_scripts_384 : decode cL_scripts 384 = .ok (.ifCond .lt 24, 3) := by decide +kernel
theorem dL_scripts_387 : decode cL_scripts 387 = .ok (.iload 7, 2) := by decide +kernel
theorem dL_scripts_389 : decode cL_scripts 389 = .ok (.aload_n 0, 1) := by decide +kernel
theorem dL_scripts_390 : decode cL_scripts 390 = .ok (.iload_n 1, 1) := by decide +kernel
theorem dL_scripts_391 : decode cL_scripts 391 = .ok (.i2l, 1) := by decide +kernel
theorem dL_scripts_392 : decode cL_scripts 392 = .ok (.ldc2_w 222, 3) := by decide +kernel
theorem dL_scripts_395 : decode cL_scripts 395 = .ok (.lmul, 1) := by decide +kernel
theorem dL_scripts_396 : decode cL_scripts 396 = .ok (.bipush 20, 2) := by decide +kernel
theorem dL_scripts_398 : decode cL_scripts 398 = .ok (.invokestatic 204, 3) := by decide +kernel
theorem dL_scripts_401 : decode cL_scripts 401 = .ok (.if_icmp .ne 7, 3) := by decide +kernel
theorem dL_scripts_404 : decode cL_scripts 404 = .ok (.iconst 1, 1) := by decide +kernel
theorem dL_scripts_405 : decode cL_scripts 405 = .ok (.goto 4, 3) := by decide +kernel
theorem dL_scripts_408 : decode cL_scripts 408 = .ok (.iconst 0, 1) := by decide +kernel
theorem dL_scripts_409 : decode cL_scripts 409 = .ok (.ireturn, 1) := by decide +kernel
theorem dL_act_0 : decode cL_act 0 = .ok (.iload_n 2, 1) := by decide +kernel
theorem dL_act_1 : decode cL_act 1 = .ok (.aload_n 0, 1) := by decide +kernel
theorem dL_act_2 : decode cL_act 2 = .ok (.bipush 6, 2) := by decide +kernel
theorem dL_act_4 : decode cL_act 4 = .ok (.invokestatic 129, 3) := by decide +kernel
theorem dL_act_7 : decode cL_act 7 = .ok (.irem, 1) := by decide +kernel
theorem dL_act_8 : decode cL_act 8 = .ok (.istore_n 3, 1) := by decide +kernel
theorem dL_act_9 : decode cL_act 9 = .ok (.iload_n 1, 1) := by decide +kernel
theorem dL_act_10 : decode cL_act 10 = .ok (.bipush 16, 2) := by decide +kernel
theorem dL_act_12 : decode cL_act 12 = .ok (.irem, 1) := by decide +kernel
theorem dL_act_13 : decode cL_act 13 = .ok (.tableswitch 206 0 14 #[75, 75, 75, 75, 75, 92, 103, 116, 135, 148, 169, 183, 189, 195, 201], 75) := by decide +kernel
theorem dL_act_88 : decode cL_act 88 = .ok (.aload_n 0, 1) := by decide +kernel
theorem dL_act_89 : decode cL_act 89 = .ok (.iconst 1, 1) := by decide +kernel
theorem dL_act_90 : decode cL_act 90 = .ok (.iload_n 2, 1) := by decide +kernel
theorem dL_act_91 : decode cL_act 91 = .ok (.bipush 30, 2) := by decide +kernel
theorem dL_act_93 : decode cL_act 93 = .ok (.irem, 1) := by decide +kernel
theorem dL_act_94 : decode cL_act 94 = .ok (.iadd, 1) := by decide +kernel
theorem dL_act_95 : decode cL_act 95 = .ok (.iload_n 2, 1) := by decide +kernel
theorem dL_act_96 : decode cL_act 96 = .ok (.bipush 32, 2) := by decide +kernel
theorem dL_act_98 : decode cL_act 98 = .ok (.idiv, 1) := by decide +kernel
theorem dL_act_99 : decode cL_act 99 = .ok (.iconst 4, 1) := by decide +kernel
theorem dL_act_100 : decode cL_act 100 = .ok (.irem, 1) := by decide +kernel
theorem dL_act_101 : decode cL_act 101 = .ok (.invokestatic 154, 3) := by decide +kernel
theorem dL_act_104 : decode cL_act 104 = .ok (.ireturn, 1) := by decide +kernel
theorem dL_act_105 : decode cL_act 105 = .ok (.aload_n 0, 1) := by decide +kernel
theorem dL_act_106 : decode cL_act 106 = .ok (.iconst 1, 1) := by decide +kernel
theorem dL_act_107 : decode cL_act 107 = .ok (.iload_n 2, 1) := by decide +kernel
theorem dL_act_108 : decode cL_act 108 = .ok (.bipush 8, 2) := by decide +kernel
theorem dL_act_110 : decode cL_act 110 = .ok (.irem, 1) := by decide +kernel
theorem dL_act_111 : decode cL_act 111 = .ok (.iadd, 1) := by decide +kernel
theorem dL_act_112 : decode cL_act 112 = .ok (.invokestatic 157, 3) := by decide +kernel
theorem dL_act_115 : decode cL_act 115 = .ok (.ireturn, 1) := by decide +kernel
theorem dL_act_116 : decode cL_act 116 = .ok (.aload_n 0, 1) := by decide +kernel
theorem dL_act_117 : decode cL_act 117 = .ok (.iconst 0, 1) := by decide +kernel
theorem dL_act_118 : decode cL_act 118 = .ok (.bipush 40, 2) := by decide +kernel
theorem dL_act_120 : decode cL_act 120 = .ok (.iload_n 2, 1) := by decide +kernel
theorem dL_act_121 : decode cL_act 121 = .ok (.bipush 41, 2) := by decide +kernel
theorem dL_act_123 : decode cL_act 123 = .ok (.irem, 1) := by decide +kernel
theorem dL_act_124 : decode cL_act 124 = .ok (.iadd, 1) := by decide +kernel
theorem dL_act_125 : decode cL_act 125 = .ok (.invokestatic 160, 3) := by decide +kernel
theorem dL_act_128 : decode cL_act 128 = .ok (.ireturn, 1) := by decide +kernel
theorem dL_act_129 : decode cL_act 129 = .ok (.aload_n 0, 1) := by decide +kernel
theorem dL_act_130 : decode cL_act 130 = .ok (.iconst 2, 1) := by decide +kernel
theorem dL_act_131 : decode cL_act 131 = .ok (.iconst 2, 1) := by decide +kernel
theorem dL_act_132 : decode cL_act 132 = .ok (.iload_n 2, 1) := by decide +kernel
theorem dL_act_133 : decode cL_act 133 = .ok (.iconst 2, 1) := by decide +kernel
theorem dL_act_134 : decode cL_act 134 = .ok (.irem, 1) := by decide +kernel
theorem dL_act_135 : decode cL_act 135 = .ok (.imul, 1) := by decide +kernel
theorem dL_act_136 : decode cL_act 136 = .ok (.iadd, 1) := by decide +kernel
theorem dL_act_137 : decode cL_act 137 = .ok (.iconst 1, 1) := by decide +kernel
theorem dL_act_138 : decode cL_act 138 = .ok (.iload_n 2, 1) := by decide +kernel
theorem dL_act_139 : decode cL_act 139 = .ok (.iconst 2, 1) := by decide +kernel
theorem dL_act_140 : decode cL_act 140 = .ok (.idiv, 1) := by decide +kernel
theorem dL_act_141 : decode cL_act 141 = .ok (.iconst 5, 1) := by decide +kernel
theorem dL_act_142 : decode cL_act 142 = .ok (.irem, 1) := by decide +kernel
theorem dL_act_143 : decode cL_act 143 = .ok (.iadd, 1) := by decide +kernel
theorem dL_act_144 : decode cL_act 144 = .ok (.invokestatic 160, 3) := by decide +kernel
theorem dL_act_147 : decode cL_act 147 = .ok (.ireturn, 1) := by decide +kernel
theorem dL_act_148 : decode cL_act 148 = .ok (.aload_n 0, 1) := by decide +kernel
theorem dL_act_149 : decode cL_act 149 = .ok (.iconst 3, 1) := by decide +kernel
theorem dL_act_150 : decode cL_act 150 = .ok (.bipush 60, 2) := by decide +kernel
theorem dL_act_152 : decode cL_act 152 = .ok (.iload_n 2, 1) := by decide +kernel
theorem dL_act_153 : decode cL_act 153 = .ok (.bipush 31, 2) := by decide +kernel
theorem dL_act_155 : decode cL_act 155 = .ok (.irem, 1) := by decide +kernel
theorem dL_act_156 : decode cL_act 156 = .ok (.iadd, 1) := by decide +kernel
theorem dL_act_157 : decode cL_act 157 = .ok (.invokestatic 160, 3) := by decide +kernel
theorem dL_act_160 : decode cL_act 160 = .ok (.ireturn, 1) := by decide +kernel
theorem dL_act_161 : decode cL_act 161 = .ok (.aload_n 0, 1) := by decide +kernel
theorem dL_act_162 : decode cL_act 162 = .ok (.iload_n 2, 1) := by decide +kernel
theorem dL_act_163 : decode cL_act 163 = .ok (.iconst 2, 1) := by decide +kernel
theorem dL_act_164 : decode cL_act 164 = .ok (.irem, 1) := by decide +kernel
theorem dL_act_165 : decode cL_act 165 = .ok (.iload_n 2, 1) := by decide +kernel
theorem dL_act_166 : decode cL_act 166 = .ok (.iconst 2, 1) := by decide +kernel
theorem dL_act_167 : decode cL_act 167 = .ok (.idiv, 1) := by decide +kernel
theorem dL_act_168 : decode cL_act 168 = .ok (.iconst 3, 1) := by decide +kernel
theorem dL_act_169 : decode cL_act 169 = .ok (.irem, 1) := by decide +kernel
theorem dL_act_170 : decode cL_act 170 = .ok (.ifCond .le 7, 3) := by decide +kernel
theorem dL_act_173 : decode cL_act 173 = .ok (.iconst 1, 1) := by decide +kernel
theorem dL_act_174 : decode cL_act 174 = .ok (.goto 4, 3) := by decide +kernel
theorem dL_act_177 : decode cL_act 177 = .ok (.iconst 0, 1) := by decide +kernel
theorem dL_act_178 : decode cL_act 178 = .ok (.invokestatic 163, 3) := by decide +kernel
theorem dL_act_181 : decode cL_act 181 = .ok (.ireturn, 1) := by decide +kernel
theorem dL_act_182 : decode cL_act 182 = .ok (.aload_n 0, 1) := by decide +kernel
theorem dL_act_183 : decode cL_act 183 = .ok (.iload_n 2, 1) := by decide +kernel
theorem dL_act_184 : decode cL_act 184 = .ok (.iconst 2, 1) := by decide +kernel
theorem dL_act_185 : decode cL_act 185 = .ok (.irem, 1) := by decide +kernel
theorem dL_act_186 : decode cL_act 186 = .ok (.iload_n 2, 1) := by decide +kernel
theorem dL_act_187 : decode cL_act 187 = .ok (.iconst 2, 1) := by decide +kernel
theorem dL_act_188 : decode cL_act 188 = .ok (.idiv, 1) := by decide +kernel
theorem dL_act_189 : decode cL_act 189 = .ok (.bipush 100, 2) := by decide +kernel
theorem dL_act_191 : decode cL_act 191 = .ok (.irem, 1) := by decide +kernel
theorem dL_act_192 : decode cL_act 192 = .ok (.invokestatic 167, 3) := by decide +kernel
theorem dL_act_195 : decode cL_act 195 = .ok (.ireturn, 1) := by decide +kernel
theorem dL_act_196 : decode cL_act 196 = .ok (.aload_n 0, 1) := by decide +kernel
theorem dL_act_197 : decode cL_act 197 = .ok (.iload_n 3, 1) := by decide +kernel
theorem dL_act_198 : decode cL_act 198 = .ok (.invokestatic 170, 3) := by decide +kernel
theorem dL_act_201 : decode cL_act 201 = .ok (.ireturn, 1) := by decide +kernel
theorem dL_act_202 : decode cL_act 202 = .ok (.aload_n 0, 1) := by decide +kernel
theorem dL_act_203 : decode cL_act 203 = .ok (.iload_n 3, 1) := by decide +kernel
theorem dL_act_204 : decode cL_act 204 = .ok (.invokestatic 173, 3) := by decide +kernel
theorem dL_act_207 : decode cL_act 207 = .ok (.ireturn, 1) := by decide +kernel
theorem dL_act_208 : decode cL_act 208 = .ok (.aload_n 0, 1) := by decide +kernel
theorem dL_act_209 : decode cL_act 209 = .ok (.iload_n 3, 1) := by decide +kernel
theorem dL_act_210 : decode cL_act 210 = .ok (.invokestatic 176, 3) := by decide +kernel
theorem dL_act_213 : decode cL_act 213 = .ok (.ireturn, 1) := by decide +kernel
theorem dL_act_214 : decode cL_act 214 = .ok (.aload_n 0, 1) := by decide +kernel
theorem dL_act_215 : decode cL_act 215 = .ok (.invokestatic 139, 3) := by decide +kernel
theorem dL_act_218 : decode cL_act 218 = .ok (.ireturn, 1) := by decide +kernel
theorem dL_act_219 : decode cL_act 219 = .ok (.iload_n 2, 1) := by decide +kernel
theorem dL_act_220 : decode cL_act 220 = .ok (.iconst 2, 1) := by decide +kernel
theorem dL_act_221 : decode cL_act 221 = .ok (.irem, 1) := by decide +kernel
theorem dL_act_222 : decode cL_act 222 = .ok (.ifCond .ne 11, 3) := by decide +kernel
theorem dL_act_225 : decode cL_act 225 = .ok (.aload_n 0, 1) := by decide +kernel
theorem dL_act_226 : decode cL_act 226 = .ok (.iconst 1, 1) := by decide +kernel
theorem dL_act_227 : decode cL_act 227 = .ok (.invokestatic 208, 3) := by decide +kernel
theorem dL_act_230 : decode cL_act 230 = .ok (.goto 8, 3) := by decide +kernel
theorem dL_act_233 : decode cL_act 233 = .ok (.aload_n 0, 1) := by decide +kernel
theorem dL_act_234 : decode cL_act 234 = .ok (.iconst 1, 1) := by decide +kernel
theorem dL_act_235 : decode cL_act 235 = .ok (.invokestatic 142, 3) := by decide +kernel
theorem dL_act_238 : decode cL_act 238 = .ok (.ireturn, 1) := by decide +kernel
theorem dL_law_0 : decode cL_law 0 = .ok (.new 8, 3) := by decide +kernel
theorem dL_law_3 : decode cL_law 3 = .ok (.dup, 1) := by decide +kernel
theorem dL_law_4 : decode cL_law 4 = .ok (.invokespecial 262, 3) := by decide +kernel
theorem dL_law_7 : decode cL_law 7 = .ok (.astore_n 1, 1) := by decide +kernel
theorem dL_law_8 : decode cL_law 8 = .ok (.new 8, 3) := by decide +kernel
theorem dL_law_11 : decode cL_law 11 = .ok (.dup, 1) := by decide +kernel
theorem dL_law_12 : decode cL_law 12 = .ok (.invokespecial 262, 3) := by decide +kernel
theorem dL_law_15 : decode cL_law 15 = .ok (.astore_n 2, 1) := by decide +kernel
theorem dL_law_16 : decode cL_law 16 = .ok (.aload_n 1, 1) := by decide +kernel
theorem dL_law_17 : decode cL_law 17 = .ok (.invokevirtual 119, 3) := by decide +kernel
theorem dL_law_20 : decode cL_law 20 = .ok (.ifCond .ne 60, 3) := by decide +kernel
theorem dL_law_23 : decode cL_law 23 = .ok (.aload_n 1, 1) := by decide +kernel
theorem dL_law_24 : decode cL_law 24 = .ok (.bipush 6, 2) := by decide +kernel
theorem dL_law_26 : decode cL_law 26 = .ok (.invokestatic 129, 3) := by decide +kernel
theorem dL_law_29 : decode cL_law 29 = .ok (.iconst 1, 1) := by decide +kernel
theorem dL_law_30 : decode cL_law 30 = .ok (.if_icmp .ne 50, 3) := by decide +kernel
theorem dL_law_33 : decode cL_law 33 = .ok (.aload_n 1, 1) := by decide +kernel
theorem dL_law_34 : decode cL_law 34 = .ok (.bipush 9, 2) := by decide +kernel
theorem dL_law_36 : decode cL_law 36 = .ok (.invokestatic 129, 3) := by decide +kernel
theorem dL_law_39 : decode cL_law 39 = .ok (.bipush 40, 2) := by decide +kernel
theorem dL_law_41 : decode cL_law 41 = .ok (.if_icmp .ne 39, 3) := by decide +kernel
theorem dL_law_44 : decode cL_law 44 = .ok (.aload_n 1, 1) := by decide +kernel
theorem dL_law_45 : decode cL_law 45 = .ok (.invokestatic 139, 3) := by decide +kernel
theorem dL_law_48 : decode cL_law 48 = .ok (.sipush (-1003), 3) := by decide +kernel
theorem dL_law_51 : decode cL_law 51 = .ok (.if_icmp .ne 29, 3) := by decide +kernel
theorem dL_law_54 : decode cL_law 54 = .ok (.aload_n 2, 1) := by decide +kernel
theorem dL_law_55 : decode cL_law 55 = .ok (.invokestatic 263, 3) := by decide +kernel
theorem dL_law_58 : decode cL_law 58 = .ok (.ifCond .eq 22, 3) := by decide +kernel
theorem dL_law_61 : decode cL_law 61 = .ok (.aload_n 1, 1) := by decide +kernel
theorem dL_law_62 : decode cL_law 62 = .ok (.aload_n 2, 1) := by decide +kernel
theorem dL_law_63 : decode cL_law 63 = .ok (.invokestatic 266, 3) := by decide +kernel
theorem dL_law_66 : decode cL_law 66 = .ok (.ifCond .eq 14, 3) := by decide +kernel
theorem dL_law_69 : decode cL_law 69 = .ok (.aload_n 1, 1) := by decide +kernel
theorem dL_law_70 : decode cL_law 70 = .ok (.invokestatic 214, 3) := by decide +kernel
theorem dL_law_73 : decode cL_law 73 = .ok (.ifCond .eq 7, 3) := by decide +kernel
theorem dL_law_76 : decode cL_law 76 = .ok (.iconst 1, 1) := by decide +kernel
theorem dL_law_77 : decode cL_law 77 = .ok (.goto 4, 3) := by decide +kernel
theorem dL_law_80 : decode cL_law 80 = .ok (.iconst 0, 1) := by decide +kernel
theorem dL_law_81 : decode cL_law 81 = .ok (.istore_n 3, 1) := by decide +kernel
theorem dL_law_82 : decode cL_law 82 = .ok (.iconst 0, 1) := by decide +kernel
theorem dL_law_83 : decode cL_law 83 = .ok (.istore 4, 2) := by decide +kernel
theorem dL_law_85 : decode cL_law 85 = .ok (.iload 4, 2) := by decide +kernel
theorem dL_law_87 : decode cL_law 87 = .ok (.iconst 2, 1) := by decide +kernel
theorem dL_law_88 : decode cL_law 88 = .ok (.if_icmp .ge 281, 3) := by decide +kernel
theorem dL_law_91 : decode cL_law 91 = .ok (.iload_n 3, 1) := by decide +kernel
theorem dL_law_92 : decode cL_law 92 = .ok (.ifCond .eq 277, 3) := by decide +kernel
theorem dL_law_95 : decode cL_law 95 = .ok (.aload_n 1, 1) := by decide +kernel
theorem dL_law_96 : decode cL_law 96 = .ok (.aload_n 2, 1) := by decide +kernel
theorem dL_law_97 : decode cL_law 97 = .ok (.aload_n 0, 1) := by decide +kernel
theorem dL_law_98 : decode cL_law 98 = .ok (.bipush 40, 2) := by decide +kernel
theorem dL_law_100 : decode cL_law 100 = .ok (.iload 4, 2) := by decide +kernel
theorem dL_law_102 : decode cL_law 102 = .ok (.imul, 1) := by decide +kernel
theorem dL_law_103 : decode cL_law 103 = .ok (.invokestatic 270, 3) := by decide +kernel
theorem dL_law_106 : decode cL_law 106 = .ok (.ifCond .eq 29, 3) := by decide +kernel
theorem dL_law_109 : decode cL_law 109 = .ok (.aload_n 2, 1) := by decide +kernel
theorem dL_law_110 : decode cL_law 110 = .ok (.invokestatic 263, 3) := by decide +kernel
theorem dL_law_113 : decode cL_law 113 = .ok (.ifCond .eq 22, 3) := by decide +kernel
theorem dL_law_116 : decode cL_law 116 = .ok (.aload_n 1, 1) := by decide +kernel
theorem dL_law_117 : decode cL_law 117 = .ok (.aload_n 2, 1) := by decide +kernel
theorem dL_law_118 : decode cL_law 118 = .ok (.invokestatic 266, 3) := by decide +kernel
theorem dL_law_121 : decode cL_law 121 = .ok (.ifCond .eq 14, 3) := by decide +kernel
theorem dL_law_124 : decode cL_law 124 = .ok (.aload_n 1, 1) := by decide +kernel
theorem dL_law_125 : decode cL_law 125 = .ok (.invokestatic 214, 3) := by decide +kernel
theorem dL_law_128 : decode cL_law 128 = .ok (.ifCond .eq 7, 3) := by decide +kernel
theorem dL_law_131 : decode cL_law 131 = .ok (.iconst 1, 1) := by decide +kernel
theorem dL_law_132 : decode cL_law 132 = .ok (.goto 4, 3) := by decide +kernel
theorem dL_law_135 : decode cL_law 135 = .ok (.iconst 0, 1) := by decide +kernel
theorem dL_law_136 : decode cL_law 136 = .ok (.istore_n 3, 1) := by decide +kernel
theorem dL_law_137 : decode cL_law 137 = .ok (.iconst 0, 1) := by decide +kernel
theorem dL_law_138 : decode cL_law 138 = .ok (.istore 5, 2) := by decide +kernel
theorem dL_law_140 : decode cL_law 140 = .ok (.iload 5, 2) := by decide +kernel
theorem dL_law_142 : decode cL_law 142 = .ok (.bipush 12, 2) := by decide +kernel
theorem dL_law_144 : decode cL_law 144 = .ok (.if_icmp .ge 219, 3) := by decide +kernel
theorem dL_law_147 : decode cL_law 147 = .ok (.iload_n 3, 1) := by decide +kernel
theorem dL_law_148 : decode cL_law 148 = .ok (.ifCond .eq 215, 3) := by decide +kernel
theorem dL_law_151 : decode cL_law 151 = .ok (.aload_n 0, 1) := by decide +kernel
theorem dL_law_152 : decode cL_law 152 = .ok (.bipush 40, 2) := by decide +kernel
theorem dL_law_154 : decode cL_law 154 = .ok (.iload 4, 2) := by decide +kernel
theorem dL_law_156 : decode cL_law 156 = .ok (.imul, 1) := by decide +kernel
theorem dL_law_157 : decode cL_law 157 = .ok (.bipush 8, 2) := by decide +kernel
theorem dL_law_159 : decode cL_law 159 = .ok (.iadd, 1) := by decide +kernel
theorem dL_law_160 : decode cL_law 160 = .ok (.iconst 2, 1) := by decide +kernel
theorem dL_law_161 : decode cL_law 161 = .ok (.iload 5, 2) := by decide +kernel
theorem dL_law_163 : decode cL_law 163 = .ok (.imul, 1) := by decide +kernel
theorem dL_law_164 : decode cL_law 164 = .ok (.iadd, 1) := by decide +kernel
theorem dL_law_165 : decode cL_law 165 = .ok (.invokestatic 112, 3) := by decide +kernel
theorem dL_law_168 : decode cL_law 168 = .ok (.istore 6, 2) := by decide +kernel
theorem dL_law_170 : decode cL_law 170 = .ok (.aload_n 0, 1) := by decide +kernel
theorem dL_law_171 : decode cL_law 171 = .ok (.bipush 40, 2) := by decide +kernel
theorem dL_law_173 : decode cL_law 173 = .ok (.iload 4, 2) := by decide +kernel
theorem dL_law_175 : decode cL_law 175 = .ok (.imul, 1) := by decide +kernel
theorem dL_law_176 : decode cL_law 176 = .ok (.bipush 9, 2) := by decide +kernel
theorem dL_law_178 : decode cL_law 178 = .ok (.iadd, 1) := by decide +kernel
theorem dL_law_179 : decode cL_law 179 = .ok (.iconst 2, 1) := by decide +kernel
theorem dL_law_180 : decode cL_law 180 = .ok (.iload 5, 2) := by decide +kernel
theorem dL_law_182 : decode cL_law 182 = .ok (.imul, 1) := by decide +kernel
theorem dL_law_183 : decode cL_law 183 = .ok (.iadd, 1) := by decide +kernel
theorem dL_law_184 : decode cL_law 184 = .ok (.invokestatic 112, 3) := by decide +kernel
theorem dL_law_187 : decode cL_law 187 = .ok (.istore 7, 2) := by decide +kernel
theorem dL_law_189 : decode cL_law 189 = .ok (.aload_n 1, 1) := by decide +kernel
theorem dL_law_190 : decode cL_law 190 = .ok (.iload 6, 2) := by decide +kernel
theorem dL_law_192 : decode cL_law 192 = .ok (.iload 7, 2) := by decide +kernel
theorem dL_law_194 : decode cL_law 194 = .ok (.invokestatic 274, 3) := by decide +kernel
theorem dL_law_197 : decode cL_law 197 = .ok (.aload_n 2, 1) := by decide +kernel
theorem dL_law_198 : decode cL_law 198 = .ok (.iload 6, 2) := by decide +kernel
theorem dL_law_200 : decode cL_law 200 = .ok (.iload 7, 2) := by decide +kernel
theorem dL_law_202 : decode cL_law 202 = .ok (.invokestatic 274, 3) := by decide +kernel
theorem dL_law_205 : decode cL_law 205 = .ok (.if_icmp .ne 29, 3) := by decide +kernel
theorem dL_law_208 : decode cL_law 208 = .ok (.aload_n 2, 1) := by decide +kernel
theorem dL_law_209 : decode cL_law 209 = .ok (.invokestatic 263, 3) := by decide +kernel
theorem dL_law_212 : decode cL_law 212 = .ok (.ifCond .eq 22, 3) := by decide +kernel
theorem dL_law_215 : decode cL_law 215 = .ok (.aload_n 1, 1) := by decide +kernel
theorem dL_law_216 : decode cL_law 216 = .ok (.aload_n 2, 1) := by decide +kernel
theorem dL_law_217 : decode cL_law 217 = .ok (.invokestatic 266, 3) := by decide +kernel
theorem dL_law_220 : decode cL_law 220 = .ok (.ifCond .eq 14, 3) := by decide +kernel
theorem dL_law_223 : decode cL_law 223 = .ok (.aload_n 1, 1) := by decide +kernel
theorem dL_law_224 : decode cL_law 224 = .ok (.invokestatic 214, 3) := by decide +kernel
theorem dL_law_227 : decode cL_law 227 = .ok (.ifCond .eq 7, 3) := by decide +kernel
theorem dL_law_230 : decode cL_law 230 = .ok (.iconst 1, 1) := by decide +kernel
theorem dL_law_231 : decode cL_law 231 = .ok (.goto 4, 3) := by decide +kernel
theorem dL_law_234 : decode cL_law 234 = .ok (.iconst 0, 1) := by decide +kernel
theorem dL_law_235 : decode cL_law 235 = .ok (.istore_n 3, 1) := by decide +kernel
theorem dL_law_236 : decode cL_law 236 = .ok (.iload 5, 2) := by decide +kernel
theorem dL_law_238 : decode cL_law 238 = .ok (.iconst 4, 1) := by decide +kernel
theorem dL_law_239 : decode cL_law 239 = .ok (.irem, 1) := by decide +kernel
theorem dL_law_240 : decode cL_law 240 = .ok (.iconst 3, 1) := by decide +kernel
theorem dL_law_241 : decode cL_law 241 = .ok (.if_icmp .ne 116, 3) := by decide +kernel
theorem dL_law_244 : decode cL_law 244 = .ok (.iload_n 3, 1) := by decide +kernel
theorem dL_law_245 : decode cL_law 245 = .ok (.ifCond .eq 112, 3) := by decide +kernel
theorem dL_law_248 : decode cL_law 248 = .ok (.aload_n 1, 1) := by decide +kernel
theorem dL_law_249 : decode cL_law 249 = .ok (.bipush 8, 2) := by decide +kernel
theorem dL_law_251 : decode cL_law 251 = .ok (.invokestatic 129, 3) := by decide +kernel
theorem dL_law_254 : decode cL_law 254 = .ok (.istore 8, 2) := by decide +kernel
theorem dL_law_256 : decode cL_law 256 = .ok (.aload_n 1, 1) := by decide +kernel
theorem dL_law_257 : decode cL_law 257 = .ok (.iload 6, 2) := by decide +kernel
theorem dL_law_259 : decode cL_law 259 = .ok (.invokestatic 277, 3) := by decide +kernel
theorem dL_law_262 : decode cL_law 262 = .ok (.ifCond .eq 93, 3) := by decide +kernel
theorem dL_law_265 : decode cL_law 265 = .ok (.aload_n 2, 1) := by decide +kernel
theorem dL_law_266 : decode cL_law 266 = .ok (.iconst 0, 1) := by decide +kernel
theorem dL_law_267 : decode cL_law 267 = .ok (.invokestatic 208, 3) := by decide +kernel
theorem dL_law_270 : decode cL_law 270 = .ok (.iload 8, 2) := by decide +kernel
theorem dL_law_272 : decode cL_law 272 = .ok (.if_icmp .ne 83, 3) := by decide +kernel
theorem dL_law_275 : decode cL_law 275 = .ok (.aload_n 1, 1) := by decide +kernel
theorem dL_law_276 : decode cL_law 276 = .ok (.iconst 0, 1) := by decide +kernel
theorem dL_law_277 : decode cL_law 277 = .ok (.invokestatic 208, 3) := by decide +kernel
theorem dL_law_280 : decode cL_law 280 = .ok (.iload 8, 2) := by decide +kernel
theorem dL_law_282 : decode cL_law 282 = .ok (.if_icmp .ne 73, 3) := by decide +kernel
theorem dL_law_285 : decode cL_law 285 = .ok (.aload_n 1, 1) := by decide +kernel
theorem dL_law_286 : decode cL_law 286 = .ok (.iconst 0, 1) := by decide +kernel
theorem dL_law_287 : decode cL_law 287 = .ok (.invokestatic 142, 3) := by decide +kernel
theorem dL_law_290 : decode cL_law 290 = .ok (.iload 8, 2) := by decide +kernel
theorem dL_law_292 : decode cL_law 292 = .ok (.if_icmp .ne 63, 3) := by decide +kernel
theorem dL_law_295 : decode cL_law 295 = .ok (.aload_n 1, 1) := by decide +kernel
theorem dL_law_296 : decode cL_law 296 = .ok (.iload 7, 2) := by decide +kernel
theorem dL_law_298 : decode cL_law 298 = .ok (.invokestatic 281, 3) := by decide +kernel
theorem dL_law_301 : decode cL_law 301 = .ok (.ifCond .eq 54, 3) := by decide +kernel
theorem dL_law_304 : decode cL_law 304 = .ok (.aload_n 1, 1) := by decide +kernel
theorem dL_law_305 : decode cL_law 305 = .ok (.iload 7, 2) := by decide +kernel
theorem dL_law_307 : decode cL_law 307 = .ok (.invokestatic 284, 3) := by decide +kernel
theorem dL_law_310 : decode cL_law 310 = .ok (.ifCond .eq 45, 3) := by decide +kernel
theorem dL_law_313 : decode cL_law 313 = .ok (.aload_n 1, 1) := by decide +kernel
theorem dL_law_314 : decode cL_law 314 = .ok (.iconst 0, 1) := by decide +kernel
theorem dL_law_315 : decode cL_law 315 = .ok (.invokestatic 142, 3) := by decide +kernel
theorem dL_law_318 : decode cL_law 318 = .ok (.iload 8, 2) := by decide +kernel
theorem dL_law_320 : decode cL_law 320 = .ok (.if_icmp .ne 35, 3) := by decide +kernel
theorem dL_law_323 : decode cL_law 323 = .ok (.aload_n 2, 1) := by decide +kernel
theorem dL_law_324 : decode cL_law 324 = .ok (.iconst 0, 1) := by decide +kernel
theorem dL_law_325 : decode cL_law 325 = .ok (.invokestatic 142, 3) := by decide +kernel
theorem dL_law_328 : decode cL_law 328 = .ok (.iload 8, 2) := by decide +kernel
theorem dL_law_330 : decode cL_law 330 = .ok (.if_icmp .ne 25, 3) := by decide +kernel
theorem dL_law_333 : decode cL_law 333 = .ok (.aload_n 1, 1) := by decide +kernel
theorem dL_law_334 : decode cL_law 334 = .ok (.invokestatic 139, 3) := by decide +kernel
theorem dL_law_337 : decode cL_law 337 = .ok (.sipush (-1003), 3) := by decide +kernel
theorem dL_law_340 : decode cL_law 340 = .ok (.if_icmp .ne 15, 3) := by decide +kernel
theorem dL_law_343 : decode cL_law 343 = .ok (.aload_n 1, 1) := by decide +kernel
theorem dL_law_344 : decode cL_law 344 = .ok (.aload_n 2, 1) := by decide +kernel
theorem dL_law_345 : decode cL_law 345 = .ok (.invokestatic 266, 3) := by decide +kernel
theorem dL_law_348 : decode cL_law 348 = .ok (.ifCond .eq 7, 3) := by decide +kernel
theorem dL_law_351 : decode cL_law 351 = .ok (.iconst 1, 1) := by decide +kernel
theorem dL_law_352 : decode cL_law 352 = .ok (.goto 4, 3) := by decide +kernel
theorem dL_law_355 : decode cL_law 355 = .ok (.iconst 0, 1) := by decide +kernel
theorem dL_law_356 : decode cL_law 356 = .ok (.istore_n 3, 1) := by decide +kernel
theorem dL_law_357 : decode cL_law 357 = .ok (.iinc 5 1, 3) := by decide +kernel
theorem dL_law_360 : decode cL_law 360 = .ok (.goto (-220), 3) := by decide +kernel
theorem dL_law_363 : decode cL_law 363 = .ok (.iinc 4 1, 3) := by decide +kernel
theorem dL_law_366 : decode cL_law 366 = .ok (.goto (-281), 3) := by decide +kernel
theorem dL_law_369 : decode cL_law 369 = .ok (.iload_n 3, 1) := by decide +kernel
theorem dL_law_370 : decode cL_law 370 = .ok (.ireturn, 1) := by decide +kernel
end
section
/-! THE WORLD OF ONE OBJECT: its 244 cells at the addresses bb G + 0, bb G + 1 .. in the order in which the constructors make them; their whole numbers are one memory C r k (region, place). -/
def lw_g : List Cond := lw_tbl.filter goodWord
theorem lg {w : Cond} (i : Nat) (h : lw_tbl[i]? = some w) (g : goodWord w = true) : w ∈ lw_g := List.mem_filter.mpr ⟨List.mem_of_getElem? h, g⟩
abbrev Mem : Type := Nat → Nat → Int32
def up (f : Nat → Int32) (k : Nat) (v : Int32) : Nat → Int32 := fun j => if j = k then v else f j
def mu (C : Mem) (r k : Nat) (v : Int32) : Mem := fun a => if a = r then up (C a) k v else C a
theorem up_same (f : Nat → Int32) (k : Nat) (v : Int32) : up f k v k = v := if_pos rfl
theorem up_ne (f : Nat → Int32) {k j : Nat} (v : Int32) (h : j ≠ k) : up f k v j = f j := if_neg h
theorem mu_same (C : Mem) (r k : Nat) (v : Int32) : mu C r k v r = up (C r) k v := if_pos rfl
theorem mu_ne (C : Mem) {r a : Nat} (k : Nat) (v : Int32) (h : a ≠ r) : mu C r k v a = C a := if_neg h
/-- kinds of cells, numbers of classes, the heap as it is at a call, the rows that lie ahead, where the world begins -/
abbrev GG : Type := va_G × (Nat → ClassId) × Heap × (Nat → Nat) × Nat
abbrev bb (G : GG) : Nat := G.2.2.2.2
def frA (G : GG) : Nat → Prop := fun q => bb G ≤ q
/-- where the plants lie: 0 the plant, 1 the trial, 2 to 15 the remembered ones, 16 and 17 the slots' -/
def po (q : Nat) : Nat := if q = 0 then 6 else if q = 1 then 19 else if q < 16 then 34 + 13 * (q - 2) else if q = 16 then 217 else 231
def tr (n : Nat) (f : Nat → Int32) : Nat → Int32 := fun j => if j < n then f j else 0
theorem tr_lt {n j : Nat} (f : Nat → Int32) (h : j < n) : tr n f j = f j := if_pos h
theorem tr_upd {n k : Nat} (f : Nat → Int32) (v : Int32) (h : k < n) : upd (tr n f) k v = tr n (up f k v) := by
  funext j
  unfold upd tr up
  by_cases e : j = k
  · subst e; simp [h]
  · simp [e]
theorem tr_up {n k : Nat} (f : Nat → Int32) (v : Int32) (h : n ≤ k) : tr n (up f k v) = tr n f := by
  funext j
  unfold tr up
  by_cases e : j < n
  · simp [e, show j ≠ k by omega]
  · simp [e]
theorem tr_upS {n k d : Nat} (f : Nat → Int32) (v : Int32) (h : k < d ∨ d + n ≤ k) : tr n (fun j => up f k v (d + j)) = tr n (fun j => f (d + j)) := by
  funext j
  unfold tr up
  by_cases e : j < n
  · simp [e, show d + j ≠ k by omega]
  · simp [e]
theorem tr_updS {n k d : Nat} (f : Nat → Int32) (v : Int32) (h : k < n) : upd (tr n (fun j => f (d + j))) k v = tr n (fun j => up f (d + k) v (d + j)) := by
  funext j
  unfold upd tr up
  by_cases e : j = k
  · subst e; simp [h]
  · simp [e, show ¬ d + j = d + k by omega]
def plantC (G : GG) (o : Nat) (y : Nat → Int32) : Nat → va_E
  | 0 => .inr (5, [.ref (bb G + (o + 1)), .int (y 65), .ref (bb G + (o + 2)), .ref (bb G + (o + 3)), .ref (bb G + (o + 4)), .ref (bb G + (o + 5)), .ref (bb G + (o + 7)), .int (y 6), .int (y 7)])
  | 1 => .inl (G.2.1 2, 5, .inr (.inr (.inr (.inr (fun j => some (bb G + (o + 8 + j)))))))
  | 2 => .inr (1, [.int (y 18), .int (y 20)])
  | 3 => .inr (1, [.int (y 19), .int (y 21)])
  | 4 => .inl (G.2.1 0, 6, .inl (tr 6 y))
  | 5 => .inr (7, [.ref (bb G + (o + 6)), .int (y 66), .int (y 13), .int (y 14), .int (y 15), .int (y 16), .int (y 17)])
  | 6 => .inl (G.2.1 0, 8, .inl (tr 8 (fun j => y (22 + j))))
  | 7 => .inr (3, [.int (y 8), .int (y 9), .int (y 10), .int (y 11), .int (y 12)])
  | i + 8 => .inr (0, [.int (y (30 + 7 * i)), .int (y (30 + 7 * i + 1)), .int (y (30 + 7 * i + 2)), .int (y (30 + 7 * i + 3)), .int (y (30 + 7 * i + 4)), .int (y (30 + 7 * i + 5)), .int (y (30 + 7 * i + 6))])
/-- in which of a plant's cells a place lies -/
def hm (k : Nat) : Nat := if k < 6 then 4 else if k < 8 then 0 else if k < 13 then 7 else if k < 18 then 5 else if k = 18 ∨ k = 20 then 2 else if k < 22 then 3 else if k < 30 then 6 else if k < 65 then 8 + (k - 30) / 7 else if k = 65 then 0 else 5
theorem plantC_other (G : GG) (o : Nat) (y : Nat → Int32) (k : Nat) (v : Int32) (j : Nat) (hj : j < 13) (hk : k ≤ 66) (h : j ≠ hm k) : plantC G o (up y k v) j = plantC G o y j := by
  have key : ∀ d : Nat, hm d = j → d ≤ 66 → up y k v d = y d := fun d h1 h2 => up_ne y v (fun e => h (by rw [← e]; exact h1.symm))
  match j, hj, h, key with
  | 0, _, _, key => simp only [plantC, key 65 rfl (by omega), key 6 rfl (by omega), key 7 rfl (by omega)]
  | 1, _, _, key => rfl
  | 2, _, _, key => simp only [plantC, key 18 rfl (by omega), key 20 rfl (by omega)]
  | 3, _, _, key => simp only [plantC, key 19 rfl (by omega), key 21 rfl (by omega)]
  | 4, _, h, key =>
    simp only [plantC]
    rw [tr_up y v (by
      unfold hm at h
      rcases Nat.lt_or_ge k 6 with q | q
      · simp [q] at h
      · exact q)]
  | 5, _, _, key => simp only [plantC, key 66 rfl (by omega), key 13 rfl (by omega), key 14 rfl (by omega), key 15 rfl (by omega), key 16 rfl (by omega), key 17 rfl (by omega)]
  | 6, _, h, key =>
    simp only [plantC]
    rw [tr_upS y v (by
      unfold hm at h
      rcases Nat.lt_or_ge k 22 with q | q
      · exact Or.inl q
      · rcases Nat.lt_or_ge k 30 with q2 | q2
        · exfalso; apply h; simp [show ¬ k < 6 by omega, show ¬ k < 8 by omega, show ¬ k < 13 by omega, show ¬ k < 18 by omega, show ¬ (k = 18 ∨ k = 20) by omega, show ¬ k < 22 by omega, q2]
        · exact Or.inr (by omega))]
  | 7, _, _, key => simp only [plantC, key 8 rfl (by omega), key 9 rfl (by omega), key 10 rfl (by omega), key 11 rfl (by omega), key 12 rfl (by omega)]
  | i + 8, hi, h, _ =>
    have key2 : ∀ f : Nat, f < 7 → up y k v (30 + 7 * i + f) = y (30 + 7 * i + f) := fun f hf => up_ne y v (fun e => h (by
      subst e
      unfold hm
      simp [show ¬ 30 + 7 * i + f < 6 by omega, show ¬ 30 + 7 * i + f < 8 by omega, show ¬ 30 + 7 * i + f < 13 by omega, show ¬ 30 + 7 * i + f < 18 by omega, show ¬ (30 + 7 * i + f = 18 ∨ 30 + 7 * i + f = 20) by omega, show ¬ 30 + 7 * i + f < 22 by omega, show ¬ 30 + 7 * i + f < 30 by omega]
      simp [show 30 + 7 * i + f < 65 by omega]
      omega))
    simp only [plantC, key2 1 (by omega), key2 2 (by omega), key2 3 (by omega), key2 4 (by omega), key2 5 (by omega), key2 6 (by omega)]
    rw [show up y k v (30 + 7 * i) = y (30 + 7 * i) from key2 0 (by omega)]
/-- the cells ahead of the first plant -/
def fixA (G : GG) (C : Mem) : Nat → va_E
  | 0 => .inr (8, [.ref (bb G + 1), .ref (bb G + 6), .ref (bb G + 19), .ref (bb G + 32), .ref (bb G + 216), .ref (bb G + 230)])
  | 1 => .inr (4, [.ref (bb G + 2), .int (C 18 1), .int (C 18 2), .int (C 18 3), .int (C 18 4), .int (C 18 5), .ref (bb G + 3), .ref (bb G + 4), .ref (bb G + 5), .int (C 18 9), .int (C 18 10)])
  | 2 => .inl (G.2.1 0, 60, .inl (tr 60 (C 19)))
  | 3 => .inl (G.2.1 0, 5, .inl (tr 5 (C 20)))
  | 4 => .inl (G.2.1 0, 5, .inl (tr 5 (C 21)))
  | _ => .inl (G.2.1 0, 8, .inl (tr 8 (C 22)))
def fixB (G : GG) (C : Mem) (a : Nat) : va_E :=
  if a = 32 then .inr (2, [.ref (bb G + 33), .int (C 23 1), .int (C 23 2)])
  else .inl (G.2.1 3, 14, .inr (.inr (.inr (.inr (fun j => some (bb G + (34 + 13 * j)))))))
def cellAt (G : GG) (C : Mem) (a : Nat) : va_E :=
  if a < 6 then fixA G C a
  else if a < 19 then plantC G 6 (C 0) (a - 6)
  else if a < 32 then plantC G 19 (C 1) (a - 19)
  else if a < 34 then fixB G C a
  else if a < 216 then plantC G (34 + 13 * ((a - 34) / 13)) (C (2 + (a - 34) / 13)) ((a - 34) % 13)
  else if a = 216 then .inr (6, [.ref (bb G + 217), .int (C 24 0)])
  else if a < 230 then plantC G 217 (C 16) (a - 217)
  else if a = 230 then .inr (6, [.ref (bb G + 231), .int (C 24 1)])
  else plantC G 231 (C 17) (a - 231)
theorem po_lt {q : Nat} (h : q < 18) : po q + 13 ≤ 244 ∧ 6 ≤ po q := by
  unfold po
  split
  · omega
  · split
    · omega
    · split
      · omega
      · split <;> omega
theorem cell_plant (G : GG) (C : Mem) {q j : Nat} (h : q < 18) (hj : j < 13) : cellAt G C (po q + j) = plantC G (po q) (C q) j := by
  by_cases h0 : q = 0
  · subst h0
    show cellAt G C (6 + j) = plantC G 6 (C 0) j
    unfold cellAt
    rw [if_neg (by omega), if_pos (by omega), show 6 + j - 6 = j by omega]
  by_cases h1 : q = 1
  · subst h1
    show cellAt G C (19 + j) = plantC G 19 (C 1) j
    unfold cellAt
    rw [if_neg (by omega), if_neg (by omega), if_pos (by omega), show 19 + j - 19 = j by omega]
  by_cases h2 : q < 16
  · have e : po q = 34 + 13 * (q - 2) := by unfold po; rw [if_neg h0, if_neg h1, if_pos h2]
    rw [e]
    unfold cellAt
    rw [if_neg (by omega), if_neg (by omega), if_neg (by omega), if_neg (by omega), if_pos (by omega)]
    rw [show (34 + 13 * (q - 2) + j - 34) / 13 = q - 2 by omega, show (34 + 13 * (q - 2) + j - 34) % 13 = j by omega, show 2 + (q - 2) = q by omega]
  by_cases h3 : q = 16
  · subst h3
    show cellAt G C (217 + j) = plantC G 217 (C 16) j
    unfold cellAt
    rw [if_neg (by omega), if_neg (by omega), if_neg (by omega), if_neg (by omega), if_neg (by omega), if_neg (by omega), if_pos (by omega), show 217 + j - 217 = j by omega]
  · have e : q = 17 := by omega
    subst e
    show cellAt G C (231 + j) = plantC G 231 (C 17) j
    unfold cellAt
    rw [if_neg (by omega), if_neg (by omega), if_neg (by omega), if_neg (by omega), if_neg (by omega), if_neg (by omega), if_neg (by omega), if_neg (by omega), show 231 + j - 231 = j by omega]
/-- a write at a place of a plant changes one cell -/
theorem cell_muP (G : GG) (C : Mem) {q k : Nat} (v : Int32) (h : q < 18) (hk : k ≤ 66) (a : Nat) (ha2 : a < 244) (ha : a ≠ po q + hm k) : cellAt G (mu C q k v) a = cellAt G C a := by
  have far : ∀ r : Nat, 18 ≤ r → mu C q k v r = C r := fun r hr => mu_ne C k v (by omega)
  have pl : ∀ (r o j : Nat), j < 13 → (r = q → j ≠ hm k) → plantC G o (mu C q k v r) j = plantC G o (C r) j := by
    intro r o j hj hne
    by_cases e : r = q
    · subst e
      rw [mu_same]
      exact plantC_other G o (C r) k v j hj hk (hne rfl)
    · rw [mu_ne C k v e]
  unfold cellAt
  by_cases c1 : a < 6
  · rw [if_pos c1, if_pos c1]
    match a, c1 with
    | 0, _ => rfl
    | 1, _ => simp only [fixA, far 18 (by omega)]
    | 2, _ => simp only [fixA, far 19 (by omega)]
    | 3, _ => simp only [fixA, far 20 (by omega)]
    | 4, _ => simp only [fixA, far 21 (by omega)]
    | 5, _ => simp only [fixA, far 22 (by omega)]
  rw [if_neg c1, if_neg c1]
  by_cases c2 : a < 19
  · rw [if_pos c2, if_pos c2]
    exact pl 0 _ _ (by omega) (fun e z => ha (by rw [← e]; show a = 6 + _; omega))
  rw [if_neg c2, if_neg c2]
  by_cases c3 : a < 32
  · rw [if_pos c3, if_pos c3]
    exact pl 1 _ _ (by omega) (fun e z => ha (by rw [← e]; show a = 19 + _; omega))
  rw [if_neg c3, if_neg c3]
  by_cases c4 : a < 34
  · rw [if_pos c4, if_pos c4]
    unfold fixB
    rw [far 23 (by omega)]
  rw [if_neg c4, if_neg c4]
  by_cases c5 : a < 216
  · rw [if_pos c5, if_pos c5]
    refine pl _ _ _ (by omega) (fun e z => ha ?_)
    have e2 : po q = 34 + 13 * (q - 2) := by unfold po; rw [if_neg (by omega), if_neg (by omega), if_pos (by omega)]
    rw [e2]; omega
  rw [if_neg c5, if_neg c5]
  by_cases c6 : a = 216
  · rw [if_pos c6, if_pos c6, far 24 (by omega)]
  rw [if_neg c6, if_neg c6]
  by_cases c7 : a < 230
  · rw [if_pos c7, if_pos c7]
    exact pl 16 _ _ (by omega) (fun e z => ha (by rw [← e]; show a = 217 + _; omega))
  rw [if_neg c7, if_neg c7]
  by_cases c8 : a = 230
  · rw [if_pos c8, if_pos c8, far 24 (by omega)]
  rw [if_neg c8, if_neg c8]
  exact pl 17 _ _ (by omega) (fun e z => ha (by rw [← e]; show a = 231 + _; omega))
/-- where a place of the other regions lies -/
def hmF (r k : Nat) : Nat := if r = 18 then 1 else if r = 19 then 2 else if r = 20 then 3 else if r = 21 then 4 else if r = 22 then 5 else if r = 23 then 32 else (if k = 0 then 216 else 230)
theorem cell_muF (G : GG) (C : Mem) {r k : Nat} (v : Int32) (h : 18 ≤ r) (hk : r = 24 → k ≤ 1) (a : Nat) (ha2 : a < 244) (ha : a ≠ hmF r k) : cellAt G (mu C r k v) a = cellAt G C a := by
  have near : ∀ q : Nat, q < 18 → mu C r k v q = C q := fun q hq => mu_ne C k v (by omega)
  have oth : ∀ q : Nat, q ≠ r → mu C r k v q = C q := fun q hq => mu_ne C k v hq
  unfold cellAt
  by_cases c1 : a < 6
  · rw [if_pos c1, if_pos c1]
    match a, c1, ha with
    | 0, _, _ => rfl
    | 1, _, ha => simp only [fixA, oth 18 (fun e => ha (by rw [← e]; rfl))]
    | 2, _, ha => simp only [fixA, oth 19 (fun e => ha (by rw [← e]; rfl))]
    | 3, _, ha => simp only [fixA, oth 20 (fun e => ha (by rw [← e]; rfl))]
    | 4, _, ha => simp only [fixA, oth 21 (fun e => ha (by rw [← e]; rfl))]
    | 5, _, ha => simp only [fixA, oth 22 (fun e => ha (by rw [← e]; rfl))]
  rw [if_neg c1, if_neg c1, near 0 (by omega), near 1 (by omega), near 16 (by omega), near 17 (by omega)]
  by_cases c2 : a < 19
  · rw [if_pos c2, if_pos c2]
  rw [if_neg c2, if_neg c2]
  by_cases c3 : a < 32
  · rw [if_pos c3, if_pos c3]
  rw [if_neg c3, if_neg c3]
  by_cases c4 : a < 34
  · rw [if_pos c4, if_pos c4]
    unfold fixB
    by_cases d : a = 32
    · rw [if_pos d, if_pos d, oth 23 (fun e => ha (by rw [← e, d]; rfl))]
    · rw [if_neg d, if_neg d]
  rw [if_neg c4, if_neg c4]
  by_cases c5 : a < 216
  · rw [if_pos c5, if_pos c5, near _ (by omega)]
  rw [if_neg c5, if_neg c5]
  have s24 : ∀ i : Nat, i ≤ 1 → a = (if i = 0 then 216 else 230) → mu C r k v 24 i = C 24 i := by
    intro i hi hai
    by_cases e : (24 : Nat) = r
    · subst e
      rw [mu_same]
      refine up_ne _ _ (fun z => ha ?_)
      rw [← z, hai]; rfl
    · rw [oth 24 e]
  by_cases c6 : a = 216
  · rw [if_pos c6, if_pos c6, s24 0 (by omega) c6]
  rw [if_neg c6, if_neg c6]
  by_cases c7 : a < 230
  · rw [if_pos c7, if_pos c7]
  rw [if_neg c7, if_neg c7]
  by_cases c8 : a = 230
  · rw [if_pos c8, if_pos c8, s24 1 (by omega) c8]
  rw [if_neg c8, if_neg c8]
end
section
/-! what the tables and the cells ahead of the world give, at any state of the run; the rows of the machine over the world -/
theorem inX0g : ∀ w ∈ u_ws RX0 TX0 7, w ∈ lw_g := by decide +kernel
theorem inX1g : ∀ w ∈ u_ws RX1 TX1 2, w ∈ lw_g := by decide +kernel
theorem inX2g : ∀ w ∈ u_ws RX2 TX2 3, w ∈ lw_g := by decide +kernel
theorem inX3g : ∀ w ∈ u_ws RX3 TX3 5, w ∈ lw_g := by decide +kernel
theorem inX4g : ∀ w ∈ u_ws RX4 TX4 11, w ∈ lw_g := by decide +kernel
theorem inX5g : ∀ w ∈ u_ws RX5 TX5 9, w ∈ lw_g := by decide +kernel
theorem inX6g : ∀ w ∈ u_ws RX6 TX6 2, w ∈ lw_g := by decide +kernel
theorem inX7g : ∀ w ∈ u_ws RX7 TX7 7, w ∈ lw_g := by decide +kernel
theorem inX8g : ∀ w ∈ u_ws RX8 TX8 6, w ∈ lw_g := by decide +kernel
abbrev tysG (G : GG) : List (ClassId × FieldType) := [(G.2.1 0, .int), (G.2.1 0, .int), (G.2.1 2, .object RX0), (G.2.1 3, .object RX5)]
def kLeast : Nat → Int32
  | 0 => 40
  | 1 => 1
  | 2 => 1
  | 3 => 60
  | 4 => 1
  | _ => 0
def kMost : Nat → Int32
  | 0 => 80
  | 1 => 9
  | 2 => 5
  | 3 => 90
  | 4 => 9
  | _ => 23
def kFirst : Nat → Int32
  | 0 => 60
  | 1 => 3
  | 2 => 2
  | 3 => 70
  | 4 => 2
  | _ => 2
def xN (e : Nat) : String := if e = 1 then "java/lang/IllegalArgumentException" else if e = 2 then "java/lang/IllegalStateException" else "java/lang/IndexOutOfBoundsException"
def xS (X : String) : MethodName := ⟨X, "<init>", "(Ljava/lang/String;)V"⟩
def strs : List (Nat × String) := [(315, "an argument is out of its range"), (57, "the text is full"), (70, "the text tells no cascade"), (324, "there is no such boiler"), (317, "there is no such flue"), (187, "there is no such layer"), (230, "no such setting, or not in its range"), (237, "the boiler is locked already"), (242, "the boiler is not locked"), (244, "the boiler is not on standby"), (250, "no state is remembered"), (295, "the script is negative or too long"), (319, "there is no such save slot"), (313, "nothing is saved in this slot")]
def stZ (G : GG) (U : State) (n : String) (i : Nat) (k : Nat → Int32) : Prop := va_Z RX8 n "[I" (.ref (G.2.2.2.1 i)) (frA G) U G.2.2.1 ∧ va_T .int (G.2.2.2.1 i) 6 (fun j => .int (k j)) (frA G) U G.2.2.1
def TT (G : GG) (U : State) : Prop :=
  va_K G.1 vwCl (tysG G) U ∧ stZ G U "LEAST_SETTING" 0 kLeast ∧ stZ G U "MOST_SETTING" 1 kMost ∧ stZ G U "FIRST_SETTING" 2 kFirst ∧
  vx_Zq Bundle.tN "UNASSIGNED_STACK" Bundle.steD (frA G) U G.2.2.1 ∧ vx_Zq Bundle.tN "SUPPRESSED_SENTINEL" Bundle.listD (frA G) U G.2.2.1 ∧
  (∀ q ∈ strs, ∃ a, vk_R RX8 q.1 q.2 a U) ∧ (∀ e : Nat, va_Nw (.castable (xN e) (xN e)) U) ∧ (∀ e f : Nat, 1 ≤ e → e ≤ 3 → 1 ≤ f → f ≤ 3 → e ≠ f → va_Nc (xN e) (xN f) U) ∧
  va_Nw (.fieldLinkNest RX5 79 RX8 "FIRST_SETTING" "[I" RX8) U ∧ (va_Nw (.declares (xS "java/lang/RuntimeException")) U ∧ va_Nw (.declares (xS "java/lang/Exception")) U ∧ va_Nw (.declares (xS "java/lang/Throwable")) U)
theorem stZ.moved {G : GG} {n : String} {i : Nat} {k : Nat → Int32} {u U : State} (h : u.vm.Alike U.vm) (z : stZ G u n i k) : stZ G U n i k := ⟨va_Z.moved h z.1, va_T.moved h z.2⟩
theorem TT.warm {G : GG} {s U : State} (hW : s.WarmedH U.vm) (h : TT G s) : TT G U := by
  obtain ⟨h1, h2, h3, h4, h5, h6, h7, h8, h9, h10, h11, h12, h13⟩ := h
  refine ⟨va_K.moved hW.alike h1, h2.moved hW.alike, h3.moved hW.alike, h4.moved hW.alike, vx_Zq.moved hW.alike h5, vx_Zq.moved hW.alike h6, fun q hq => ?_, fun e => va_Nw.warmC hW (h8 e), fun e f a1 a2 a3 a4 a5 => va_Nc.moved hW.alike (h9 e f a1 a2 a3 a4 a5), va_Nw.warmF hW h10, va_Nw.warmD hW h11, va_Nw.warmD hW h12, va_Nw.warmD hW h13⟩
  obtain ⟨a, ha⟩ := h7 q hq
  exact ⟨a, vk_R.warm hW ha⟩
/-- the object's cells stand; all else below base + n is as in G's heap -/
def Wd (G : GG) (n : Nat) (C : Mem) (H : Heap) : Prop := bb G + n ≤ H.size ∧ (∀ a, a < bb G + n → (a < bb G ∨ bb G + 244 ≤ a) → H[a]? = G.2.2.1[a]?) ∧ ∀ a, a < n → a < 244 → va_at G.1 vwCl (bb G + a, cellAt G C a) H
theorem Wd.ah {G : GG} {n : Nat} {C : Mem} {H : Heap} (hw : Wd G n C H) {a : Nat} (h : a < bb G) : H[a]? = G.2.2.1[a]? := hw.2.1 a (by omega) (Or.inl h)
theorem Wd.one {G : GG} {n : Nat} {C : Mem} {H : Heap} (hw : Wd G n C H) {a : Nat} {e : va_E} (ha : a < n ∧ a < 244) (he : cellAt G C a = e) : va_P G.1 vwCl [(bb G + a, e)] H := by
  intro k q hk
  match k, hk with
  | 0, hk =>
    cases hk
    rw [← he]
    exact hw.2.2 a ha.1 ha.2
theorem Wd.put {G : GG} {n : Nat} {C C1 : Mem} {H H1 : Heap} (hw : Wd G n C H) {a : Nat} (ha : a < 244) (hz : H1.size = H.size) (oq : ∀ q, q ≠ bb G + a → H1[q]? = H[q]?) (hs : va_at G.1 vwCl (bb G + a, cellAt G C1 a) H1) (ho : ∀ q, q < 244 → q ≠ a → cellAt G C1 q = cellAt G C q) : Wd G n C1 H1 := by
  refine ⟨by rw [hz]; exact hw.1, fun q hq h => ?_, fun q hq h => ?_⟩
  · rw [oq q (by omega)]
    exact hw.2.1 q hq h
  · by_cases e : q = a
    · rw [e]; exact hs
    · rw [ho q h e]
      exact (hw.2.2 q hq h).kept (oq _ (by simp only; omega))
/-- nothing ahead of the world was written; what the frame says of it -/
abbrev LW (G : GG) (s : State) (H : Heap) (locs : List Loc) : Prop := va_S (frA G) s.heap H locs
/-- the context of a walk -/
def Cx (p : Program) (s : State) (m : MethodId) (args : Array Value) (c : Code) (cc : ByteArray) (own : String) (nL : Nat) (G : GG) : Prop :=
  p.tables.exec = Jvm.exec ∧ c.code = cc ∧ c.maxLocals = nL ∧ s.vm.findClass own = some m.cls ∧ (∀ w ∈ lw_g, w.before args s = true) ∧ TT G s ∧ bb G ≤ s.heap.size ∧ ∀ a, a < bb G → s.heap[a]? = G.2.2.1[a]?
section ROWS
variable {p : Program} {l : Launch} {e : Env} {R : Room} {s : State} {m : MethodId} {args : Array Value} {below : List Frame} {meth : Method} {c : Code} {H : Heap} {locs : List Loc} {cells slots : Nat} {Q : State → Prop}
variable {cc : ByteArray} {pc : Nat} {ls : Array Slot} {rest : List Value} {own : String} {nL : Nat} {G : GG} {n : Nat} {C : Mem}
theorem m_get (hC : Cx p s m args c cc own nL G) (hw : Wd G n C H) {Cn : String} {T : u_T} {N ci index a : Nat} {fs : List Value} (hin : ∀ w ∈ u_ws Cn T N, w ∈ lw_g) (hc : vwCl[ci]? = some (Cn, T, N)) (ha : a < n ∧ a < 244) (he : cellAt G C a = .inr (ci, fs)) (k : Nat) (hk : k < N) (hlink : Cond.fieldLink own index (T k).1 (T k).2.1 (T k).2.2.1 ∈ lw_g) {v : Value} (hv : fs[k]? = some v) (hdg : decode cc pc = .ok (.getfield index, 3))
    (kk : W p l e R s m args below meth c H locs cells slots Q (F0 m (pc + 3) ls (v :: rest))) : W p l e R s m args below meth c H locs cells slots Q (F0 m pc ls (.ref (bb G + a) :: rest)) :=
  va_get hC.1 hC.2.1 hC.2.2.2.2.1 hin hC.2.2.2.1 hC.2.2.2.2.2.1.1 (hw.one ha he) 0 rfl hc k hk (hC.2.2.2.2.1 _ hlink) (fun _ h => h) hv hdg kk
theorem m_put (hC : Cx p s m args c cc own nL G) (hw : Wd G n C H) (hS : LW G s H locs) {Cn : String} {T : u_T} {N ci index a : Nat} {fs : List Value} (hin : ∀ w ∈ u_ws Cn T N, w ∈ lw_g) {ty0 : Nat → FieldType} (hty : ∀ k, k < N → parseFieldDescriptor (T k).2.2.1 = some (ty0 k)) (hnm : ∀ a, a < N → ∀ b, b < N → a ≠ b → (T a).2.1 ≠ (T b).2.1) (hc : vwCl[ci]? = some (Cn, T, N)) (ha : a < n ∧ a < 244) (he : cellAt G C a = .inr (ci, fs)) (k : Nat) (hk : k < N) (hlink : Cond.fieldLink own index (T k).1 (T k).2.1 (T k).2.2.1 ∈ lw_g) (hfin : (T k).2.2.2 = false) {v : Value} (hn : narrow (ty0 k) v = v) (hfit : fits (ty0 k) v = true) (hl : k < fs.length)
    {C1 : Mem} (hs : cellAt G C1 a = .inr (ci, fs.set k v)) (ho : ∀ q, q < 244 → q ≠ a → cellAt G C1 q = cellAt G C q) (hdg : decode cc pc = .ok (.putfield index, 3))
    (kk : ∀ (H1 : Heap) (locs1 : List Loc), Wd G n C1 H1 → LW G s H1 locs1 → H1.size = H.size → W p l e R s m args below meth c H1 locs1 cells slots Q (F0 m (pc + 3) ls rest)) : W p l e R s m args below meth c H locs cells slots Q (F0 m pc ls (v :: .ref (bb G + a) :: rest)) := by
  obtain ⟨hx, hb, -, hown, hts, hT, -⟩ := hC
  have hK := hT.1
  have hap := va_apart (own := own) hts hin ty0 hty hnm hK hc
  obtain ⟨r, h1, cell, q1, q2, q3, q4⟩ := hw.one ha he 0 _ rfl
  have hr : r = (Cn, T, N) := Option.some.inj (h1.symm.trans hc)
  subst hr
  obtain ⟨hSl, hfc, kC, hkC, hkind⟩ := hK.1 ci _ hc
  obtain ⟨cf, kf, fi, f, hi, hsl⟩ := hSl k hk
  have hlay := hts _ (hin _ (u_in_lay hk))
  unfold u_lay at hlay
  rw [if_neg (by rw [hfin]; decide)] at hlay
  have hst := (u_facts hfc hkC (u_lays hts hin hk) hi).1
  have h6 := u_store hfc hkC hkind hlay hi (hty k hk) hn hfit
  refine W.putK hx hb (f := f) ⟨hown, hts _ hlink, ⟨_, _, _, hi⟩, hst⟩ (by rw [q2]; exact h6) q1 q3 (by rw [hsl]; exact k2_hasslot (q4 k hk)) rfl rfl hdg fun H' e1 e2 e3 => ?_
  rw [hsl] at e1 ⊢
  refine kk H' _ (hw.put ha.2 e2 e3 ?_ ho) (hS.put e2 e3 (Nat.le_add_right _ _)) e2
  rw [hs]
  exact ⟨_, hc, t_OB.to (V := updV (vp_V fs) k v) ⟨_, e1, q2, q3, t_set q4 hap hk v⟩ (fun j _ => vp_updV_set hl v j)⟩
theorem m_iald (hC : Cx p s m args c cc own nL G) (hw : Wd G n C H) {a N : Nat} {f : Nat → Int32} (ha : a < n ∧ a < 244) (he : cellAt G C a = .inl (G.2.1 0, N, .inl f)) {i : Int32} (hin : vp_in i N) (hdg : decode cc pc = .ok (.iaload, 1))
    (kk : W p l e R s m args below meth c H locs cells slots Q (F0 m (pc + 1) ls (.int (f i.toNatClampNeg) :: rest))) : W p l e R s m args below meth c H locs cells slots Q (F0 m pc ls (.int i :: .ref (bb G + a) :: rest)) :=
  va_iald hC.1 hC.2.1 hC.2.2.2.2.2.1.1 (hw.one ha he) 0 0 rfl rfl hin hdg kk
theorem m_alen (hC : Cx p s m args c cc own nL G) (hw : Wd G n C H) {a t0 : Nat} {cA : ClassId} {ty : FieldType} {x : vp_A} (ha : a < n ∧ a < 244) (he : cellAt G C a = .inl (cA, x)) (ht : (tysG G)[t0]? = some (cA, ty)) {v : Int32} (hv : Int32.ofNat x.1 = v) (hdg : decode cc pc = .ok (.arraylength, 1))
    (kk : W p l e R s m args below meth c H locs cells slots Q (F0 m (pc + 1) ls (.int v :: rest))) : W p l e R s m args below meth c H locs cells slots Q (F0 m pc ls (.ref (bb G + a) :: rest)) :=
  va_alen hC.1 hC.2.1 hC.2.2.2.2.2.1.1 (hw.one ha he) 0 t0 rfl ht hv hdg kk
theorem m_aald (hC : Cx p s m args c cc own nL G) (hw : Wd G n C H) {a N t0 : Nat} {cA : ClassId} {Cn : String} {f : Nat → Nat} (ha : a < n ∧ a < 244) (he : cellAt G C a = .inl (cA, N, .inr (.inr (.inr (.inr (fun j => some (f j))))))) (ht : (tysG G)[t0]? = some (cA, .object Cn)) {i : Int32} (hin : vp_in i N) (hdg : decode cc pc = .ok (.aaload, 1))
    (kk : W p l e R s m args below meth c H locs cells slots Q (F0 m (pc + 1) ls (.ref (f i.toNatClampNeg) :: rest))) : W p l e R s m args below meth c H locs cells slots Q (F0 m pc ls (.int i :: .ref (bb G + a) :: rest)) :=
  va_aldq hC.1 hC.2.1 hC.2.2.2.2.2.1.1 (hw.one ha he) 0 t0 rfl ht hin hdg kk
theorem vp_lt {i : Int32} {N : Nat} (h : vp_in i N) : i.toNatClampNeg < N := Nat.not_le.mp fun q => h (Or.inr q)
theorem m_iast (hC : Cx p s m args c cc own nL G) (hw : Wd G n C H) (hS : LW G s H locs) {a N : Nat} {f : Nat → Int32} (ha : a < n ∧ a < 244) (he : cellAt G C a = .inl (G.2.1 0, N, .inl f)) {i x : Int32} (hin : vp_in i N) {C1 : Mem} (hs : cellAt G C1 a = .inl (G.2.1 0, N, .inl (upd f i.toNatClampNeg x))) (ho : ∀ q, q < 244 → q ≠ a → cellAt G C1 q = cellAt G C q) (hdg : decode cc pc = .ok (.iastore, 1))
    (kk : ∀ (H1 : Heap) (locs1 : List Loc), Wd G n C1 H1 → LW G s H1 locs1 → H1.size = H.size → W p l e R s m args below meth c H1 locs1 cells slots Q (F0 m (pc + 1) ls rest)) : W p l e R s m args below meth c H locs cells slots Q (F0 m pc ls (.int x :: .int i :: .ref (bb G + a) :: rest)) := by
  obtain ⟨hx, hb, -, hown, hts, hT, -⟩ := hC
  refine W.iast hx hb (hw.one ha he 0 _ rfl) ((hT.1.2 0 _ rfl).1 N (fun j => .int (f j))) (fun q => by cases q) (by show ¬ (i < 0 ∨ (arrV _ _ _).slots.size ≤ _); rw [arrV_size]; exact hin) rfl rfl hdg fun H1 e1 z oq => ?_
  refine kk H1 _ (hw.put ha.2 z oq ?_ ho) (hS.put z oq (Nat.le_add_right _ _)) z
  rw [hs]
  show H1[_]? = some (vp_cell _ _)
  rw [e1, vp_cell_i, vp_cell_i, arrV_store]
  congr 2
  funext q
  by_cases hq : q = i.toNatClampNeg
  · subst hq
    simp [updV, upd]
  · simp [updV, upd, hq]
/-- a static row of settings, read -/
theorem m_sald (hC : Cx p s m args c cc own nL G) (hS : LW G s H locs) {t N : Nat} {f : Nat → Int32} (hT : va_T .int t N (fun j => .int (f j)) (frA G) s G.2.2.1) {i : Int32} (hin : vp_in i N) (hdg : decode cc pc = .ok (.iaload, 1))
    (kk : W p l e R s m args below meth c H locs cells slots Q (F0 m (pc + 1) ls (.int (f i.toNatClampNeg) :: rest))) : W p l e R s m args below meth c H locs cells slots Q (F0 m pc ls (.int i :: .ref t :: rest)) :=
  va_ti hC.1 hC.2.1 (va_T.kept hT (fun a _ h => hC.2.2.2.2.2.2.2 a (Nat.not_le.mp h))) hS hin rfl hdg kk
theorem m_gets (hC : Cx p s m args c cc own nL G) (hS : LW G s H locs) {nm : String} {t index : Nat} (hZ : va_Z RX8 nm "[I" (.ref t) (frA G) s G.2.2.1) (hlink : Cond.fieldLink own index RX8 nm "[I" ∈ lw_g) (hdg : decode cc pc = .ok (.getstatic index, 3))
    (kk : W p l e R s m args below meth c H locs cells slots Q (F0 m (pc + 3) ls (.ref t :: rest))) : W p l e R s m args below meth c H locs cells slots Q (F0 m pc ls rest) :=
  va_gets hC.1 hC.2.1 (va_Z.kept hZ (fun a _ h => hC.2.2.2.2.2.2.2 a (Nat.not_le.mp h))) hS hC.2.2.2.1 (hC.2.2.2.2.1 _ hlink) (fun _ h => h) hdg kk
theorem m_getsN (hC : Cx p s m args c cc RX5 nL G) (hS : LW G s H locs) (hdg : decode cc pc = .ok (.getstatic 79, 3))
    (kk : W p l e R s m args below meth c H locs cells slots Q (F0 m (pc + 3) ls (.ref (G.2.2.2.1 2) :: rest))) : W p l e R s m args below meth c H locs cells slots Q (F0 m pc ls rest) :=
  va_getsN hC.1 hC.2.1 (va_Z.kept hC.2.2.2.2.2.1.2.2.2.1.1 (fun a _ h => hC.2.2.2.2.2.2.2 a (Nat.not_le.mp h))) hS hC.2.2.2.1 (va_Nw.use rfl hC.2.2.2.2.2.1.2.2.2.2.2.2.2.2.2.1) (fun _ h => h) hdg kk
end ROWS
end
section
/-! contracts over the world, calls by them, ends -/
theorem lg_hot {w : Cond} (h : w ∈ lw_g) : goodWord w = true := (List.mem_filter.mp h).2
abbrev wsG (y : MethodName) (bytes : ByteArray) (maxL : Nat) (ret : Option FieldType) : List Cond := Cond.code y bytes maxL ret :: lw_g
abbrev rmN (f n : Nat) : Room := { frames := f, cells := 0, slots := 0, locals := n }
abbrev rmX (f n mc ms : Nat) : Room := { frames := f, cells := mc, slots := ms, locals := n }
def PC (G : GG) (n : Nat) (C : Mem) (av : List Value) : Array Value → State → Prop := fun v U => v = av.toArray ∧ Wd G n C U.heap ∧ TT G U
theorem PC.blind {G : GG} {n : Nat} {C : Mem} {av : List Value} : FrameBlind (PC G n C av) := fun _ U g mk h => ⟨h.1, h.2.1, TT.warm (s := U) (U := U.calling g mk _) (State.WarmedH.refl U) h.2.2⟩
/-- it returns r, the memory is C1 -/
def QR (G : GG) (n : Nat) (r : Option Value) (C1 : Mem) : Array Value → State → Outcome → State → Prop := fun _ st o t => o = .returned r ∧ Wd G n C1 t.heap ∧ st.heap.size ≤ t.heap.size
def Ct (l : Launch) (y : MethodName) (bytes : ByteArray) (maxL : Nat) (ret : Option FieldType) (rm : Room) (G : GG) (n : Nat) (C : Mem) (av : List Value) (r : Option Value) (C1 : Mem) : Prop := Met l y (wsG y bytes maxL ret) rm (PC G n C av) (QR G n r C1) 0 0 (frA G)
/-- an answer, or an exception by its number -/
abbrev Rs : Type := Int32 ⊕ Nat
def QX (G : GG) (n : Nat) (rv : Int32 → Option Value) (o : Rs) (C1 : Mem) : Array Value → State → Outcome → State → Prop := fun _ st oc t => ∃ v, o = .inl v ∧ oc = .returned (rv v) ∧ Wd G n C1 t.heap ∧ st.heap.size ≤ t.heap.size
def XX (G : GG) (n : Nat) (o : Rs) (C1 : Mem) : String → State → State → Prop := fun E st t => ∃ k, o = .inr k ∧ 1 ≤ k ∧ k ≤ 3 ∧ E = xN k ∧ Wd G n C1 t.heap ∧ st.heap.size ≤ t.heap.size
def CtX (l : Launch) (y : MethodName) (bytes : ByteArray) (maxL : Nat) (ret : Option FieldType) (rm : Room) (mc ms : Nat) (G : GG) (n : Nat) (C : Mem) (av : List Value) (rv : Int32 → Option Value) (o : Rs) (C1 : Mem) : Prop := vx_Met l y (wsG y bytes maxL ret) rm (PC G n C av) (QX G n rv o C1) (XX G n o C1) mc ms (frA G)
/-- the words of a call -/
def WV (own : String) (index : Nat) (y : MethodName) (bytes : ByteArray) (maxL : Nat) (ret : Option FieldType) (na : Nat) : Prop :=
  Cond.methodLink own index y ∈ lw_g ∧ Cond.instanceMethod y ∈ lw_g ∧ Cond.selects y.cls y y ∈ lw_g ∧ Cond.initialized y.cls ∈ lw_g ∧ Cond.code y bytes maxL ret ∈ lw_g ∧ (y.cls ≠ "java/lang/invoke/MethodHandle" ∧ y.cls ≠ "java/lang/invoke/VarHandle") ∧ (parseMethodDescriptor y.desc).map (fun d => d.parameters.length) = some na
def WS (own : String) (index : Nat) (y : MethodName) (bytes : ByteArray) (maxL : Nat) (ret : Option FieldType) (na : Nat) : Prop :=
  Cond.methodLink own index y ∈ lw_g ∧ Cond.static y ∈ lw_g ∧ Cond.initialized y.cls ∈ lw_g ∧ Cond.code y bytes maxL ret ∈ lw_g ∧ (y.cls ≠ "java/lang/invoke/MethodHandle" ∧ y.cls ≠ "java/lang/invoke/VarHandle") ∧ (parseMethodDescriptor y.desc).map (fun d => d.parameters.length) = some na
section CALLS
variable {p : Program} {l : Launch} {e : Env} {R : Room} {s : State} {m : MethodId} {args : Array Value} {below : List Frame} {meth : Method} {c : Code} {H : Heap} {locs : List Loc} {cells slots : Nat} {Q : State → Prop}
variable {cc : ByteArray} {pc : Nat} {ls : Array Slot} {rest st0 As : List Value} {own : String} {nL : Nat} {G : GG} {n : Nat} {C C1 : Mem} {index na mc ms maxL : Nat} {y : MethodName} {bytes : ByteArray} {ret : Option FieldType} {rm : Room} {r : Option Value} {o : Rs} {rv : Int32 → Option Value} {a : Array Value}
theorem lg_warm (h : ∀ w ∈ lw_g, w.before args s = true) : ∀ w ∈ lw_g, ∀ (a' : Array Value) (U : State), s.WarmedH U.vm → w.before a' U = true := fun w hw _ _ hW => word_at hW (good_of_word (lg_hot hw)) (h w hw)
theorem WV.b (hV : WV own index y bytes maxL ret na) (h : ∀ w ∈ lw_g, w.before args s = true) (hR : rm.cells = mc ∧ rm.slots = ms ∧ rm.frames + 1 ≤ R.frames ∧ 8 + (maxL + 11) + rm.locals ≤ R.locals) : CallW R s args own y.cls index y bytes maxL ret (wsG y bytes maxL ret) rm mc ms na := by
  obtain ⟨h1, h2, h3, h4, h5, h6, h7⟩ := hV
  refine ⟨⟨hR.1, hR.2.1, hR.2.2.1, hR.2.2.2, fun w hw => ?_, List.mem_cons_self, h _ h5, h _ h4, h6, fun sig hs => ?_, h _ h1⟩, h _ h2, h _ h3⟩
  · rcases List.mem_cons.mp hw with rfl | hw
    · exact lg_warm h _ h5
    · exact lg_warm h _ hw
  · rw [hs] at h7
    exact (Option.some.inj h7).symm
theorem WS.b (hV : WS own index y bytes maxL ret na) (h : ∀ w ∈ lw_g, w.before args s = true) (hR : rm.cells = mc ∧ rm.slots = ms ∧ rm.frames + 1 ≤ R.frames ∧ 8 + (maxL + 11) + rm.locals ≤ R.locals) : CallB R s args own index y bytes maxL ret (wsG y bytes maxL ret) rm mc ms na ∧ (Cond.static y).before args s = true := by
  obtain ⟨h1, h2, h4, h5, h6, h7⟩ := hV
  refine ⟨⟨hR.1, hR.2.1, hR.2.2.1, hR.2.2.2, fun w hw => ?_, List.mem_cons_self, h _ h5, h _ h4, h6, fun sig hs => ?_, h _ h1⟩, h _ h2⟩
  · rcases List.mem_cons.mp hw with rfl | hw
    · exact lg_warm h _ h5
    · exact lg_warm h _ hw
  · rw [hs] at h7
    exact (Option.some.inj h7).symm
theorem LW.call (hw : Wd G n C H) (hS : LW G s H locs) (hbs : bb G ≤ s.heap.size) {H1 : Heap} {L : List Loc} (h1 : Wd G n C1 H1) (hz : H.size ≤ H1.size) (hL : ∀ q ∈ L, frA G q.base) : LW G s H1 (locs ++ L) := by
  refine ⟨Nat.le_trans hS.1 hz, fun q hq hn => ?_, fun q hq => ?_⟩
  · have hb : q < bb G := Nat.not_le.mp hn
    rw [h1.ah hb, ← hw.ah hb]
    exact hS.2.1 q hq hn
  · rcases List.mem_append.mp hq with h | h
    · exact hS.2.2 q h
    · exact hL q h
theorem m_call (hr : va_Run p l e R s m args below meth c H locs cells slots 0 0 (F0 m pc ls st0) rest (QR G n r C1 a) (frA G)) (hC : Cx p s m args c cc own nL G) (hw : Wd G n C H) (hS : LW G s H locs)
    (kk : ∀ (H1 : Heap) (locs1 : List Loc), Wd G n C1 H1 → LW G s H1 locs1 → H.size ≤ H1.size ∧ H1.size ≤ s.heap.size + cells → W p l e R s m args below meth c H1 locs1 cells slots Q (F0 m (pc + 3) ls (r.toList ++ rest))) : W p l e R s m args below meth c H locs cells slots Q (F0 m pc ls st0) := by
  intro T hT X
  obtain ⟨v, st₀, t, T', L, h0, X', hL, e1, e2, ⟨hv, hwd, hz⟩, st⟩ := hr T hT X
  cases hv
  rw [h0, ← e1] at hz
  rw [← e1] at hwd
  obtain ⟨t2, a1, b1⟩ := kk T'.heap (locs ++ L) hwd (hS.call hw hC.2.2.2.2.2.2.1 hwd hz hL) ⟨hz, X'.heapSize⟩ T' rfl X'
  exact ⟨t2, st t2 a1, b1⟩
theorem call_V {q0 : Nat} (hC : Cx p s m args c cc own nL G) (hM : Ct l y bytes maxL ret rm G n C (.ref (bb G + q0) :: As) r C1) (hV : WV own index y bytes maxL ret na) (hR : rm.cells = 0 ∧ rm.slots = 0 ∧ rm.frames + 1 ≤ R.frames ∧ 8 + (maxL + 11) + rm.locals ≤ R.locals) (hw : Wd G n C H) (hS : LW G s H locs) {ci N : Nat} {T : u_T} {fs : List Value} (ha : q0 < n ∧ q0 < 244) (he : cellAt G C q0 = .inr (ci, fs)) (hc : vwCl[ci]? = some (y.cls, T, N)) (hls : ls.size = nL) (hna : As.length = na) (hst : st0 = As.reverse ++ .ref (bb G + q0) :: rest) (hWd : (rest.map fun v => v.category).sum ≤ 8) (hdg : decode cc pc = .ok (.invokevirtual index, 3)) (hf : cells + 0 ≤ R.cells ∧ slots + 0 ≤ R.slots)
    (kk : ∀ (H1 : Heap) (locs1 : List Loc), Wd G n C1 H1 → LW G s H1 locs1 → H.size ≤ H1.size ∧ H1.size ≤ s.heap.size + cells → W p l e R s m args below meth c H1 locs1 cells slots Q (F0 m (pc + 3) ls (r.toList ++ rest))) : W p l e R s m args below meth c H locs cells slots Q (F0 m pc ls st0) := by
  subst hst
  have hK := va_recv hC.2.2.2.2.2.1.1 (hw.one ha he) (q0 := 0) hc rfl
  exact m_call (va_runV (As := As) (rest := rest) ⟨hC.1, hC.2.1, hC.2.2.1, hC.2.2.2.1, hC.2.2.2.2.1⟩ hM (hV.b hC.2.2.2.2.1 hR) ⟨PC.blind, hK, fun U hU hW => ⟨rfl, by rw [hU]; exact hw, hC.2.2.2.2.2.1.warm hW⟩⟩ rfl hna hls rfl (lv_room hWd) hdg hf) hC hw hS kk
theorem call_S (hC : Cx p s m args c cc own nL G) (hM : Ct l y bytes maxL ret rm G n C As r C1) (hV : WS own index y bytes maxL ret na) (hR : rm.cells = 0 ∧ rm.slots = 0 ∧ rm.frames + 1 ≤ R.frames ∧ 8 + (maxL + 11) + rm.locals ≤ R.locals) (hw : Wd G n C H) (hS : LW G s H locs) (hls : ls.size = nL) (hna : As.length = na) (hst : st0 = As.reverse ++ rest) (hWd : (rest.map fun v => v.category).sum ≤ 8) (hdg : decode cc pc = .ok (.invokestatic index, 3)) (hf : cells + 0 ≤ R.cells ∧ slots + 0 ≤ R.slots)
    (kk : ∀ (H1 : Heap) (locs1 : List Loc), Wd G n C1 H1 → LW G s H1 locs1 → H.size ≤ H1.size ∧ H1.size ≤ s.heap.size + cells → W p l e R s m args below meth c H1 locs1 cells slots Q (F0 m (pc + 3) ls (r.toList ++ rest))) : W p l e R s m args below meth c H locs cells slots Q (F0 m pc ls st0) := by
  subst hst
  exact m_call (va_runS (As := As) (rest := rest) ⟨hC.1, hC.2.1, hC.2.2.1, hC.2.2.2.1, hC.2.2.2.2.1⟩ hM (hV.b hC.2.2.2.2.1 hR) ⟨PC.blind, fun U hU hW => ⟨rfl, by rw [hU]; exact hw, hC.2.2.2.2.2.1.warm hW⟩⟩ rfl hna hls rfl (lv_room hWd) hdg hf) hC hw hS kk
/-- a call that returns or throws -/
theorem m_callX (hr : vx_Run p l e R s m args below meth c H locs cells slots mc ms (F0 m pc ls st0) rest (QX G n rv o C1 a) (XX G n o C1) (frA G)) (hC : Cx p s m args c cc own nL G) (hw : Wd G n C H) (hS : LW G s H locs)
    (kx : ∀ (k : Nat) (ce : Cell) (q9 : Addr) (H1 : Heap) (locs1 : List Loc), o = .inr k → 1 ≤ k → k ≤ 3 → Wd G n C1 H1 → LW G s H1 locs1 → H1[q9]? = some ce → ce.vm = .none → s.vm.findClass (xN k) = some ce.cls → vx_W p l e R s m args below meth c H1 locs1 (cells + mc) (slots + ms) Q (F0 m pc ls rest) q9)
    (kk : ∀ (v : Int32) (H1 : Heap) (locs1 : List Loc), o = .inl v → Wd G n C1 H1 → LW G s H1 locs1 → W p l e R s m args below meth c H1 locs1 (cells + mc) (slots + ms) Q (F0 m (pc + 3) ls ((rv v).toList ++ rest))) : W p l e R s m args below meth c H locs cells slots Q (F0 m pc ls st0) := by
  intro T hT X
  rcases hr T hT X with ⟨v, st₀, t, T', L, h0, X', hL, e1, e2, ⟨x, hx, hv, hwd, hz⟩, st⟩ | ⟨q, st₀, t, T', L, E, ce, h0, X', hL, e1, e2, ⟨k, hk, k1, k2, rfl, hwd, hz⟩, hce, hcv, hcl, st⟩
  · cases hv
    rw [h0, ← e1] at hz
    rw [← e1] at hwd
    obtain ⟨t2, a1, b1⟩ := kk x T'.heap (locs ++ L) hx hwd (hS.call hw hC.2.2.2.2.2.2.1 hwd hz hL) T' rfl X'
    exact ⟨t2, st t2 a1, b1⟩
  · rw [h0, ← e1] at hz
    rw [← e1] at hwd hce
    obtain ⟨t2, a1, b1⟩ := kx k ce q T'.heap (locs ++ L) hk k1 k2 hwd (hS.call hw hC.2.2.2.2.2.2.1 hwd hz hL) hce hcv hcl T' rfl X'
    exact ⟨t2, st.trans a1, b1⟩
theorem call_VX {q0 : Nat} (hC : Cx p s m args c cc own nL G) (hM : CtX l y bytes maxL ret rm mc ms G n C (.ref (bb G + q0) :: As) rv o C1) (hV : WV own index y bytes maxL ret na) (hR : rm.cells = mc ∧ rm.slots = ms ∧ rm.frames + 1 ≤ R.frames ∧ 8 + (maxL + 11) + rm.locals ≤ R.locals) (hw : Wd G n C H) (hS : LW G s H locs) {ci N : Nat} {T : u_T} {fs : List Value} (ha : q0 < n ∧ q0 < 244) (he : cellAt G C q0 = .inr (ci, fs)) (hc : vwCl[ci]? = some (y.cls, T, N)) (hls : ls.size = nL) (hna : As.length = na) (hst : st0 = As.reverse ++ .ref (bb G + q0) :: rest) (hWd : (rest.map fun v => v.category).sum ≤ 8) (hdg : decode cc pc = .ok (.invokevirtual index, 3)) (hf : cells + mc ≤ R.cells ∧ slots + ms ≤ R.slots)
    (kx : ∀ (k : Nat) (ce : Cell) (q9 : Addr) (H1 : Heap) (locs1 : List Loc), o = .inr k → 1 ≤ k → k ≤ 3 → Wd G n C1 H1 → LW G s H1 locs1 → H1[q9]? = some ce → ce.vm = .none → s.vm.findClass (xN k) = some ce.cls → vx_W p l e R s m args below meth c H1 locs1 (cells + mc) (slots + ms) Q (F0 m pc ls rest) q9)
    (kk : ∀ (v : Int32) (H1 : Heap) (locs1 : List Loc), o = .inl v → Wd G n C1 H1 → LW G s H1 locs1 → W p l e R s m args below meth c H1 locs1 (cells + mc) (slots + ms) Q (F0 m (pc + 3) ls ((rv v).toList ++ rest))) : W p l e R s m args below meth c H locs cells slots Q (F0 m pc ls st0) := by
  subst hst
  have hK := va_recv hC.2.2.2.2.2.1.1 (hw.one ha he) (q0 := 0) hc rfl
  exact m_callX (vx_runV (As := As) (rest := rest) ⟨hC.1, hC.2.1, hC.2.2.1, hC.2.2.2.1, hC.2.2.2.2.1⟩ hM (hV.b hC.2.2.2.2.1 hR) ⟨PC.blind, hK, fun U hU hW => ⟨rfl, by rw [hU]; exact hw, hC.2.2.2.2.2.1.warm hW⟩⟩ rfl hna hls rfl (lv_room hWd) hdg hf) hC hw hS kx kk
theorem call_SX (hC : Cx p s m args c cc own nL G) (hM : CtX l y bytes maxL ret rm mc ms G n C As rv o C1) (hV : WS own index y bytes maxL ret na) (hR : rm.cells = mc ∧ rm.slots = ms ∧ rm.frames + 1 ≤ R.frames ∧ 8 + (maxL + 11) + rm.locals ≤ R.locals) (hw : Wd G n C H) (hS : LW G s H locs) (hls : ls.size = nL) (hna : As.length = na) (hst : st0 = As.reverse ++ rest) (hWd : (rest.map fun v => v.category).sum ≤ 8) (hdg : decode cc pc = .ok (.invokestatic index, 3)) (hf : cells + mc ≤ R.cells ∧ slots + ms ≤ R.slots)
    (kx : ∀ (k : Nat) (ce : Cell) (q9 : Addr) (H1 : Heap) (locs1 : List Loc), o = .inr k → 1 ≤ k → k ≤ 3 → Wd G n C1 H1 → LW G s H1 locs1 → H1[q9]? = some ce → ce.vm = .none → s.vm.findClass (xN k) = some ce.cls → vx_W p l e R s m args below meth c H1 locs1 (cells + mc) (slots + ms) Q (F0 m pc ls rest) q9)
    (kk : ∀ (v : Int32) (H1 : Heap) (locs1 : List Loc), o = .inl v → Wd G n C1 H1 → LW G s H1 locs1 → W p l e R s m args below meth c H1 locs1 (cells + mc) (slots + ms) Q (F0 m (pc + 3) ls ((rv v).toList ++ rest))) : W p l e R s m args below meth c H locs cells slots Q (F0 m pc ls st0) := by
  subst hst
  exact m_callX (vx_runS (As := As) (rest := rest) ⟨hC.1, hC.2.1, hC.2.2.1, hC.2.2.2.1, hC.2.2.2.2.1⟩ hM (hV.b hC.2.2.2.2.1 hR) ⟨PC.blind, fun U hU hW => ⟨rfl, by rw [hU]; exact hw, hC.2.2.2.2.2.1.warm hW⟩⟩ rfl hna hls rfl (lv_room hWd) hdg hf) hC hw hS kx kk
/-! ends -/
theorem m_iret (hC : Cx p s m args c cc own nL G) (hr : meth.sig.returnType = some .int) (hlocks : meth.locks = false) (hw : Wd G n C H) (hS : LW G s H locs) {v r1 : Int32} (hdg : decode cc pc = .ok (.ireturn, 1)) (hF : some (v, C) = some (r1, C1)) : W p l e R s m args below meth c H locs cells slots (MQ below (QR G n (some (.int r1)) C1) args s cells slots (frA G)) (F0 m pc ls [.int v]) := by
  cases hF
  exact W.iret hC.1 hC.2.1 hr (fun t ht _ => ⟨rfl, by rw [ht]; exact hw, by rw [ht]; exact hS.1⟩) hS.2.2 hdg
theorem z_nar {v : Int32} (hv : v = 0 ∨ v = 1) : narrow .boolean (.int v) = .int v := by rcases hv with rfl | rfl <;> decide
theorem z_fit {v : Int32} (hv : v = 0 ∨ v = 1) : fits .boolean (.int v) = true := by rcases hv with rfl | rfl <;> decide
theorem m_zret (hC : Cx p s m args c cc own nL G) (hr : meth.sig.returnType = some .boolean) (hlocks : meth.locks = false) (hw : Wd G n C H) (hS : LW G s H locs) {v r1 : Int32} (hdg : decode cc pc = .ok (.ireturn, 1)) (hv : v = 0 ∨ v = 1) (hF : some (v, C) = some (r1, C1)) : W p l e R s m args below meth c H locs cells slots (MQ below (QR G n (some (.int r1)) C1) args s cells slots (frA G)) (F0 m pc ls [.int v]) := by
  cases hF
  exact W.zret hC.1 hC.2.1 hr (z_nar hv) (fun t ht _ => ⟨rfl, by rw [ht]; exact hw, by rw [ht]; exact hS.1⟩) hS.2.2 hdg
theorem m_vret (hC : Cx p s m args c cc own nL G) (hr : meth.sig.returnType = none) (hlocks : meth.locks = false) (hw : Wd G n C H) (hS : LW G s H locs) {r1 : Int32} (hdg : decode cc pc = .ok (.return_, 1)) (hF : some ((0 : Int32), C) = some (r1, C1)) : W p l e R s m args below meth c H locs cells slots (MQ below (QR G n none C1) args s cells slots (frA G)) (F0 m pc ls []) := by
  cases hF
  exact W.vret hC.1 hC.2.1 hr (fun t ht _ => ⟨rfl, by rw [ht]; exact hw, by rw [ht]; exact hS.1⟩) hS.2.2 hdg
theorem m_aret (hC : Cx p s m args c cc own nL G) {cls : String} (hr : meth.sig.returnType = some (.object cls)) (hlocks : meth.locks = false) (hw : Wd G n C H) (hS : LW G s H locs) {f r1 : Nat} {ad : Nat → Nat} (hdg : decode cc pc = .ok (.areturn, 1)) (hF : some (f, C) = some (r1, C1)) : W p l e R s m args below meth c H locs cells slots (MQ below (QR G n (some (.ref (ad r1))) C1) args s cells slots (frA G)) (F0 m pc ls [.ref (ad f)]) := by
  cases hF
  exact W.aret hC.1 hC.2.1 hr (Or.inl ⟨_, rfl⟩) (Or.inr ⟨_, rfl⟩) (fun t ht _ => ⟨rfl, by rw [ht]; exact hw, by rw [ht]; exact hS.1⟩) hS.2.2 hdg
theorem m_iretX (hC : Cx p s m args c cc own nL G) (hr : meth.sig.returnType = some .int) (hlocks : meth.locks = false) (hw : Wd G n C H) (hS : LW G s H locs) {v : Int32} (hc : cells ≤ mc) (hs : slots ≤ ms) (hdg : decode cc pc = .ok (.ireturn, 1)) (hF : some (Sum.inl v, C) = some (o, C1)) : W p l e R s m args below meth c H locs cells slots (vx_MQ below (QX G n (fun v => some (.int v)) o C1) (XX G n o C1) args s mc ms (frA G)) (F0 m pc ls [.int v]) := by
  cases hF
  exact W.widen hc hs (vx_ret (W.iret hC.1 hC.2.1 hr (fun t ht _ => ⟨v, rfl, rfl, by rw [ht]; exact hw, by rw [ht]; exact hS.1⟩) hS.2.2 hdg))
theorem m_vretX (hC : Cx p s m args c cc own nL G) (hr : meth.sig.returnType = none) (hlocks : meth.locks = false) (hw : Wd G n C H) (hS : LW G s H locs) (hc : cells ≤ mc) (hs : slots ≤ ms) (hdg : decode cc pc = .ok (.return_, 1)) (hF : some (Sum.inl (0 : Int32), C) = some (o, C1)) : W p l e R s m args below meth c H locs cells slots (vx_MQ below (QX G n (fun _ => none) o C1) (XX G n o C1) args s mc ms (frA G)) (F0 m pc ls []) := by
  cases hF
  exact W.widen hc hs (vx_ret (W.vret hC.1 hC.2.1 hr (fun t ht _ => ⟨0, rfl, rfl, by rw [ht]; exact hw, by rw [ht]; exact hS.1⟩) hS.2.2 hdg))
/-- an exception goes on to the caller -/
theorem m_out (hC : Cx p s m args c cc own nL G) (hlocks : meth.locks = false) (ht : ∀ x ∈ c.exceptionTable.toList, False) (hw : Wd G n C H) (hS : LW G s H locs) {k : Nat} {ce : Cell} {q : Addr} (k1 : 1 ≤ k) (k2 : k ≤ 3) (hce : H[q]? = some ce) (hcv : ce.vm = .none) (hcl : s.vm.findClass (xN k) = some ce.cls) (hc : cells ≤ mc) (hs : slots ≤ ms) (hF : some (Sum.inr k, C) = some (o, C1)) {Qc : Array Value → State → Outcome → State → Prop} : vx_W p l e R s m args below meth c H locs cells slots (vx_MQ below Qc (XX G n o C1) args s mc ms (frA G)) (F0 m pc ls rest) q := by
  cases hF
  exact vx_out (fun x hx => (ht x hx).elim) hlocks hce hcv hcl (fun t ht _ => ⟨k, rfl, k1, k2, rfl, by rw [ht]; exact hw, by rw [ht]; exact hS.1⟩) hS.2.2 hc hs
end CALLS
/-! a contract out of a walk -/
theorem Ct.of {l : Launch} {y : MethodName} {cc : ByteArray} {maxL : Nat} {ret : Option FieldType} {rm : Room} {G : GG} {n : Nat} {C C1 : Mem} {av : List Value} {r : Option Value} (hy : plainName y.cls = true) (hN : (lg_sl av).length ≤ maxL)
    (body : ∀ (p : Program) (e : Env) (s : State) (m : MethodId) (below : List Frame) (meth : Method) (c : Code) (ls : Array Slot), Cx p s m av.toArray c cc y.cls maxL G → meth.sig.returnType = ret → meth.locks = false → Wd G n C s.heap → lv_has ls maxL (lv_args 0 av) →
      W p l e rm s m av.toArray below meth c s.heap [] 0 0 (MQ below (QR G n r C1) av.toArray s 0 0 (frA G)) (F0 m 0 ls [])) : Ct l y cc maxL ret rm G n C av r C1 := by
  refine Met.ofW (cc := cc) (maxL := maxL) (ret := ret) hy rfl ?_
  intro p e s m args below meth c s₁ B hml hv
  obtain ⟨rfl, hwd, hT⟩ := hv
  have hl := lv_entry av (n := maxL) hN
  rw [lg_entry_eq]
  generalize (lg_sl av ++ List.replicate (maxL - (lg_sl av).length) Slot.unset).toArray = ls at hl ⊢
  exact body p e s m below meth c ls ⟨B.exec, B.bytes, hml, findClass_of_methodNamed B.named, fun w hw => atoms_spec (ws := wsG y cc maxL ret) B.pre w (List.mem_cons_of_mem _ hw), hT, Nat.le_trans (Nat.le_add_right _ _) hwd.1, fun _ h => hwd.ah h⟩ B.returns B.notSynchronized hwd hl
theorem CtX.of {l : Launch} {y : MethodName} {cc : ByteArray} {maxL mc ms : Nat} {ret : Option FieldType} {rm : Room} {G : GG} {n : Nat} {C : Mem} {C1 : Mem} {av : List Value} {rv : Int32 → Option Value} {o : Rs} (hy : plainName y.cls = true) (hN : (lg_sl av).length ≤ maxL)
    (body : ∀ (p : Program) (e : Env) (s : State) (m : MethodId) (below : List Frame) (meth : Method) (c : Code) (ls : Array Slot), Cx p s m av.toArray c cc y.cls maxL G → meth.sig.returnType = ret → meth.locks = false → (∀ x ∈ c.exceptionTable.toList, False) → Wd G n C s.heap → lv_has ls maxL (lv_args 0 av) →
      W p l e rm s m av.toArray below meth c s.heap [] 0 0 (vx_MQ below (QX G n rv o C1) (XX G n o C1) av.toArray s mc ms (frA G)) (F0 m 0 ls [])) : CtX l y cc maxL ret rm mc ms G n C av rv o C1 := by
  refine vx_ofW (cc := cc) (maxL := maxL) (ret := ret) hy rfl ?_
  intro p e s m args below meth c s₁ B hml htab hv
  obtain ⟨rfl, hwd, hT⟩ := hv
  have hl := lv_entry av (n := maxL) hN
  rw [lg_entry_eq]
  generalize (lg_sl av ++ List.replicate (maxL - (lg_sl av).length) Slot.unset).toArray = ls at hl ⊢
  exact body p e s m below meth c ls ⟨B.exec, B.bytes, hml, findClass_of_methodNamed B.named, fun w hw => atoms_spec (ws := wsG y cc maxL ret) B.pre w (List.mem_cons_of_mem _ hw), hT, Nat.le_trans (Nat.le_add_right _ _) hwd.1, fun _ h => hwd.ah h⟩ B.returns B.notSynchronized htab hwd hl
end
section
/-! the words of which the pure functions of the methods are made, and what a walk reads off them -/
def vp_dec (x : Int32) (n : Nat) : Decidable (vp_in x n) := by unfold vp_in; infer_instance
def gi {α : Type} (x : Int32) (n : Nat) (A : Option α) : Option α := @ite _ (vp_in x n) (vp_dec x n) A none
theorem gi_t {α : Type} {x : Int32} {n : Nat} {A : Option α} {r : α} (h : gi x n A = some r) : vp_in x n ∧ A = some r := by
  unfold gi at h
  by_cases c : vp_in x n
  · rw [if_pos c] at h; exact ⟨c, h⟩
  · rw [if_neg c] at h; cases h
def gz {α : Type} (y : Int32) (A : Option α) : Option α := if y = 0 then none else A
theorem gz_t {α : Type} {y : Int32} {A : Option α} {r : α} (h : gz y A = some r) : ¬ y = 0 ∧ A = some r := by
  unfold gz at h
  by_cases c : y = 0
  · rw [if_pos c] at h; cases h
  · rw [if_neg c] at h; exact ⟨c, h⟩
def gzL {α : Type} (y : Int64) (A : Option α) : Option α := if y = 0 then none else A
theorem gzL_t {α : Type} {y : Int64} {A : Option α} {r : α} (h : gzL y A = some r) : ¬ y = 0 ∧ A = some r := by
  unfold gzL at h
  by_cases c : y = 0
  · rw [if_pos c] at h; cases h
  · rw [if_neg c] at h; exact ⟨c, h⟩
def gb {α : Type} (v : Int32) (A : Option α) : Option α := if v = 0 ∨ v = 1 then A else none
theorem gb_t {α : Type} {v : Int32} {A : Option α} {r : α} (h : gb v A = some r) : (v = 0 ∨ v = 1) ∧ A = some r := by
  unfold gb at h
  by_cases c : v = 0 ∨ v = 1
  · rw [if_pos c] at h; exact ⟨c, h⟩
  · rw [if_neg c] at h; cases h
def nm {α β : Type} (e : α) (k : α → Option β) : Option β := k e
theorem nm_t {α β : Type} {e : α} {k : α → Option β} {r : β} (h : nm e k = some r) : ∃ x, x = e ∧ k x = some r := ⟨e, rfl, h⟩
theorem ob {α β : Type} {x : Option α} {f : α → Option β} {r : β} (h : x.bind f = some r) : ∃ o, x = some o ∧ f o = some r := by
  cases x with
  | none => cases h
  | some o => exact ⟨o, rfl, h⟩
theorem it_t {α : Type} {c : Prop} [Decidable c] {A B : Option α} {r : α} (h : c) (e : (if c then A else B) = some r) : A = some r := by rwa [if_pos h] at e
theorem it_f {α : Type} {c : Prop} [Decidable c] {A B : Option α} {r : α} (h : ¬ c) (e : (if c then A else B) = some r) : B = some r := by rwa [if_neg h] at e
theorem se_l {α β γ : Type} {f : α → γ} {g : β → γ} {o : α ⊕ β} {r : γ} {v : α} (h : o = .inl v) (e : Sum.elim f g o = r) : f v = r := by subst h; exact e
theorem se_r {α β γ : Type} {f : α → γ} {g : β → γ} {o : α ⊕ β} {r : γ} {v : β} (h : o = .inr v) (e : Sum.elim f g o = r) : g v = r := by subst h; exact e
theorem se_x {f : Int32 → Option (Rs × Mem)} {C : Mem} {o : Rs} {k : Nat} {r : Option (Rs × Mem)} (h : o = .inr k) (e : Sum.elim f (fun k => some (Sum.inr k, C)) o = r) : some (Sum.inr k, C) = r := by subst h; exact e
def iter {σ ρ : Type} (step : σ → Option (σ ⊕ ρ)) : Nat → σ → Option ρ
  | 0, _ => none
  | n + 1, x => (step x).bind (Sum.elim (iter step n) some)
def fuel : Nat := 1000
theorem iter_sound {σ ρ : Type} {step : σ → Option (σ ⊕ ρ)} {P : σ → Prop} {X : ρ → Prop} (hb : ∀ x o, step x = some o → (∀ x', o = .inl x' → P x') → (∀ r, o = .inr r → X r) → P x) : ∀ (n : Nat) (x : σ) (r : ρ), iter step n x = some r → X r → P x
  | 0, _, _, h, _ => by cases h
  | n + 1, x, r, h, hX => by
    obtain ⟨o, h1, h2⟩ := ob h
    refine hb x o h1 (fun x' e => ?_) (fun r' e => ?_)
    · subst e
      exact iter_sound hb n x' r h2 hX
    · subst e
      cases h2
      exact hX
theorem it_back {σ ρ : Type} {P : σ → Prop} {o : σ ⊕ ρ} {x' : σ} (hF : some (Sum.inl x' : σ ⊕ ρ) = some o) (hk : ∀ x', o = .inl x' → P x') : P x' := hk x' (Option.some.inj hF).symm
theorem it_exit {σ ρ : Type} {X : ρ → Prop} {o : σ ⊕ ρ} {r : ρ} (hF : some (Sum.inr r : σ ⊕ ρ) = some o) (hk : ∀ r, o = .inr r → X r) : X r := hk r (Option.some.inj hF).symm
theorem Wd.grow {G : GG} {n : Nat} {C : Mem} {H H1 : Heap} (hw : Wd G n C H) (hz : H.size ≤ H1.size) (hq : ∀ q, q < H.size → H1[q]? = H[q]?) : Wd G n C H1 :=
  ⟨Nat.le_trans hw.1 hz, fun q h h2 => by rw [hq q (by have := hw.1; omega)]; exact hw.2.1 q h h2, fun q h h2 => (hw.2.2 q h h2).kept (hq _ (by have := hw.1; simp only; omega))⟩
def b2 {A B γ : Type} (x : Option (A × B)) (k : A → B → Option γ) : Option γ := x.bind fun o => k o.1 o.2
theorem b2_t {A B γ : Type} {x : Option (A × B)} {k : A → B → Option γ} {r : γ} (h : b2 x k = some r) : ∃ a b, x = some (a, b) ∧ k a b = some r := by
  obtain ⟨⟨a, b⟩, h1, h2⟩ := ob h
  exact ⟨a, b, h1, h2⟩
def b1 {A γ : Type} (x : Option A) (k : A → Option γ) : Option γ := x.bind k
theorem b1_t {A γ : Type} {x : Option A} {k : A → Option γ} {r : γ} (h : b1 x k = some r) : ∃ a, x = some a ∧ k a = some r := ob h
theorem b2_s {A B γ : Type} (a : A) (b : B) (k : A → B → Option γ) : b2 (some (a, b)) k = k a b := rfl
theorem b1_s {A γ : Type} (a : A) (k : A → Option γ) : b1 (some a) k = k a := rfl
def gn {α : Type} (f n : Nat) (A : Option α) : Option α := if f < n then A else none
theorem gn_t {α : Type} {f n : Nat} {A : Option α} {r : α} (h : gn f n A = some r) : f < n ∧ A = some r := by
  unfold gn at h
  by_cases c : f < n
  · rw [if_pos c] at h; exact ⟨c, h⟩
  · rw [if_neg c] at h; cases h
theorem Wd.cast {G : GG} {n : Nat} {C C1 : Mem} {H : Heap} (h : C1 = C) (hw : Wd G n C H) : Wd G n C1 H := h ▸ hw
/-! switches -/
theorem sw_out {x : Int32} {lo hi : Int} (h : ∀ k : Int, lo ≤ k → k ≤ hi → x.toInt ≠ k) : x.toInt < lo ∨ hi < x.toInt := by
  rcases Int.lt_or_le x.toInt lo with q | q
  · exact Or.inl q
  · rcases Int.lt_or_le hi x.toInt with q2 | q2
    · exact Or.inr q2
    · exact absurd rfl (h _ q q2)
/-! throws -/
abbrev xnms : List String := ["java/lang/RuntimeException", "java/lang/Exception"]
def XAT (ik ic k : Nat) : Prop := Cond.classLink RX8 ik (xN k) ∈ lw_g ∧ Cond.initialized (xN k) ∈ lw_g ∧ (∀ w ∈ (vx_atS RX8 ic (xN k) xnms).filter goodWord, w ∈ lw_g) ∧ (∀ w ∈ (vx_atS RX8 ic (xN k) xnms).filter (fun w => !goodWord w), w ∈ [Cond.castable (xN k) (xN k), Cond.declares (xS "java/lang/RuntimeException"), Cond.declares (xS "java/lang/Exception"), Cond.declares (xS "java/lang/Throwable")]) ∧ (∀ w ∈ Cond.classLink RX8 ik (xN k) :: Cond.initialized (xN k) :: vx_atS RX8 ic (xN k) xnms, vx_ot w = true) ∧ Bundle.fit (xN k) = true ∧ 1 ≤ k ∧ k ≤ 3
theorem xnms_fit : ∀ n ∈ xnms, Bundle.fit n = true := by decide +kernel
theorem xat_1 : XAT 228 232 1 := ⟨by decide +kernel, by decide +kernel, by decide +kernel, by decide +kernel, by decide +kernel, by decide +kernel, by decide, by decide⟩
theorem xat_2 : XAT 55 59 2 := ⟨by decide +kernel, by decide +kernel, by decide +kernel, by decide +kernel, by decide +kernel, by decide +kernel, by decide, by decide⟩
theorem xat_3 : XAT 185 189 3 := ⟨by decide +kernel, by decide +kernel, by decide +kernel, by decide +kernel, by decide +kernel, by decide +kernel, by decide, by decide⟩
section THROWS
variable {p : Program} {l : Launch} {e : Env} {R : Room} {s : State} {m : MethodId} {args : Array Value} {below : List Frame} {meth : Method} {c : Code} {H : Heap} {locs : List Loc} {cells slots : Nat} {Q : State → Prop}
variable {cc : ByteArray} {pc : Nat} {ls : Array Slot} {rest : List Value} {nL : Nat} {G : GG} {n : Nat} {C : Mem} {mc ms : Nat}
theorem XAT.hat {ik ic k : Nat} (h : XAT ik ic k) (hts : ∀ w ∈ lw_g, w.before args s = true) (hT : TT G s) : ∀ w ∈ vx_atS RX8 ic (xN k) xnms, w.before args s = true :=
  vx_hat (fun w hw => hts w (h.2.2.1 w hw)) h.2.2.2.1 (vx_c (va_Nw.use rfl (hT.2.2.2.2.2.2.2.1 k)) (vx_c (va_Nw.use rfl hT.2.2.2.2.2.2.2.2.2.2.1) (vx_c (va_Nw.use rfl hT.2.2.2.2.2.2.2.2.2.2.2.1) (vx_c (va_Nw.use rfl hT.2.2.2.2.2.2.2.2.2.2.2.2) vx_n))))
theorem m_throwS (hC : Cx p s m args c cc RX8 nL G) (hfl : l.stackTraces = false) (hlocks : meth.locks = false) (ht : ∀ x ∈ c.exceptionTable.toList, False) (hw : Wd G n C H) (hS : LW G s H locs) {ik ic k is : Nat} {text : String} {o : Rs} {C1 : Mem} (hX : XAT ik ic k) (hstr : (is, text) ∈ strs) (hls : ls.size = nL)
    (d0 : decode cc pc = .ok (.new ik, 3)) (d3 : decode cc (pc + 3) = .ok (.dup, 1)) (d4 : decode cc (pc + 4) = .ok (.ldc is, 2)) (d6 : decode cc (pc + 6) = .ok (.invokespecial ic, 3)) (d9 : decode cc (pc + 9) = .ok (.athrow, 1))
    (hRf : 6 ≤ R.frames) (hRl : (rest.map fun v => v.category).sum + 82 ≤ R.locals) (hRc : cells + 1 ≤ R.cells) (hRs : slots + 6 ≤ R.slots) (hc : cells + 1 ≤ mc) (hs : slots + 6 ≤ ms) (hF : some (Sum.inr k, C) = some (o, C1)) {Qc : Array Value → State → Outcome → State → Prop} :
    W p l e R s m args below meth c H locs cells slots (vx_MQ below Qc (XX G n o C1) args s mc ms (frA G)) (F0 m pc ls rest) := by
  cases hF
  obtain ⟨sa, hsa⟩ := hC.2.2.2.2.2.1.2.2.2.2.2.2.1 _ hstr
  exact vx_throwS (A := frA G) hC.1 hC.2.1 hfl hC.2.2.2.1 hX.2.2.2.2.2.1 xnms_fit (hC.2.2.2.2.1 _ hX.1) (hC.2.2.2.2.1 _ hX.2.1) hsa (hX.hat hC.2.2.2.2.1 hC.2.2.2.2.2.1) hX.2.2.2.2.1
    (vx_Zq.kept hC.2.2.2.2.2.1.2.2.2.2.1 (fun a _ h => hC.2.2.2.2.2.2.2 a (Nat.not_le.mp h))) (vx_Zq.kept hC.2.2.2.2.2.1.2.2.2.2.2.1 (fun a _ h => hC.2.2.2.2.2.2.2 a (Nat.not_le.mp h))) hS (hls.trans hC.2.2.1.symm) d0 d3 d4 d6 d9 (fun x hx => (ht x hx).elim) hRf hRl hRc hRs hlocks
    (fun t _ h1 h2 => ⟨k, rfl, hX.2.2.2.2.2.2.1, hX.2.2.2.2.2.2.2, rfl, hw.grow h1 h2, Nat.le_trans hS.1 h1⟩) hS.2.2 hc hs
theorem m_throwSW (hC : Cx p s m args c cc RX8 nL G) (hfl : l.stackTraces = false) (hlocks : meth.locks = false) (ht : ∀ x ∈ c.exceptionTable.toList, False) (hw : Wd G n C H) (hS : LW G s H locs) {ik ic k is : Nat} {text : String} {o : Rs} {C1 : Mem} (hX : XAT ik ic k) (hstr : (is, text) ∈ strs) (hls : ls.size = nL)
    (d0 : decode cc pc = .ok (.new ik, 3)) (d3 : decode cc (pc + 3) = .ok (.dup, 1)) (d4 : decode cc (pc + 4) = .ok (.ldc_w is, 3)) (d6 : decode cc (pc + 7) = .ok (.invokespecial ic, 3)) (d9 : decode cc (pc + 10) = .ok (.athrow, 1))
    (hRf : 6 ≤ R.frames) (hRl : (rest.map fun v => v.category).sum + 82 ≤ R.locals) (hRc : cells + 1 ≤ R.cells) (hRs : slots + 6 ≤ R.slots) (hc : cells + 1 ≤ mc) (hs : slots + 6 ≤ ms) (hF : some (Sum.inr k, C) = some (o, C1)) {Qc : Array Value → State → Outcome → State → Prop} :
    W p l e R s m args below meth c H locs cells slots (vx_MQ below Qc (XX G n o C1) args s mc ms (frA G)) (F0 m pc ls rest) := by
  cases hF
  obtain ⟨sa, hsa⟩ := hC.2.2.2.2.2.1.2.2.2.2.2.2.1 _ hstr
  exact vx_throwSW (A := frA G) hC.1 hC.2.1 hfl hC.2.2.2.1 hX.2.2.2.2.2.1 xnms_fit (hC.2.2.2.2.1 _ hX.1) (hC.2.2.2.2.1 _ hX.2.1) hsa (hX.hat hC.2.2.2.2.1 hC.2.2.2.2.2.1) hX.2.2.2.2.1
    (vx_Zq.kept hC.2.2.2.2.2.1.2.2.2.2.1 (fun a _ h => hC.2.2.2.2.2.2.2 a (Nat.not_le.mp h))) (vx_Zq.kept hC.2.2.2.2.2.1.2.2.2.2.2.1 (fun a _ h => hC.2.2.2.2.2.2.2 a (Nat.not_le.mp h))) hS (hls.trans hC.2.2.1.symm) d0 d3 d4 d6 d9 (fun x hx => (ht x hx).elim) hRf hRl hRc hRs hlocks
    (fun t _ h1 h2 => ⟨k, rfl, hX.2.2.2.2.2.2.1, hX.2.2.2.2.2.2.2, rfl, hw.grow h1 h2, Nat.le_trans hS.1 h1⟩) hS.2.2 hc hs
end THROWS
end
section
/-! the cells by their kinds -/
section CA
variable {G : GG} {C : Mem} {q i f k : Nat}
theorem ca_casc : cellAt G C 0 = .inr (8, [.ref (bb G + 1), .ref (bb G + po 0), .ref (bb G + po 1), .ref (bb G + 32), .ref (bb G + (216 + 14 * 0)), .ref (bb G + (216 + 14 * 1))]) := rfl
theorem ca_plan : cellAt G C 1 = .inr (4, [.ref (bb G + 2), .int (C 18 1), .int (C 18 2), .int (C 18 3), .int (C 18 4), .int (C 18 5), .ref (bb G + 3), .ref (bb G + 4), .ref (bb G + 5), .int (C 18 9), .int (C 18 10)]) := rfl
theorem ca_signs : cellAt G C 2 = .inl (G.2.1 0, 60, .inl (tr 60 (C 19))) := rfl
theorem ca_powers : cellAt G C 3 = .inl (G.2.1 0, 5, .inl (tr 5 (C 20))) := rfl
theorem ca_flues : cellAt G C 4 = .inl (G.2.1 0, 5, .inl (tr 5 (C 21))) := rfl
theorem ca_ptemps : cellAt G C 5 = .inl (G.2.1 0, 8, .inl (tr 8 (C 22))) := rfl
theorem ca_hist : cellAt G C 32 = .inr (2, [.ref (bb G + 33), .int (C 23 1), .int (C 23 2)]) := rfl
theorem ca_states : cellAt G C 33 = .inl (G.2.1 3, 14, .inr (.inr (.inr (.inr (fun j => some (bb G + (34 + 13 * j))))))) := rfl
theorem po_hist {j : Nat} (h : j < 14) : po (2 + j) = 34 + 13 * j := by
  unfold po
  rw [if_neg (by omega), if_neg (by omega), if_pos (by omega), show 2 + j - 2 = j by omega]
theorem ca_slot (h : k < 2) : cellAt G C (216 + 14 * k) = .inr (6, [.ref (bb G + po (16 + k)), .int (C 24 k)]) := by
  match k, h with
  | 0, _ => rfl
  | 1, _ => rfl
theorem ca_plant (h : q < 18) : cellAt G C (po q) = .inr (5, [.ref (bb G + (po q + 1)), .int (C q 65), .ref (bb G + (po q + (2 + 0))), .ref (bb G + (po q + (2 + 1))), .ref (bb G + (po q + 4)), .ref (bb G + (po q + 5)), .ref (bb G + (po q + 7)), .int (C q 6), .int (C q 7)]) := cell_plant G C (j := 0) h (by decide)
theorem ca_barr (h : q < 18) : cellAt G C (po q + 1) = .inl (G.2.1 2, 5, .inr (.inr (.inr (.inr (fun j => some (bb G + (po q + (8 + j)))))))) := by
  rw [cell_plant G C (j := 1) h (by decide)]
  simp only [plantC, Nat.add_assoc]
theorem ca_flue (h : q < 18) (hf : f < 2) : cellAt G C (po q + (2 + f)) = .inr (1, [.int (C q (18 + f)), .int (C q (20 + f))]) := by
  rw [cell_plant G C (j := 2 + f) h (by omega)]
  match f, hf with
  | 0, _ => rfl
  | 1, _ => rfl
theorem ca_sett (h : q < 18) : cellAt G C (po q + 4) = .inl (G.2.1 0, 6, .inl (tr 6 (C q))) := cell_plant G C (j := 4) h (by decide)
theorem ca_tank (h : q < 18) : cellAt G C (po q + 5) = .inr (7, [.ref (bb G + (po q + 6)), .int (C q 66), .int (C q 13), .int (C q 14), .int (C q 15), .int (C q 16), .int (C q 17)]) := cell_plant G C (j := 5) h (by decide)
theorem ca_temps (h : q < 18) : cellAt G C (po q + 6) = .inl (G.2.1 0, 8, .inl (tr 8 (fun j => C q (22 + j)))) := cell_plant G C (j := 6) h (by decide)
theorem ca_kill (h : q < 18) : cellAt G C (po q + 7) = .inr (3, [.int (C q 8), .int (C q 9), .int (C q 10), .int (C q 11), .int (C q 12)]) := cell_plant G C (j := 7) h (by decide)
theorem ca_boiler (h : q < 18) (hi : i < 5) : cellAt G C (po q + (8 + i)) = .inr (0, [.int (C q (30 + 7 * i)), .int (C q (30 + 7 * i + 1)), .int (C q (30 + 7 * i + 2)), .int (C q (30 + 7 * i + 3)), .int (C q (30 + 7 * i + 4)), .int (C q (30 + 7 * i + 5)), .int (C q (30 + 7 * i + 6))]) := by
  rw [cell_plant G C (j := 8 + i) h (by omega), Nat.add_comm 8 i]
  rfl
theorem hm_boiler (hi : i < 5) (hf : f < 7) : hm (30 + 7 * i + f) = 8 + i := by
  unfold hm
  rw [if_neg (by omega), if_neg (by omega), if_neg (by omega), if_neg (by omega), if_neg (by omega), if_neg (by omega), if_neg (by omega), if_pos (by omega)]
  omega
theorem hm_temps (hi : i < 8) : hm (22 + i) = 6 := by
  unfold hm
  rw [if_neg (by omega), if_neg (by omega), if_neg (by omega), if_neg (by omega), if_neg (by omega), if_neg (by omega), if_pos (by omega)]
theorem hm_sett (hi : i < 6) : hm i = 4 := by
  unfold hm
  rw [if_pos hi]
theorem hm_flue (hf : f < 2) : hm (18 + f) = 2 + f ∧ hm (20 + f) = 2 + f := by
  match f, hf with
  | 0, _ => exact ⟨rfl, rfl⟩
  | 1, _ => exact ⟨rfl, rfl⟩
end CA
section AR
variable {p : Program} {l : Launch} {e : Env} {R : Room} {s : State} {m : MethodId} {args : Array Value} {below : List Frame} {meth : Method} {c : Code} {H : Heap} {locs : List Loc} {cells slots : Nat} {Q : State → Prop}
variable {cc : ByteArray} {pc : Nat} {ls : Array Slot} {rest st0 As : List Value} {own : String} {nL : Nat} {G : GG} {n : Nat} {C C1 : Mem} {q : Nat} {i x : Int32}
/-! rows of numbers, read and written -/
theorem lv_nmi {x y : Int32} (h : y = x) (k : W p l e R s m args below meth c H locs cells slots Q (F0 m pc ls (.int y :: rest))) : W p l e R s m args below meth c H locs cells slots Q (F0 m pc ls (.int x :: rest)) := h ▸ k
theorem lv_nml {x y : Int64} (h : y = x) (k : W p l e R s m args below meth c H locs cells slots Q (F0 m pc ls (.long y :: rest))) : W p l e R s m args below meth c H locs cells slots Q (F0 m pc ls (.long x :: rest)) := h ▸ k
theorem ld_at {a N : Nat} {g : Nat → Int32} (hC : Cx p s m args c cc own nL G) (hw : Wd G n C H) (ha : a < n ∧ a < 244) (he : cellAt G C a = .inl (G.2.1 0, N, .inl (tr N g))) (hin : vp_in i N) (hdg : decode cc pc = .ok (.iaload, 1)) (kk : W p l e R s m args below meth c H locs cells slots Q (F0 m (pc + 1) ls (.int (g i.toNatClampNeg) :: rest))) : W p l e R s m args below meth c H locs cells slots Q (F0 m pc ls (.int i :: .ref (bb G + a) :: rest)) :=
  m_iald hC hw ha he hin hdg (by rw [tr_lt g (vp_lt hin)]; exact kk)
theorem ld_signs (hC : Cx p s m args c cc own nL G) (hw : Wd G n C H) (hn : 244 ≤ n) (hin : vp_in i 60) (hdg : decode cc pc = .ok (.iaload, 1)) (kk : W p l e R s m args below meth c H locs cells slots Q (F0 m (pc + 1) ls (.int (C 19 i.toNatClampNeg) :: rest))) : W p l e R s m args below meth c H locs cells slots Q (F0 m pc ls (.int i :: .ref (bb G + 2) :: rest)) := ld_at hC hw (by omega) ca_signs hin hdg kk
theorem ld_powers (hC : Cx p s m args c cc own nL G) (hw : Wd G n C H) (hn : 244 ≤ n) (hin : vp_in i 5) (hdg : decode cc pc = .ok (.iaload, 1)) (kk : W p l e R s m args below meth c H locs cells slots Q (F0 m (pc + 1) ls (.int (C 20 i.toNatClampNeg) :: rest))) : W p l e R s m args below meth c H locs cells slots Q (F0 m pc ls (.int i :: .ref (bb G + 3) :: rest)) := ld_at hC hw (by omega) ca_powers hin hdg kk
theorem ld_flues (hC : Cx p s m args c cc own nL G) (hw : Wd G n C H) (hn : 244 ≤ n) (hin : vp_in i 5) (hdg : decode cc pc = .ok (.iaload, 1)) (kk : W p l e R s m args below meth c H locs cells slots Q (F0 m (pc + 1) ls (.int (C 21 i.toNatClampNeg) :: rest))) : W p l e R s m args below meth c H locs cells slots Q (F0 m pc ls (.int i :: .ref (bb G + 4) :: rest)) := ld_at hC hw (by omega) ca_flues hin hdg kk
theorem ld_ptemps (hC : Cx p s m args c cc own nL G) (hw : Wd G n C H) (hn : 244 ≤ n) (hin : vp_in i 8) (hdg : decode cc pc = .ok (.iaload, 1)) (kk : W p l e R s m args below meth c H locs cells slots Q (F0 m (pc + 1) ls (.int (C 22 i.toNatClampNeg) :: rest))) : W p l e R s m args below meth c H locs cells slots Q (F0 m pc ls (.int i :: .ref (bb G + 5) :: rest)) := ld_at hC hw (by omega) ca_ptemps hin hdg kk
theorem ld_sett (hC : Cx p s m args c cc own nL G) (hw : Wd G n C H) (hn : 244 ≤ n) (hq : q < 18) (hin : vp_in i 6) (hdg : decode cc pc = .ok (.iaload, 1)) (kk : W p l e R s m args below meth c H locs cells slots Q (F0 m (pc + 1) ls (.int (C q i.toNatClampNeg) :: rest))) : W p l e R s m args below meth c H locs cells slots Q (F0 m pc ls (.int i :: .ref (bb G + (po q + 4)) :: rest)) := ld_at hC hw (by have := po_lt hq; omega) (ca_sett hq) hin hdg kk
theorem ld_temps (hC : Cx p s m args c cc own nL G) (hw : Wd G n C H) (hn : 244 ≤ n) (hq : q < 18) (hin : vp_in i 8) (hdg : decode cc pc = .ok (.iaload, 1)) (kk : W p l e R s m args below meth c H locs cells slots Q (F0 m (pc + 1) ls (.int (C q (22 + i.toNatClampNeg)) :: rest))) : W p l e R s m args below meth c H locs cells slots Q (F0 m pc ls (.int i :: .ref (bb G + (po q + 6)) :: rest)) := ld_at hC hw (by have := po_lt hq; omega) (ca_temps hq) hin hdg kk
theorem ld_barr (hC : Cx p s m args c cc own nL G) (hw : Wd G n C H) (hn : 244 ≤ n) (hq : q < 18) (hin : vp_in i 5) (hdg : decode cc pc = .ok (.aaload, 1)) (kk : W p l e R s m args below meth c H locs cells slots Q (F0 m (pc + 1) ls (.ref (bb G + (po q + (8 + i.toNatClampNeg))) :: rest))) : W p l e R s m args below meth c H locs cells slots Q (F0 m pc ls (.int i :: .ref (bb G + (po q + 1)) :: rest)) :=
  m_aald hC hw (by have := po_lt hq; omega) (f := fun j => bb G + (po q + (8 + j))) (ca_barr hq) (t0 := 2) rfl hin hdg kk
theorem ld_states (hC : Cx p s m args c cc own nL G) (hw : Wd G n C H) (hn : 244 ≤ n) (hin : vp_in i 14) (hdg : decode cc pc = .ok (.aaload, 1)) (kk : W p l e R s m args below meth c H locs cells slots Q (F0 m (pc + 1) ls (.ref (bb G + po (2 + i.toNatClampNeg)) :: rest))) : W p l e R s m args below meth c H locs cells slots Q (F0 m pc ls (.int i :: .ref (bb G + 33) :: rest)) :=
  m_aald hC hw (by omega) (f := fun j => bb G + (34 + 13 * j)) ca_states (t0 := 3) rfl hin hdg (by rw [← po_hist (vp_lt hin)]; exact kk)
theorem st_at {a N r k : Nat} {g : Nat → Int32} (hC : Cx p s m args c cc own nL G) (hw : Wd G n C H) (hS : LW G s H locs) (ha : a < n ∧ a < 244) (he : cellAt G C a = .inl (G.2.1 0, N, .inl (tr N g))) (hin : vp_in i N) (hs : cellAt G (mu C r k x) a = .inl (G.2.1 0, N, .inl (tr N (up g i.toNatClampNeg x)))) (ho : ∀ q, q < 244 → q ≠ a → cellAt G (mu C r k x) q = cellAt G C q) (hdg : decode cc pc = .ok (.iastore, 1))
    (kk : ∀ (H1 : Heap) (locs1 : List Loc), Wd G n (mu C r k x) H1 → LW G s H1 locs1 → H1.size = H.size → W p l e R s m args below meth c H1 locs1 cells slots Q (F0 m (pc + 1) ls rest)) : W p l e R s m args below meth c H locs cells slots Q (F0 m pc ls (.int x :: .int i :: .ref (bb G + a) :: rest)) :=
  m_iast hC hw hS ha he hin (by rw [hs, tr_upd g x (vp_lt hin)]) ho hdg kk
theorem st_fix {a N r : Nat} (hC : Cx p s m args c cc own nL G) (hw : Wd G n C H) (hS : LW G s H locs) (ha : a < n ∧ a < 244) (hn2 : 0 ≤ n) (hr : 18 ≤ r ∧ r ≠ 24) (hh : ∀ k, hmF r k = a) (he : ∀ C : Mem, cellAt G C a = .inl (G.2.1 0, N, .inl (tr N (C r)))) (hin : vp_in i N) (hdg : decode cc pc = .ok (.iastore, 1))
    (kk : ∀ (H1 : Heap) (locs1 : List Loc), Wd G n (mu C r i.toNatClampNeg x) H1 → LW G s H1 locs1 → H1.size = H.size → W p l e R s m args below meth c H1 locs1 cells slots Q (F0 m (pc + 1) ls rest)) : W p l e R s m args below meth c H locs cells slots Q (F0 m pc ls (.int x :: .int i :: .ref (bb G + a) :: rest)) :=
  st_at hC hw hS ha (he C) hin (by rw [he, mu_same]) (fun q h1 h2 => cell_muF G C x hr.1 (fun e => absurd e hr.2) q (by omega) (by rw [hh]; exact h2)) hdg kk
theorem st_powers (hC : Cx p s m args c cc own nL G) (hw : Wd G n C H) (hS : LW G s H locs) (hn : 244 ≤ n) (hn2 : 0 ≤ n) (hin : vp_in i 5) (hdg : decode cc pc = .ok (.iastore, 1)) (kk : ∀ (H1 : Heap) (locs1 : List Loc), Wd G n (mu C 20 i.toNatClampNeg x) H1 → LW G s H1 locs1 → H1.size = H.size → W p l e R s m args below meth c H1 locs1 cells slots Q (F0 m (pc + 1) ls rest)) : W p l e R s m args below meth c H locs cells slots Q (F0 m pc ls (.int x :: .int i :: .ref (bb G + 3) :: rest)) := st_fix hC hw hS (by omega) hn2 (by decide) (fun _ => rfl) (fun _ => ca_powers) hin hdg kk
theorem st_flues (hC : Cx p s m args c cc own nL G) (hw : Wd G n C H) (hS : LW G s H locs) (hn : 244 ≤ n) (hn2 : 0 ≤ n) (hin : vp_in i 5) (hdg : decode cc pc = .ok (.iastore, 1)) (kk : ∀ (H1 : Heap) (locs1 : List Loc), Wd G n (mu C 21 i.toNatClampNeg x) H1 → LW G s H1 locs1 → H1.size = H.size → W p l e R s m args below meth c H1 locs1 cells slots Q (F0 m (pc + 1) ls rest)) : W p l e R s m args below meth c H locs cells slots Q (F0 m pc ls (.int x :: .int i :: .ref (bb G + 4) :: rest)) := st_fix hC hw hS (by omega) hn2 (by decide) (fun _ => rfl) (fun _ => ca_flues) hin hdg kk
theorem st_signs (hC : Cx p s m args c cc own nL G) (hw : Wd G n C H) (hS : LW G s H locs) (hn : 244 ≤ n) (hn2 : 0 ≤ n) (hin : vp_in i 60) (hdg : decode cc pc = .ok (.iastore, 1)) (kk : ∀ (H1 : Heap) (locs1 : List Loc), Wd G n (mu C 19 i.toNatClampNeg x) H1 → LW G s H1 locs1 → H1.size = H.size → W p l e R s m args below meth c H1 locs1 cells slots Q (F0 m (pc + 1) ls rest)) : W p l e R s m args below meth c H locs cells slots Q (F0 m pc ls (.int x :: .int i :: .ref (bb G + 2) :: rest)) := st_fix hC hw hS (by omega) hn2 (by decide) (fun _ => rfl) (fun _ => ca_signs) hin hdg kk
theorem st_ptemps (hC : Cx p s m args c cc own nL G) (hw : Wd G n C H) (hS : LW G s H locs) (hn : 6 ≤ n) (hn2 : 0 ≤ n) (hin : vp_in i 8) (hdg : decode cc pc = .ok (.iastore, 1)) (kk : ∀ (H1 : Heap) (locs1 : List Loc), Wd G n (mu C 22 i.toNatClampNeg x) H1 → LW G s H1 locs1 → H1.size = H.size → W p l e R s m args below meth c H1 locs1 cells slots Q (F0 m (pc + 1) ls rest)) : W p l e R s m args below meth c H locs cells slots Q (F0 m pc ls (.int x :: .int i :: .ref (bb G + 5) :: rest)) := st_fix hC hw hS (by omega) hn2 (by decide) (fun _ => rfl) (fun _ => ca_ptemps) hin hdg kk
theorem st_sett (hC : Cx p s m args c cc own nL G) (hw : Wd G n C H) (hS : LW G s H locs) (hn : 244 ≤ n) (hq : q < 18) (hin : vp_in i 6) (hdg : decode cc pc = .ok (.iastore, 1)) (kk : ∀ (H1 : Heap) (locs1 : List Loc), Wd G n (mu C q i.toNatClampNeg x) H1 → LW G s H1 locs1 → H1.size = H.size → W p l e R s m args below meth c H1 locs1 cells slots Q (F0 m (pc + 1) ls rest)) : W p l e R s m args below meth c H locs cells slots Q (F0 m pc ls (.int x :: .int i :: .ref (bb G + (po q + 4)) :: rest)) :=
  st_at hC hw hS (by have := po_lt hq; omega) (ca_sett hq) hin (by rw [ca_sett hq, mu_same]) (fun a h1 h2 => cell_muP G C x hq (by have := vp_lt hin; omega) a h1 (by rw [hm_sett (vp_lt hin)]; exact h2)) hdg kk
theorem st_temps (hC : Cx p s m args c cc own nL G) (hw : Wd G n C H) (hS : LW G s H locs) (hn : 244 ≤ n) (hq : q < 18) (hin : vp_in i 8) (hdg : decode cc pc = .ok (.iastore, 1)) (kk : ∀ (H1 : Heap) (locs1 : List Loc), Wd G n (mu C q (22 + i.toNatClampNeg) x) H1 → LW G s H1 locs1 → H1.size = H.size → W p l e R s m args below meth c H1 locs1 cells slots Q (F0 m (pc + 1) ls rest)) : W p l e R s m args below meth c H locs cells slots Q (F0 m pc ls (.int x :: .int i :: .ref (bb G + (po q + 6)) :: rest)) :=
  m_iast hC hw hS (by have := po_lt hq; omega) (ca_temps hq) hin (by rw [ca_temps hq, mu_same]; rw [tr_updS (C q) x (vp_lt hin)]) (fun a h1 h2 => cell_muP G C x hq (by have := vp_lt hin; omega) a h1 (by rw [hm_temps (vp_lt hin)]; exact h2)) hdg kk
end AR
/-! tuples that a loop leaves with -/
def u2 {A B γ : Type} (f : A → B → γ) (x : A × B) : γ := f x.1 x.2
def u3 {A B D γ : Type} (f : A → B → D → γ) (x : A × B × D) : γ := f x.1 x.2.1 x.2.2
def u4 {A B D E γ : Type} (f : A → B → D → E → γ) (x : A × B × D × E) : γ := f x.1 x.2.1 x.2.2.1 x.2.2.2
def u5 {A B D E F γ : Type} (f : A → B → D → E → F → γ) (x : A × B × D × E × F) : γ := f x.1 x.2.1 x.2.2.1 x.2.2.2.1 x.2.2.2.2
def u6 {A B D E F I γ : Type} (f : A → B → D → E → F → I → γ) (x : A × B × D × E × F × I) : γ := f x.1 x.2.1 x.2.2.1 x.2.2.2.1 x.2.2.2.2.1 x.2.2.2.2.2
theorem u2_t {A B γ : Type} {f : A → B → γ} {a : A} {b : B} {r : γ} (h : u2 f (a, b) = r) : f a b = r := h
theorem u3_t {A B D γ : Type} {f : A → B → D → γ} {a : A} {b : B} {d : D} {r : γ} (h : u3 f (a, b, d) = r) : f a b d = r := h
theorem u4_t {A B D E γ : Type} {f : A → B → D → E → γ} {a : A} {b : B} {d : D} {e : E} {r : γ} (h : u4 f (a, b, d, e) = r) : f a b d e = r := h
theorem u5_t {A B D E F γ : Type} {f : A → B → D → E → F → γ} {a : A} {b : B} {d : D} {e : E} {g : F} {r : γ} (h : u5 f (a, b, d, e, g) = r) : f a b d e g = r := h
theorem u6_t {A B D E F I γ : Type} {f : A → B → D → E → F → I → γ} {a : A} {b : B} {d : D} {e : E} {g : F} {i : I} {r : γ} (h : u6 f (a, b, d, e, g, i) = r) : f a b d e g i = r := h
section CALLS2
variable {p : Program} {l : Launch} {e : Env} {R : Room} {s : State} {m : MethodId} {args : Array Value} {below : List Frame} {meth : Method} {c : Code} {H : Heap} {locs : List Loc} {cells slots : Nat} {Q : State → Prop}
variable {cc : ByteArray} {pc : Nat} {ls : Array Slot} {rest st0 As : List Value} {own : String} {nL : Nat} {G : GG} {n : Nat} {C C1 : Mem} {index na mc ms maxL : Nat} {y : MethodName} {bytes : ByteArray} {ret : Option FieldType} {rm : Room} {o : Rs}
theorem call_Vi {q0 : Nat} (hC : Cx p s m args c cc own nL G) {v : Int32} (hM : Ct l y bytes maxL ret rm G n C (.ref (bb G + q0) :: As) (some (.int v)) C1) (hV : WV own index y bytes maxL ret na) (hR : rm.cells = 0 ∧ rm.slots = 0 ∧ rm.frames + 1 ≤ R.frames ∧ 8 + (maxL + 11) + rm.locals ≤ R.locals) (hw : Wd G n C H) (hS : LW G s H locs) {ci N : Nat} {T : u_T} {fs : List Value} (ha : q0 < n ∧ q0 < 244) (he : cellAt G C q0 = .inr (ci, fs)) (hc : vwCl[ci]? = some (y.cls, T, N)) (hls : ls.size = nL) (hna : As.length = na) (hst : st0 = As.reverse ++ .ref (bb G + q0) :: rest) (hWd : (rest.map fun v => v.category).sum ≤ 8) (hdg : decode cc pc = .ok (.invokevirtual index, 3)) (hf : cells + 0 ≤ R.cells ∧ slots + 0 ≤ R.slots)
    (kk : ∀ (H1 : Heap) (locs1 : List Loc), Wd G n C1 H1 → LW G s H1 locs1 → H.size ≤ H1.size ∧ H1.size ≤ s.heap.size + cells → W p l e R s m args below meth c H1 locs1 cells slots Q (F0 m (pc + 3) ls (.int v :: rest))) : W p l e R s m args below meth c H locs cells slots Q (F0 m pc ls st0) := call_V hC hM hV hR hw hS ha he hc hls hna hst hWd hdg hf kk
theorem call_Vv {q0 : Nat} (hC : Cx p s m args c cc own nL G) (hM : Ct l y bytes maxL ret rm G n C (.ref (bb G + q0) :: As) none C1) (hV : WV own index y bytes maxL ret na) (hR : rm.cells = 0 ∧ rm.slots = 0 ∧ rm.frames + 1 ≤ R.frames ∧ 8 + (maxL + 11) + rm.locals ≤ R.locals) (hw : Wd G n C H) (hS : LW G s H locs) {ci N : Nat} {T : u_T} {fs : List Value} (ha : q0 < n ∧ q0 < 244) (he : cellAt G C q0 = .inr (ci, fs)) (hc : vwCl[ci]? = some (y.cls, T, N)) (hls : ls.size = nL) (hna : As.length = na) (hst : st0 = As.reverse ++ .ref (bb G + q0) :: rest) (hWd : (rest.map fun v => v.category).sum ≤ 8) (hdg : decode cc pc = .ok (.invokevirtual index, 3)) (hf : cells + 0 ≤ R.cells ∧ slots + 0 ≤ R.slots)
    (kk : ∀ (H1 : Heap) (locs1 : List Loc), Wd G n C1 H1 → LW G s H1 locs1 → H.size ≤ H1.size ∧ H1.size ≤ s.heap.size + cells → W p l e R s m args below meth c H1 locs1 cells slots Q (F0 m (pc + 3) ls rest)) : W p l e R s m args below meth c H locs cells slots Q (F0 m pc ls st0) := call_V hC hM hV hR hw hS ha he hc hls hna hst hWd hdg hf kk
theorem call_Vr {q0 : Nat} (hC : Cx p s m args c cc own nL G) {v : Nat} (hM : Ct l y bytes maxL ret rm G n C (.ref (bb G + q0) :: As) (some (.ref v)) C1) (hV : WV own index y bytes maxL ret na) (hR : rm.cells = 0 ∧ rm.slots = 0 ∧ rm.frames + 1 ≤ R.frames ∧ 8 + (maxL + 11) + rm.locals ≤ R.locals) (hw : Wd G n C H) (hS : LW G s H locs) {ci N : Nat} {T : u_T} {fs : List Value} (ha : q0 < n ∧ q0 < 244) (he : cellAt G C q0 = .inr (ci, fs)) (hc : vwCl[ci]? = some (y.cls, T, N)) (hls : ls.size = nL) (hna : As.length = na) (hst : st0 = As.reverse ++ .ref (bb G + q0) :: rest) (hWd : (rest.map fun v => v.category).sum ≤ 8) (hdg : decode cc pc = .ok (.invokevirtual index, 3)) (hf : cells + 0 ≤ R.cells ∧ slots + 0 ≤ R.slots)
    (kk : ∀ (H1 : Heap) (locs1 : List Loc), Wd G n C1 H1 → LW G s H1 locs1 → H.size ≤ H1.size ∧ H1.size ≤ s.heap.size + cells → W p l e R s m args below meth c H1 locs1 cells slots Q (F0 m (pc + 3) ls (.ref v :: rest))) : W p l e R s m args below meth c H locs cells slots Q (F0 m pc ls st0) := call_V hC hM hV hR hw hS ha he hc hls hna hst hWd hdg hf kk
theorem call_Si (hC : Cx p s m args c cc own nL G) {v : Int32} (hM : Ct l y bytes maxL ret rm G n C As (some (.int v)) C1) (hV : WS own index y bytes maxL ret na) (hR : rm.cells = 0 ∧ rm.slots = 0 ∧ rm.frames + 1 ≤ R.frames ∧ 8 + (maxL + 11) + rm.locals ≤ R.locals) (hw : Wd G n C H) (hS : LW G s H locs) (hls : ls.size = nL) (hna : As.length = na) (hst : st0 = As.reverse ++ rest) (hWd : (rest.map fun v => v.category).sum ≤ 8) (hdg : decode cc pc = .ok (.invokestatic index, 3)) (hf : cells + 0 ≤ R.cells ∧ slots + 0 ≤ R.slots)
    (kk : ∀ (H1 : Heap) (locs1 : List Loc), Wd G n C1 H1 → LW G s H1 locs1 → H.size ≤ H1.size ∧ H1.size ≤ s.heap.size + cells → W p l e R s m args below meth c H1 locs1 cells slots Q (F0 m (pc + 3) ls (.int v :: rest))) : W p l e R s m args below meth c H locs cells slots Q (F0 m pc ls st0) := call_S hC hM hV hR hw hS hls hna hst hWd hdg hf kk
theorem call_Sv (hC : Cx p s m args c cc own nL G) (hM : Ct l y bytes maxL ret rm G n C As none C1) (hV : WS own index y bytes maxL ret na) (hR : rm.cells = 0 ∧ rm.slots = 0 ∧ rm.frames + 1 ≤ R.frames ∧ 8 + (maxL + 11) + rm.locals ≤ R.locals) (hw : Wd G n C H) (hS : LW G s H locs) (hls : ls.size = nL) (hna : As.length = na) (hst : st0 = As.reverse ++ rest) (hWd : (rest.map fun v => v.category).sum ≤ 8) (hdg : decode cc pc = .ok (.invokestatic index, 3)) (hf : cells + 0 ≤ R.cells ∧ slots + 0 ≤ R.slots)
    (kk : ∀ (H1 : Heap) (locs1 : List Loc), Wd G n C1 H1 → LW G s H1 locs1 → H.size ≤ H1.size ∧ H1.size ≤ s.heap.size + cells → W p l e R s m args below meth c H1 locs1 cells slots Q (F0 m (pc + 3) ls rest)) : W p l e R s m args below meth c H locs cells slots Q (F0 m pc ls st0) := call_S hC hM hV hR hw hS hls hna hst hWd hdg hf kk
theorem call_VXv {q0 : Nat} (hC : Cx p s m args c cc own nL G) (hM : CtX l y bytes maxL ret rm mc ms G n C (.ref (bb G + q0) :: As) (fun _ => none) o C1) (hV : WV own index y bytes maxL ret na) (hR : rm.cells = mc ∧ rm.slots = ms ∧ rm.frames + 1 ≤ R.frames ∧ 8 + (maxL + 11) + rm.locals ≤ R.locals) (hw : Wd G n C H) (hS : LW G s H locs) {ci N : Nat} {T : u_T} {fs : List Value} (ha : q0 < n ∧ q0 < 244) (he : cellAt G C q0 = .inr (ci, fs)) (hc : vwCl[ci]? = some (y.cls, T, N)) (hls : ls.size = nL) (hna : As.length = na) (hst : st0 = As.reverse ++ .ref (bb G + q0) :: rest) (hWd : (rest.map fun v => v.category).sum ≤ 8) (hdg : decode cc pc = .ok (.invokevirtual index, 3)) (hf : cells + mc ≤ R.cells ∧ slots + ms ≤ R.slots)
    (kx : ∀ (k : Nat) (ce : Cell) (q9 : Addr) (H1 : Heap) (locs1 : List Loc), o = .inr k → 1 ≤ k → k ≤ 3 → Wd G n C1 H1 → LW G s H1 locs1 → H1[q9]? = some ce → ce.vm = .none → s.vm.findClass (xN k) = some ce.cls → vx_W p l e R s m args below meth c H1 locs1 (cells + mc) (slots + ms) Q (F0 m pc ls rest) q9)
    (kk : ∀ (v : Int32) (H1 : Heap) (locs1 : List Loc), o = .inl v → Wd G n C1 H1 → LW G s H1 locs1 → W p l e R s m args below meth c H1 locs1 (cells + mc) (slots + ms) Q (F0 m (pc + 3) ls rest)) : W p l e R s m args below meth c H locs cells slots Q (F0 m pc ls st0) := call_VX hC hM hV hR hw hS ha he hc hls hna hst hWd hdg hf kx kk
theorem call_VXi {q0 : Nat} (hC : Cx p s m args c cc own nL G) (hM : CtX l y bytes maxL ret rm mc ms G n C (.ref (bb G + q0) :: As) (fun v => some (.int v)) o C1) (hV : WV own index y bytes maxL ret na) (hR : rm.cells = mc ∧ rm.slots = ms ∧ rm.frames + 1 ≤ R.frames ∧ 8 + (maxL + 11) + rm.locals ≤ R.locals) (hw : Wd G n C H) (hS : LW G s H locs) {ci N : Nat} {T : u_T} {fs : List Value} (ha : q0 < n ∧ q0 < 244) (he : cellAt G C q0 = .inr (ci, fs)) (hc : vwCl[ci]? = some (y.cls, T, N)) (hls : ls.size = nL) (hna : As.length = na) (hst : st0 = As.reverse ++ .ref (bb G + q0) :: rest) (hWd : (rest.map fun v => v.category).sum ≤ 8) (hdg : decode cc pc = .ok (.invokevirtual index, 3)) (hf : cells + mc ≤ R.cells ∧ slots + ms ≤ R.slots)
    (kx : ∀ (k : Nat) (ce : Cell) (q9 : Addr) (H1 : Heap) (locs1 : List Loc), o = .inr k → 1 ≤ k → k ≤ 3 → Wd G n C1 H1 → LW G s H1 locs1 → H1[q9]? = some ce → ce.vm = .none → s.vm.findClass (xN k) = some ce.cls → vx_W p l e R s m args below meth c H1 locs1 (cells + mc) (slots + ms) Q (F0 m pc ls rest) q9)
    (kk : ∀ (v : Int32) (H1 : Heap) (locs1 : List Loc), o = .inl v → Wd G n C1 H1 → LW G s H1 locs1 → W p l e R s m args below meth c H1 locs1 (cells + mc) (slots + ms) Q (F0 m (pc + 3) ls (.int v :: rest))) : W p l e R s m args below meth c H locs cells slots Q (F0 m pc ls st0) := call_VX hC hM hV hR hw hS ha he hc hls hna hst hWd hdg hf kx kk
theorem call_SXv (hC : Cx p s m args c cc own nL G) (hM : CtX l y bytes maxL ret rm mc ms G n C As (fun _ => none) o C1) (hV : WS own index y bytes maxL ret na) (hR : rm.cells = mc ∧ rm.slots = ms ∧ rm.frames + 1 ≤ R.frames ∧ 8 + (maxL + 11) + rm.locals ≤ R.locals) (hw : Wd G n C H) (hS : LW G s H locs) (hls : ls.size = nL) (hna : As.length = na) (hst : st0 = As.reverse ++ rest) (hWd : (rest.map fun v => v.category).sum ≤ 8) (hdg : decode cc pc = .ok (.invokestatic index, 3)) (hf : cells + mc ≤ R.cells ∧ slots + ms ≤ R.slots)
    (kx : ∀ (k : Nat) (ce : Cell) (q9 : Addr) (H1 : Heap) (locs1 : List Loc), o = .inr k → 1 ≤ k → k ≤ 3 → Wd G n C1 H1 → LW G s H1 locs1 → H1[q9]? = some ce → ce.vm = .none → s.vm.findClass (xN k) = some ce.cls → vx_W p l e R s m args below meth c H1 locs1 (cells + mc) (slots + ms) Q (F0 m pc ls rest) q9)
    (kk : ∀ (v : Int32) (H1 : Heap) (locs1 : List Loc), o = .inl v → Wd G n C1 H1 → LW G s H1 locs1 → W p l e R s m args below meth c H1 locs1 (cells + mc) (slots + ms) Q (F0 m (pc + 3) ls rest)) : W p l e R s m args below meth c H locs cells slots Q (F0 m pc ls st0) := call_SX hC hM hV hR hw hS hls hna hst hWd hdg hf kx kk
end CALLS2
end
