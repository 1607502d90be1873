/-! the words of which the pure functions of the methods are made, and what a walk reads off them -/
def vp_dec (x : Int32) (n : Nat) : Decidable (vp_in x n) := by unfold vp_in; infer_instance
def gi {α : Type} (x : Int32) (n : Nat) (A : Option α) : Option α := @ite _ (vp_in x n) (vp_dec x n) A none
theorem gi_t {α : Type} {x : Int32} {n : Nat} {A : Option α} {r : α} (h : gi x n A = some r) : vp_in x n ∧ A = some r := by
  unfold gi at h
  by_cases c : vp_in x n
  · rw [if_pos c] at h; exact ⟨c, h⟩
  · rw [if_neg c] at h; cases h
def gz {α : Type} (y : Int32) (A : Option α) : Option α := if y = 0 then none else A
theorem gz_t {α : Type} {y : Int32} {A : Option α} {r : α} (h : gz y A = some r) : ¬ y = 0 ∧ A = some r := by
  unfold gz at h
  by_cases c : y = 0
  · rw [if_pos c] at h; cases h
  · rw [if_neg c] at h; exact ⟨c, h⟩
def gzL {α : Type} (y : Int64) (A : Option α) : Option α := if y = 0 then none else A
theorem gzL_t {α : Type} {y : Int64} {A : Option α} {r : α} (h : gzL y A = some r) : ¬ y = 0 ∧ A = some r := by
  unfold gzL at h
  by_cases c : y = 0
  · rw [if_pos c] at h; cases h
  · rw [if_neg c] at h; exact ⟨c, h⟩
def gb {α : Type} (v : Int32) (A : Option α) : Option α := if v = 0 ∨ v = 1 then A else none
theorem gb_t {α : Type} {v : Int32} {A : Option α} {r : α} (h : gb v A = some r) : (v = 0 ∨ v = 1) ∧ A = some r := by
  unfold gb at h
  by_cases c : v = 0 ∨ v = 1
  · rw [if_pos c] at h; exact ⟨c, h⟩
  · rw [if_neg c] at h; cases h
def nm {α β : Type} (e : α) (k : α → Option β) : Option β := k e
theorem nm_t {α β : Type} {e : α} {k : α → Option β} {r : β} (h : nm e k = some r) : ∃ x, x = e ∧ k x = some r := ⟨e, rfl, h⟩
theorem ob {α β : Type} {x : Option α} {f : α → Option β} {r : β} (h : x.bind f = some r) : ∃ o, x = some o ∧ f o = some r := by
  cases x with
  | none => cases h
  | some o => exact ⟨o, rfl, h⟩
theorem it_t {α : Type} {c : Prop} [Decidable c] {A B : Option α} {r : α} (h : c) (e : (if c then A else B) = some r) : A = some r := by rwa [if_pos h] at e
theorem it_f {α : Type} {c : Prop} [Decidable c] {A B : Option α} {r : α} (h : ¬ c) (e : (if c then A else B) = some r) : B = some r := by rwa [if_neg h] at e
theorem se_l {α β γ : Type} {f : α → γ} {g : β → γ} {o : α ⊕ β} {r : γ} {v : α} (h : o = .inl v) (e : Sum.elim f g o = r) : f v = r := by subst h; exact e
theorem se_r {α β γ : Type} {f : α → γ} {g : β → γ} {o : α ⊕ β} {r : γ} {v : β} (h : o = .inr v) (e : Sum.elim f g o = r) : g v = r := by subst h; exact e
theorem se_x {f : Int32 → Option (Rs × Mem)} {C : Mem} {o : Rs} {k : Nat} {r : Option (Rs × Mem)} (h : o = .inr k) (e : Sum.elim f (fun k => some (Sum.inr k, C)) o = r) : some (Sum.inr k, C) = r := by subst h; exact e
def iter {σ ρ : Type} (step : σ → Option (σ ⊕ ρ)) : Nat → σ → Option ρ
  | 0, _ => none
  | n + 1, x => (step x).bind (Sum.elim (iter step n) some)
def fuel : Nat := 1000
theorem iter_sound {σ ρ : Type} {step : σ → Option (σ ⊕ ρ)} {P : σ → Prop} {X : ρ → Prop} (hb : ∀ x o, step x = some o → (∀ x', o = .inl x' → P x') → (∀ r, o = .inr r → X r) → P x) : ∀ (n : Nat) (x : σ) (r : ρ), iter step n x = some r → X r → P x
  | 0, _, _, h, _ => by cases h
  | n + 1, x, r, h, hX => by
    obtain ⟨o, h1, h2⟩ := ob h
    refine hb x o h1 (fun x' e => ?_) (fun r' e => ?_)
    · subst e
      exact iter_sound hb n x' r h2 hX
    · subst e
      cases h2
      exact hX
theorem it_back {σ ρ : Type} {P : σ → Prop} {o : σ ⊕ ρ} {x' : σ} (hF : some (Sum.inl x' : σ ⊕ ρ) = some o) (hk : ∀ x', o = .inl x' → P x') : P x' := hk x' (Option.some.inj hF).symm
theorem it_exit {σ ρ : Type} {X : ρ → Prop} {o : σ ⊕ ρ} {r : ρ} (hF : some (Sum.inr r : σ ⊕ ρ) = some o) (hk : ∀ r, o = .inr r → X r) : X r := hk r (Option.some.inj hF).symm
theorem Wd.grow {G : GG} {n : Nat} {C : Mem} {H H1 : Heap} (hw : Wd G n C H) (hz : H.size ≤ H1.size) (hq : ∀ q, q < H.size → H1[q]? = H[q]?) : Wd G n C H1 :=
  ⟨Nat.le_trans hw.1 hz, fun q h h2 => by rw [hq q (by have := hw.1; omega)]; exact hw.2.1 q h h2, fun q h h2 => (hw.2.2 q h h2).kept (hq _ (by have := hw.1; simp only; omega))⟩
def b2 {A B γ : Type} (x : Option (A × B)) (k : A → B → Option γ) : Option γ := x.bind fun o => k o.1 o.2
theorem b2_t {A B γ : Type} {x : Option (A × B)} {k : A → B → Option γ} {r : γ} (h : b2 x k = some r) : ∃ a b, x = some (a, b) ∧ k a b = some r := by
  obtain ⟨⟨a, b⟩, h1, h2⟩ := ob h
  exact ⟨a, b, h1, h2⟩
def b1 {A γ : Type} (x : Option A) (k : A → Option γ) : Option γ := x.bind k
theorem b1_t {A γ : Type} {x : Option A} {k : A → Option γ} {r : γ} (h : b1 x k = some r) : ∃ a, x = some a ∧ k a = some r := ob h
theorem b2_s {A B γ : Type} (a : A) (b : B) (k : A → B → Option γ) : b2 (some (a, b)) k = k a b := rfl
theorem b1_s {A γ : Type} (a : A) (k : A → Option γ) : b1 (some a) k = k a := rfl
def gn {α : Type} (f n : Nat) (A : Option α) : Option α := if f < n then A else none
theorem gn_t {α : Type} {f n : Nat} {A : Option α} {r : α} (h : gn f n A = some r) : f < n ∧ A = some r := by
  unfold gn at h
  by_cases c : f < n
  · rw [if_pos c] at h; exact ⟨c, h⟩
  · rw [if_neg c] at h; cases h
theorem Wd.cast {G : GG} {n : Nat} {C C1 : Mem} {H : Heap} (h : C1 = C) (hw : Wd G n C H) : Wd G n C1 H := h ▸ hw
/-! switches -/
theorem sw_out {x : Int32} {lo hi : Int} (h : ∀ k : Int, lo ≤ k → k ≤ hi → x.toInt ≠ k) : x.toInt < lo ∨ hi < x.toInt := by
  rcases Int.lt_or_le x.toInt lo with q | q
  · exact Or.inl q
  · rcases Int.lt_or_le hi x.toInt with q2 | q2
    · exact Or.inr q2
    · exact absurd rfl (h _ q q2)
/-! throws -/
abbrev xnms : List String := ["java/lang/RuntimeException", "java/lang/Exception"]
def XAT (ik ic k : Nat) : Prop := Cond.classLink RX8 ik (xN k) ∈ lw_g ∧ Cond.initialized (xN k) ∈ lw_g ∧ (∀ w ∈ (vx_atS RX8 ic (xN k) xnms).filter goodWord, w ∈ lw_g) ∧ (∀ w ∈ (vx_atS RX8 ic (xN k) xnms).filter (fun w => !goodWord w), w ∈ [Cond.castable (xN k) (xN k), Cond.declares (xS "java/lang/RuntimeException"), Cond.declares (xS "java/lang/Exception"), Cond.declares (xS "java/lang/Throwable")]) ∧ (∀ w ∈ Cond.classLink RX8 ik (xN k) :: Cond.initialized (xN k) :: vx_atS RX8 ic (xN k) xnms, vx_ot w = true) ∧ Bundle.fit (xN k) = true ∧ 1 ≤ k ∧ k ≤ 3
theorem xnms_fit : ∀ n ∈ xnms, Bundle.fit n = true := by decide +kernel
theorem xat_1 : XAT 228 232 1 := ⟨by decide +kernel, by decide +kernel, by decide +kernel, by decide +kernel, by decide +kernel, by decide +kernel, by decide, by decide⟩
theorem xat_2 : XAT 55 59 2 := ⟨by decide +kernel, by decide +kernel, by decide +kernel, by decide +kernel, by decide +kernel, by decide +kernel, by decide, by decide⟩
theorem xat_3 : XAT 185 189 3 := ⟨by decide +kernel, by decide +kernel, by decide +kernel, by decide +kernel, by decide +kernel, by decide +kernel, by decide, by decide⟩
section THROWS
variable {p : Program} {l : Launch} {e : Env} {R : Room} {s : State} {m : MethodId} {args : Array Value} {below : List Frame} {meth : Method} {c : Code} {H : Heap} {locs : List Loc} {cells slots : Nat} {Q : State → Prop}
variable {cc : ByteArray} {pc : Nat} {ls : Array Slot} {rest : List Value} {nL : Nat} {G : GG} {n : Nat} {C : Mem} {mc ms : Nat}
theorem XAT.hat {ik ic k : Nat} (h : XAT ik ic k) (hts : ∀ w ∈ lw_g, w.before args s = true) (hT : TT G s) : ∀ w ∈ vx_atS RX8 ic (xN k) xnms, w.before args s = true :=
  vx_hat (fun w hw => hts w (h.2.2.1 w hw)) h.2.2.2.1 (vx_c (va_Nw.use rfl (hT.2.2.2.2.2.2.2.1 k)) (vx_c (va_Nw.use rfl hT.2.2.2.2.2.2.2.2.2.2.1) (vx_c (va_Nw.use rfl hT.2.2.2.2.2.2.2.2.2.2.2.1) (vx_c (va_Nw.use rfl hT.2.2.2.2.2.2.2.2.2.2.2.2) vx_n))))
theorem m_throwS (hC : Cx p s m args c cc RX8 nL G) (hfl : l.stackTraces = false) (hlocks : meth.locks = false) (ht : ∀ x ∈ c.exceptionTable.toList, False) (hw : Wd G n C H) (hS : LW G s H locs) {ik ic k is : Nat} {text : String} {o : Rs} {C1 : Mem} (hX : XAT ik ic k) (hstr : (is, text) ∈ strs) (hls : ls.size = nL)
    (d0 : decode cc pc = .ok (.new ik, 3)) (d3 : decode cc (pc + 3) = .ok (.dup, 1)) (d4 : decode cc (pc + 4) = .ok (.ldc is, 2)) (d6 : decode cc (pc + 6) = .ok (.invokespecial ic, 3)) (d9 : decode cc (pc + 9) = .ok (.athrow, 1))
    (hRf : 6 ≤ R.frames) (hRl : (rest.map fun v => v.category).sum + 82 ≤ R.locals) (hRc : cells + 1 ≤ R.cells) (hRs : slots + 6 ≤ R.slots) (hc : cells + 1 ≤ mc) (hs : slots + 6 ≤ ms) (hF : some (Sum.inr k, C) = some (o, C1)) {Qc : Array Value → State → Outcome → State → Prop} :
    W p l e R s m args below meth c H locs cells slots (vx_MQ below Qc (XX G n o C1) args s mc ms (frA G)) (F0 m pc ls rest) := by
  cases hF
  obtain ⟨sa, hsa⟩ := hC.2.2.2.2.2.1.2.2.2.2.2.2.1 _ hstr
  exact vx_throwS (A := frA G) hC.1 hC.2.1 hfl hC.2.2.2.1 hX.2.2.2.2.2.1 xnms_fit (hC.2.2.2.2.1 _ hX.1) (hC.2.2.2.2.1 _ hX.2.1) hsa (hX.hat hC.2.2.2.2.1 hC.2.2.2.2.2.1) hX.2.2.2.2.1
    (vx_Zq.kept hC.2.2.2.2.2.1.2.2.2.2.1 (fun a _ h => hC.2.2.2.2.2.2.2 a (Nat.not_le.mp h))) (vx_Zq.kept hC.2.2.2.2.2.1.2.2.2.2.2.1 (fun a _ h => hC.2.2.2.2.2.2.2 a (Nat.not_le.mp h))) hS (hls.trans hC.2.2.1.symm) d0 d3 d4 d6 d9 (fun x hx => (ht x hx).elim) hRf hRl hRc hRs hlocks
    (fun t _ h1 h2 => ⟨k, rfl, hX.2.2.2.2.2.2.1, hX.2.2.2.2.2.2.2, rfl, hw.grow h1 h2, Nat.le_trans hS.1 h1⟩) hS.2.2 hc hs
theorem m_throwSW (hC : Cx p s m args c cc RX8 nL G) (hfl : l.stackTraces = false) (hlocks : meth.locks = false) (ht : ∀ x ∈ c.exceptionTable.toList, False) (hw : Wd G n C H) (hS : LW G s H locs) {ik ic k is : Nat} {text : String} {o : Rs} {C1 : Mem} (hX : XAT ik ic k) (hstr : (is, text) ∈ strs) (hls : ls.size = nL)
    (d0 : decode cc pc = .ok (.new ik, 3)) (d3 : decode cc (pc + 3) = .ok (.dup, 1)) (d4 : decode cc (pc + 4) = .ok (.ldc_w is, 3)) (d6 : decode cc (pc + 7) = .ok (.invokespecial ic, 3)) (d9 : decode cc (pc + 10) = .ok (.athrow, 1))
    (hRf : 6 ≤ R.frames) (hRl : (rest.map fun v => v.category).sum + 82 ≤ R.locals) (hRc : cells + 1 ≤ R.cells) (hRs : slots + 6 ≤ R.slots) (hc : cells + 1 ≤ mc) (hs : slots + 6 ≤ ms) (hF : some (Sum.inr k, C) = some (o, C1)) {Qc : Array Value → State → Outcome → State → Prop} :
    W p l e R s m args below meth c H locs cells slots (vx_MQ below Qc (XX G n o C1) args s mc ms (frA G)) (F0 m pc ls rest) := by
  cases hF
  obtain ⟨sa, hsa⟩ := hC.2.2.2.2.2.1.2.2.2.2.2.2.1 _ hstr
  exact vx_throwSW (A := frA G) hC.1 hC.2.1 hfl hC.2.2.2.1 hX.2.2.2.2.2.1 xnms_fit (hC.2.2.2.2.1 _ hX.1) (hC.2.2.2.2.1 _ hX.2.1) hsa (hX.hat hC.2.2.2.2.1 hC.2.2.2.2.2.1) hX.2.2.2.2.1
    (vx_Zq.kept hC.2.2.2.2.2.1.2.2.2.2.1 (fun a _ h => hC.2.2.2.2.2.2.2 a (Nat.not_le.mp h))) (vx_Zq.kept hC.2.2.2.2.2.1.2.2.2.2.2.1 (fun a _ h => hC.2.2.2.2.2.2.2 a (Nat.not_le.mp h))) hS (hls.trans hC.2.2.1.symm) d0 d3 d4 d6 d9 (fun x hx => (ht x hx).elim) hRf hRl hRc hRs hlocks
    (fun t _ h1 h2 => ⟨k, rfl, hX.2.2.2.2.2.2.1, hX.2.2.2.2.2.2.2, rfl, hw.grow h1 h2, Nat.le_trans hS.1 h1⟩) hS.2.2 hc hs
end THROWS
