/-! the class reads the text -/
def ttP (x : Pg) (T L p : Nat) : Nat ⊕ ((Nat → Nat) × Nat) := if p < T ∧ x p = 116 then pbind (sgP x T 116 p) fun _ e => tmP x T L 0 0 (fun _ => 40) e else .inr (fun _ => 40, p)
def r1 (x : Pg) (T : Nat) : Nat ⊕ (Nat × Nat) := sgP x T 72 0
def r2 (x : Pg) (T : Nat) : Nat ⊕ (Nat × Nat) := pbind (r1 x T) fun _ e => dgP x T 2 8 e
def r3 (x : Pg) (T : Nat) : Nat ⊕ ((Nat × Nat) × Nat) := pbind (r2 x T) fun h e => pbind (twP x T 0 99 e) fun d e => .inr ((h, d), e)
def r4 (x : Pg) (T : Nat) : Nat ⊕ (((Nat × Nat) × Nat) × Nat) := pbind (r3 x T) fun h e => pbind (twP x T 0 99 e) fun d e => .inr ((h, d), e)
def r5 (x : Pg) (T : Nat) : Nat ⊕ ((((Nat × Nat) × Nat) × (Nat × Nat)) × Nat) := pbind (r4 x T) fun h e => pbind (boP x T e) fun o e => .inr ((h, o), e)
def r6 (x : Pg) (T : Nat) : Nat ⊕ ((((Nat × Nat) × Nat) × (Nat × (Nat → Nat × Nat))) × Nat) := pbind (r5 x T) fun h e => pbind (blP x T 4 1 (fun j => if j = 0 then h.2 else (0, 0)) e) fun b e => .inr ((h.1, b), e)
def r7 (x : Pg) (T : Nat) : Nat ⊕ (((((Nat × Nat) × Nat) × (Nat × (Nat → Nat × Nat))) × (Nat → Nat)) × Nat) := pbind (r6 x T) fun h e => pbind (ttP x T h.1.1.1 e) fun t e => .inr ((h, t), e)
abbrev TC : Type := (((Nat × Nat) × Nat) × (Nat × (Nat → Nat × Nat))) × (Nat → Nat)
def rd (x : Pg) (T : Nat) : Nat ⊕ TC := match r7 x T with
  | .inl e => .inl e
  | .inr o => if o.2 < T then .inl o.2 else .inr o.1
def Fr (C C' : Mem) : Prop := ∀ r, r ≠ 18 → r ≠ 20 → r ≠ 21 → r ≠ 22 → C' r = C r
theorem Fr.tr {C C1 C2 : Mem} (h : Fr C C1) (g : Fr C1 C2) : Fr C C2 := fun r a b c d => (g r a b c d).trans (h r a b c d)
def St {α : Type} (T : Nat) (x : Pg) (A : α → Mem → Prop) (C0 : Mem) (r : Nat ⊕ (α × Nat)) (C : Mem) : Prop := Fr C0 C ∧ match r with
  | .inl e => RS T x C e true
  | .inr o => RS T x C o.2 false ∧ A o.1 C
def A2 (L : Nat) (C : Mem) : Prop := C 18 2 = nI L
def A3 (h : Nat × Nat) (C : Mem) : Prop := A2 h.1 C ∧ C 18 3 = nI h.2
def A4 (h : (Nat × Nat) × Nat) (C : Mem) : Prop := A3 h.1 C ∧ C 18 4 = nI h.2
def A5 (h : ((Nat × Nat) × Nat) × (Nat × Nat)) (C : Mem) : Prop := A4 h.1 C ∧ C 18 5 = 1 ∧ C 20 0 = nI h.2.1 ∧ C 21 0 = nI h.2.2
def A6 (h : ((Nat × Nat) × Nat) × (Nat × (Nat → Nat × Nat))) (C : Mem) : Prop := A4 h.1 C ∧ C 18 5 = nI h.2.1 ∧ ∀ j, j < h.2.1 → C 20 j = nI (h.2.2 j).1 ∧ C 21 j = nI (h.2.2 j).2
def A7 (h : TC) (C : Mem) : Prop := A6 h.1 C ∧ ∀ a, a < h.1.1.1.1 → C 22 a = nI (h.2 a)
theorem P9.fr {C C1 : Mem} {p : Nat} {w : Bool} (g : P9 C C1 p w) : Fr C C1 := fun r a _ _ _ => g.1 r a
section RD
variable {T : Nat} {x : Pg} {C0 C : Mem}
theorem fr_18 (C : Mem) (k : Nat) (v : Int32) : Fr C (mu C 18 k v) := fun _ a _ _ _ => mu_r C _ _ a
theorem RS.k18 {p : Nat} {w : Bool} (h : RS T x C p w) {k : Nat} (h1 : k ≠ 1) (h9 : k ≠ 9) (h10 : k ≠ 10) (v : Int32) : RS T x (mu C 18 k v) p w :=
  ⟨by rw [mu_o _ _ (Ne.symm h1)]; exact h.1, h.2.1, fun a ha => by rw [mu_r _ _ _ (show 19 ≠ 18 by decide)]; exact h.2.2.1 a ha, h.2.2.2.1, by rw [mu_o _ _ (Ne.symm h9)]; exact h.2.2.2.2.1, by rw [mu_o _ _ (Ne.symm h10)]; exact h.2.2.2.2.2⟩
theorem r2_v {L e : Nat} (h : r2 x T = .inr (L, e)) : 2 ≤ L ∧ L ≤ 8 := by
  unfold r2 at h
  cases h1 : r1 x T with
  | inl e1 => rw [h1, pb_l] at h; cases h
  | inr o =>
    rw [h1] at h
    have g := dg_v (by decide) (by decide) h
    exact ⟨g.1, g.2.1⟩
theorem r3_v {h : Nat × Nat} {e : Nat} (g : r3 x T = .inr (h, e)) : (2 ≤ h.1 ∧ h.1 ≤ 8) ∧ h.2 ≤ 99 := by
  unfold r3 at g
  cases h1 : r2 x T with
  | inl e1 => rw [h1, pb_l] at g; cases g
  | inr o =>
    obtain ⟨L, e1⟩ := o
    rw [h1, pb_r] at g
    cases h2 : twP x T 0 99 e1 with
    | inl e2 => rw [h2, pb_l] at g; cases g
    | inr o =>
      obtain ⟨d, e2⟩ := o
      rw [h2, pb_r] at g
      cases g
      exact ⟨r2_v h1, (tw_v (by decide) (by decide) h2).1⟩
theorem r4_v {h : (Nat × Nat) × Nat} {e : Nat} (g : r4 x T = .inr (h, e)) : ((2 ≤ h.1.1 ∧ h.1.1 ≤ 8) ∧ h.1.2 ≤ 99) ∧ h.2 ≤ 99 ∧ e ≤ T := by
  unfold r4 at g
  cases h1 : r3 x T with
  | inl e1 => rw [h1, pb_l] at g; cases g
  | inr o =>
    obtain ⟨L, e1⟩ := o
    rw [h1, pb_r] at g
    cases h2 : twP x T 0 99 e1 with
    | inl e2 => rw [h2, pb_l] at g; cases g
    | inr o =>
      obtain ⟨d, e2⟩ := o
      rw [h2, pb_r] at g
      have gv := tw_v (by decide) (by decide) h2
      cases g
      exact ⟨r3_v h1, gv.1, gv.2.2⟩
theorem r5_v {h : ((Nat × Nat) × Nat) × (Nat × Nat)} {e : Nat} (g : r5 x T = .inr (h, e)) : (((2 ≤ h.1.1.1 ∧ h.1.1.1 ≤ 8) ∧ h.1.1.2 ≤ 99) ∧ h.1.2 ≤ 99) ∧ h.2.1 ≤ 30 ∧ h.2.2 ≤ 1 ∧ e ≤ T := by
  unfold r5 at g
  cases h1 : r4 x T with
  | inl e1 => rw [h1, pb_l] at g; cases g
  | inr o =>
    obtain ⟨L, e1⟩ := o
    rw [h1, pb_r] at g
    cases h2 : boP x T e1 with
    | inl e2 => rw [h2, pb_l] at g; cases g
    | inr o =>
      obtain ⟨⟨a, f⟩, e2⟩ := o
      rw [h2, pb_r] at g
      have gv := bo_v h2
      cases g
      have h4 := r4_v h1
      exact ⟨⟨h4.1, h4.2.1⟩, gv.1, gv.2.1, gv.2.2.1⟩
theorem r6_v {h : ((Nat × Nat) × Nat) × (Nat × (Nat → Nat × Nat))} {e : Nat} (g : r6 x T = .inr (h, e)) : (((2 ≤ h.1.1.1 ∧ h.1.1.1 ≤ 8) ∧ h.1.1.2 ≤ 99) ∧ h.1.2 ≤ 99) ∧ 1 ≤ h.2.1 ∧ h.2.1 ≤ 5 ∧ e ≤ T ∧ ∀ j, j < h.2.1 → (h.2.2 j).1 ≤ 30 ∧ (h.2.2 j).2 ≤ 1 := by
  unfold r6 at g
  cases h1 : r5 x T with
  | inl e1 => rw [h1, pb_l] at g; cases g
  | inr o =>
    obtain ⟨L, e1⟩ := o
    rw [h1, pb_r] at g
    have h5 := r5_v h1
    cases h2 : blP x T 4 1 (fun j => if j = 0 then L.2 else (0, 0)) e1 with
    | inl e2 => rw [h2, pb_l] at g; cases g
    | inr o =>
      obtain ⟨⟨n, c⟩, e2⟩ := o
      rw [h2, pb_r] at g
      have gv := bl_v 4 1 _ e1 h5.2.2.2 (fun j hj => by rw [if_pos (by omega)]; exact ⟨h5.2.1, h5.2.2.1⟩) h2
      cases g
      exact ⟨h5.1, gv.1, by have := gv.2.1; omega, gv.2.2.1, gv.2.2.2⟩
theorem tt_v {L p e : Nat} {t : Nat → Nat} (hp : p ≤ T) (g : ttP x T L p = .inr (t, e)) : e ≤ T ∧ ∀ a, a < L → t a ≤ 99 := by
  unfold ttP at g
  by_cases hs : p < T ∧ x p = 116
  · rw [if_pos hs, sg_t hs, pb_r] at g
    have k := tm_v L 0 0 _ _ (by decide) (by omega) (fun a ha => absurd ha (Nat.not_lt_zero a)) g
    exact ⟨k.1, fun a ha => k.2 a (by omega)⟩
  · rw [if_neg hs] at g
    cases g
    exact ⟨hp, fun a _ => show 40 ≤ 99 by decide⟩
theorem tt_e {L p e : Nat} (hp : p ≤ T) (g : ttP x T L p = .inl e) : e ≤ T := by
  unfold ttP at g
  by_cases hs : p < T ∧ x p = 116
  · rw [if_pos hs, sg_t hs, pb_r] at g
    exact tm_e L 0 0 _ _ (by decide) (by omega) g
  · rw [if_neg hs] at g
    cases g
theorem r7_v {h : TC} {e : Nat} (g : r7 x T = .inr (h, e)) : ((((2 ≤ h.1.1.1.1 ∧ h.1.1.1.1 ≤ 8) ∧ h.1.1.1.2 ≤ 99) ∧ h.1.1.2 ≤ 99) ∧ 1 ≤ h.1.2.1 ∧ h.1.2.1 ≤ 5 ∧ ∀ j, j < h.1.2.1 → (h.1.2.2 j).1 ≤ 30 ∧ (h.1.2.2 j).2 ≤ 1) ∧ e ≤ T ∧ ∀ a, a < h.1.1.1.1 → h.2 a ≤ 99 := by
  unfold r7 at g
  cases h1 : r6 x T with
  | inl e1 => rw [h1, pb_l] at g; cases g
  | inr o =>
    obtain ⟨L, e1⟩ := o
    rw [h1, pb_r] at g
    have h6 := r6_v h1
    cases h2 : ttP x T L.1.1.1 e1 with
    | inl e2 => rw [h2, pb_l] at g; cases g
    | inr o =>
      obtain ⟨t, e2⟩ := o
      rw [h2, pb_r] at g
      have gv := tt_v h6.2.2.2.1 h2
      cases g
      exact ⟨⟨h6.1, h6.2.1, h6.2.2.1, h6.2.2.2.2⟩, gv⟩
/-! its stages -/
theorem s_2 {r : Nat ⊕ (Nat × Nat)} (h : St T x (fun (_ : Nat) (_ : Mem) => True) C0 r C) : ∃ v C', F_X4_readDigit (2 : Int32) (8 : Int32) C = some (v, C') ∧ St T x A2 C0 (pbind r fun _ e => dgP x T 2 8 e) (mu C' 18 2 v) := by
  obtain ⟨hF, h⟩ := h
  cases r with
  | inl e =>
    obtain ⟨C', e1, g⟩ := c_digitW h 2 8
    exact ⟨_, _, e1, (hF.tr g.fr).tr (fr_18 _ _ _), ((RS.to h g h.2.2.2.1).k18 (by decide) (by decide) (by decide) _)⟩
  | inr o =>
    obtain ⟨v, C', e1, g⟩ := c_digit h.1 (a := 2) (b := 8) (by decide) (by decide)
    refine ⟨v, C', e1, ?_⟩
    rw [show pbind (.inr o) (fun _ e => dgP x T 2 8 e) = dgP x T 2 8 o.2 from rfl]
    cases hd : dgP x T 2 8 o.2 with
    | inl e =>
      rw [hd] at g
      have he := dg_e hd
      exact ⟨(hF.tr (P9.fr g)).tr (fr_18 _ _ _), (RS.to h.1 g (by rw [he]; exact h.1.2.2.2.1)).k18 (by decide) (by decide) (by decide) _⟩
    | inr q =>
      obtain ⟨L, e⟩ := q
      rw [hd] at g
      obtain ⟨rfl, g⟩ := g
      have hv := dg_v (by decide) (by decide) hd
      exact ⟨(hF.tr g.fr).tr (fr_18 _ _ _), (RS.to h.1 g (by omega)).k18 (by decide) (by decide) (by decide) _, mu_at _ _ _ _⟩
theorem s_n {α : Type} {A : α → Mem → Prop} {r : Nat ⊕ (α × Nat)} {k : Nat} (hk : k ≠ 1 ∧ k ≠ 9 ∧ k ≠ 10) (hA : ∀ a C C' v, (∀ j, j ≠ 9 → j ≠ 10 → C' 18 j = C 18 j) → A a C → A a (mu C' 18 k v)) (h : St T x A C0 r C) : ∃ v C', F_X4_readNumber (0 : Int32) (99 : Int32) C = some (v, C') ∧ St T x (fun o C => A o.1 C ∧ C 18 k = nI o.2) C0 (pbind r fun h e => pbind (twP x T 0 99 e) fun d e => .inr ((h, d), e)) (mu C' 18 k v) := by
  obtain ⟨hF, h⟩ := h
  cases r with
  | inl e =>
    obtain ⟨v, C', e1, g⟩ := c_numberW h 0 99
    exact ⟨_, _, e1, (hF.tr g.fr).tr (fr_18 _ _ _), ((RS.to h g h.2.2.2.1).k18 hk.1 hk.2.1 hk.2.2 _)⟩
  | inr o =>
    obtain ⟨v, C', e1, g⟩ := c_number h.1 (a := 0) (b := 99) (by decide) (by decide)
    refine ⟨v, C', e1, ?_⟩
    rw [show pbind (.inr o) (fun h e => pbind (twP x T 0 99 e) fun d e => .inr ((h, d), e)) = pbind (twP x T 0 99 o.2) (fun d e => .inr ((o.1, d), e)) from rfl]
    cases hd : twP x T 0 99 o.2 with
    | inl e =>
      rw [hd] at g
      have he := tw_e (by decide) (by decide) h.1.2.2.2.1 hd
      exact ⟨(hF.tr (P9.fr g)).tr (fr_18 _ _ _), (RS.to h.1 g he).k18 hk.1 hk.2.1 hk.2.2 _⟩
    | inr q =>
      obtain ⟨d, e⟩ := q
      rw [hd] at g
      obtain ⟨rfl, g⟩ := g
      have hv := tw_v (by decide) (by decide) hd
      exact ⟨(hF.tr g.fr).tr (fr_18 _ _ _), (RS.to h.1 g hv.2.2).k18 hk.1 hk.2.1 hk.2.2 _, hA _ _ _ _ g.2.1 h.2, mu_at _ _ _ _⟩
theorem s_5 {r : Nat ⊕ (((Nat × Nat) × Nat) × Nat)} (h : St T x A4 C0 r C) : ∃ v C', F_X4_readBoiler (0 : Int32) C = some (v, C') ∧ St T x A5 C0 (pbind r fun h e => pbind (boP x T e) fun o e => .inr ((h, o), e)) (mu C' 18 5 1) := by
  have fb : ∀ (C' : Mem) (q : Nat) (w : Bool), Bd C C' 0 q w → Fr C C' := fun C' q w g r a b c d => g.1 r a b c
  obtain ⟨hF, h⟩ := h
  cases r with
  | inl e =>
    obtain ⟨v, C', e1, g⟩ := c_boilerW h (i := 0) (by decide)
    exact ⟨_, _, e1, (hF.tr (fb _ _ _ g)).tr (fr_18 _ _ _), (RS.bd h g h.2.2.2.1).k18 (by decide) (by decide) (by decide) _⟩
  | inr o =>
    obtain ⟨v, C', e1, g⟩ := c_boiler h.1 (i := 0) (by decide)
    refine ⟨v, C', e1, ?_⟩
    rw [show pbind (.inr o) (fun h e => pbind (boP x T e) fun o e => .inr ((h, o), e)) = pbind (boP x T o.2) (fun d e => .inr ((o.1, d), e)) from rfl]
    cases hd : boP x T o.2 with
    | inl e =>
      rw [hd] at g
      have he := bo_e h.1.2.2.2.1 hd
      exact ⟨(hF.tr (fb _ _ _ g)).tr (fr_18 _ _ _), (RS.bd h.1 g he).k18 (by decide) (by decide) (by decide) _⟩
    | inr q =>
      obtain ⟨⟨a, f⟩, e⟩ := q
      rw [hd] at g
      obtain ⟨g, g20, g21⟩ := g
      have hv := bo_v hd
      have h4 := h.2
      refine ⟨(hF.tr (fb _ _ _ g)).tr (fr_18 _ _ _), (RS.bd h.1 g hv.2.2.1).k18 (by decide) (by decide) (by decide) _, ⟨⟨?_, ?_⟩, ?_⟩, mu_at _ _ _ _, ?_, ?_⟩
      · show mu C' 18 5 1 18 2 = _
        rw [mu_o _ _ (by decide), g.2.1 2 (by decide) (by decide)]; exact h4.1.1
      · rw [mu_o _ _ (by decide), g.2.1 3 (by decide) (by decide)]; exact h4.1.2
      · rw [mu_o _ _ (by decide), g.2.1 4 (by decide) (by decide)]; exact h4.2
      · rw [mu_r _ _ _ (show 20 ≠ 18 by decide)]; exact g20
      · rw [mu_r _ _ _ (show 21 ≠ 18 by decide)]; exact g21
theorem s_6 {r : Nat ⊕ ((((Nat × Nat) × Nat) × (Nat × Nat)) × Nat)} (h : St T x A5 C0 r C) (hw : C 18 5 = 1) : ∃ C', iter (fun z => S_X4_read_59 z) fuel C = some C' ∧ St T x A6 C0 (pbind r fun h e => pbind (blP x T 4 1 (fun j => if j = 0 then h.2 else (0, 0)) e) fun b e => .inr ((h.1, b), e)) C' := by
  have hf : fuel = 4 + 2 + 994 := by decide
  obtain ⟨hF, h⟩ := h
  cases r with
  | inl e =>
    refine ⟨C, ?_, hF, h⟩
    refine iter_e _ ?_ 999
    show S_X4_read_59 C = _
    unfold S_X4_read_59
    rw [hw, if_neg (by decide), c_seesW h, b2_s, if_pos rfl]
  | inr o =>
    have h5 := h.2
    obtain ⟨C', e1, g, g2⟩ := c_bl 4 1 (fun j => if j = 0 then o.1.2 else (0, 0)) C o.2 994 (by decide) h.1 hw (fun j hj => by
      have : j = 0 := by omega
      subst this
      rw [if_pos rfl]
      exact h5.2.2)
    refine ⟨C', by rw [hf]; exact e1, ?_⟩
    have fr : Fr C0 C' := hF.tr fun r a b c _ => g.1 r a b c
    rw [show pbind (.inr o) (fun h e => pbind (blP x T 4 1 (fun j => if j = 0 then h.2 else (0, 0)) e) fun b e => .inr ((h.1, b), e)) = pbind (blP x T 4 1 (fun j => if j = 0 then o.1.2 else (0, 0)) o.2) (fun b e => .inr ((o.1.1, b), e)) from rfl]
    cases hd : blP x T 4 1 (fun j => if j = 0 then o.1.2 else (0, 0)) o.2 with
    | inl e =>
      rw [hd] at g2
      exact ⟨fr, g2⟩
    | inr q =>
      obtain ⟨b, e⟩ := q
      rw [hd] at g2
      refine ⟨fr, g2.1, ⟨⟨?_, ?_⟩, ?_⟩, g2.2⟩
      · show C' 18 2 = _
        rw [g.2 2 (by decide) (by decide) (by decide)]; exact h5.1.1.1
      · rw [g.2 3 (by decide) (by decide) (by decide)]; exact h5.1.1.2
      · rw [g.2 4 (by decide) (by decide) (by decide)]; exact h5.1.2
/-- the end of the reading -/
theorem s_7 {r : Nat ⊕ ((((Nat × Nat) × Nat) × (Nat × (Nat → Nat × Nat))) × Nat)} (h : St T x A6 C0 r C) (hL : ∀ h e, r = .inr (h, e) → h.1.1.1 ≤ 8) : ∃ C', b2 (F_X4_sees (116 : Int32) C) (fun r34 C35 => if r34 = 0 then b2 (F_X4_fillTemperatures C35) (fun r41 C42 => J_X4_read_117 C42) else b2 (F_X4_readTemperatures C35) fun r44 C45 => J_X4_read_117 C45) = J_X4_read_117 C' ∧ St T x A7 C0 (pbind r fun h e => pbind (ttP x T h.1.1.1 e) fun t e => .inr ((h, t), e)) C' := by
  have h8 : fuel = 8 + 1 + 991 := by decide
  obtain ⟨hF, h⟩ := h
  have fill : ∀ (p : Nat) (w : Bool), RS T x C p w → RS T x (sr C 22 (fe (fun j u => up u j 40) 8 (C 22))) p w := fun p w h => ⟨h.1, h.2.1, h.2.2.1, h.2.2.2.1, h.2.2.2.2.1, h.2.2.2.2.2⟩
  cases r with
  | inl e =>
    rw [c_seesW h, b2_s, if_pos rfl, g_fill, b2_s]
    exact ⟨_, rfl, hF.tr fun r _ _ _ d => sr_ne C _ d, fill _ _ h⟩
  | inr o =>
    have h6 := h.2
    rw [c_sees h.1, b2_s]
    rw [show pbind (.inr o) (fun h e => pbind (ttP x T h.1.1.1 e) fun t e => .inr ((h, t), e)) = pbind (ttP x T o.1.1.1.1 o.2) (fun t e => .inr ((o.1, t), e)) from rfl]
    unfold ttP
    by_cases hs : o.2 < T ∧ x o.2 = 116
    · rw [if_pos hs, if_neg (by decide), if_pos hs, sg_t hs, pb_r]
      obtain ⟨v, C1, e1, g⟩ := c_sign h.1 116
      rw [sg_t hs] at g
      have h1 := RS.to h.1 g (by omega)
      have hL8 := hL o.1 o.2 rfl
      unfold F_X4_readTemperatures
      rw [e1, b2_s]
      have hf : fuel = o.1.1.1.1 + 1 + (999 - o.1.1.1.1) := by unfold fuel; omega
      obtain ⟨q, e2, g2, g3⟩ := c_tl hL8 o.1.1.1.1 0 0 (fun _ => 40) C1 (o.2 + 1) (999 - o.1.1.1.1) (by omega) (by decide) h1 (by rw [g.2.1 2 (by decide) (by decide)]; exact h6.1.1.1) (fun a ha => absurd ha (Nat.not_lt_zero a))
      rw [← hf] at e2
      have e2' : iter (fun z => S_X4_readTemperatures_10 z.1 z.2.1 z.2.2) fuel ((0 : Int32), (0 : Int32), C1) = some q := e2
      rw [e2', b1_s]
      obtain ⟨q1, q2, q3⟩ := q
      rw [u3_s, b2_s]
      refine ⟨q3, rfl, ?_⟩
      have fr : Fr C0 q3 := (hF.tr g.fr).tr fun r a _ _ d => g2.1 r a d
      cases hd : tmP x T o.1.1.1.1 0 0 (fun _ => 40) (o.2 + 1) with
      | inl e =>
        rw [hd] at g3
        exact ⟨fr, g3⟩
      | inr z =>
        obtain ⟨t, e⟩ := z
        rw [hd] at g3
        have k18 : ∀ k, k ≠ 9 → k ≠ 10 → q3 18 k = C 18 k := fun k a b => (g2.2 k a b).trans (g.2.1 k a b)
        have k20 : q3 20 = C 20 := (g2.1 20 (by decide) (by decide)).trans (g.1 20 (by decide))
        have k21 : q3 21 = C 21 := (g2.1 21 (by decide) (by decide)).trans (g.1 21 (by decide))
        refine ⟨fr, g3.1, ⟨⟨⟨?_, ?_⟩, ?_⟩, ?_, fun j hj => ?_⟩, g3.2⟩
        · show q3 18 2 = _
          rw [k18 2 (by decide) (by decide)]; exact h6.1.1.1
        · rw [k18 3 (by decide) (by decide)]; exact h6.1.1.2
        · rw [k18 4 (by decide) (by decide)]; exact h6.1.2
        · rw [k18 5 (by decide) (by decide)]; exact h6.2.1
        · rw [k20, k21]; exact h6.2.2 j hj
    · rw [if_neg hs, if_pos rfl, if_neg hs, g_fill, b2_s]
      exact ⟨_, rfl, hF.tr fun r _ _ _ d => sr_ne C _ d, fill _ _ h.1, h6, fun a ha => by
        have := hL o.1 o.2 rfl
        rw [sr_same]
        exact fill_at _ 8 a (by have : a < o.1.1.1.1 := ha; omega)⟩
/-- what the class's reader answers -/
theorem c_read (hT : C 18 1 = nI T) (h60 : T ≤ 60) (hx : ∀ k, k < T → C 19 k = x k) : ∃ C', Fr C C' ∧ C' 18 1 = nI T ∧ match rd x T with
    | .inl e => F_X4_read C = some (nI e, C') ∧ e ≤ T
    | .inr c => F_X4_read C = some (-9, C') ∧ A7 c C' := by
  have h0 : RS T x (mu (mu C 18 9 0) 18 10 0) 0 false := ⟨by rw [mu_o _ _ (by decide), mu_o _ _ (by decide)]; exact hT, h60, fun k hk => by rw [mu_r _ _ _ (show 19 ≠ 18 by decide), mu_r _ _ _ (show 19 ≠ 18 by decide)]; exact hx k hk, Nat.zero_le T, by rw [mu_o _ _ (by decide), mu_at]; rfl, by rw [mu_at]; rfl⟩
  have f0 : Fr C (mu (mu C 18 9 0) 18 10 0) := (fr_18 _ _ _).tr (fr_18 _ _ _)
  obtain ⟨v1, C1, e1, g1⟩ := c_sign h0 72
  have S1 : St T x (fun (_ : Nat) (_ : Mem) => True) C (r1 x T) C1 := by
    unfold r1
    cases hs : sgP x T 72 0 with
    | inl e =>
      rw [hs] at g1
      have he := (sg_e hs).1
      exact ⟨f0.tr (P9.fr g1), RS.to h0 g1 (by omega)⟩
    | inr o =>
      rw [hs] at g1
      obtain ⟨o1, o2⟩ := o
      have hv := sg_v hs
      exact ⟨f0.tr (P9.fr g1), RS.to h0 g1 (by omega), trivial⟩
  obtain ⟨v2, C2, e2, S2⟩ := s_2 S1
  obtain ⟨v3, C3, e3, S3⟩ := s_n (k := 3) ⟨by decide, by decide, by decide⟩ (fun a C C' v g h => by
    show mu C' 18 3 v 18 2 = _
    rw [mu_o _ _ (by decide), g 2 (by decide) (by decide)]
    exact h) S2
  obtain ⟨v4, C4, e4, S4⟩ := s_n (k := 4) ⟨by decide, by decide, by decide⟩ (fun a C C' v g h => by
    refine ⟨?_, ?_⟩
    · show mu C' 18 4 v 18 2 = _
      rw [mu_o _ _ (by decide), g 2 (by decide) (by decide)]
      exact h.1
    · rw [mu_o _ _ (by decide), g 3 (by decide) (by decide)]
      exact h.2) S3
  obtain ⟨v5, C5, e5, S5⟩ := s_5 (r := r4 x T) S4
  obtain ⟨C6, e6, S6⟩ := s_6 (r := r5 x T) S5 (mu_at _ _ _ _)
  obtain ⟨C7, e7, S7⟩ := s_7 (r := r6 x T) S6 (fun h e q => (r6_v q).1.1.1.2)
  have S7' : St T x A7 C (r7 x T) C7 := S7
  have hread : F_X4_read C = J_X4_read_117 C7 := by
    unfold F_X4_read
    rw [nm_s, nm_s, e1, b2_s, e2, b2_s, nm_s, e3, b2_s, nm_s, e4, b2_s, nm_s, e5, b2_s, nm_s, e6, b1_s]
    exact e7
  rw [hread]
  obtain ⟨fr, S8⟩ := S7'
  refine ⟨C7, fr, ?_, ?_⟩
  · cases h7 : r7 x T with
    | inl e => rw [h7] at S8; exact S8.1
    | inr o => rw [h7] at S8; exact S8.1.1
  · unfold rd J_X4_read_117
    cases h7 : r7 x T with
    | inl e =>
      rw [h7] at S8
      have h10 : C7 18 10 = 1 := S8.2.2.2.2.2
      have h9 : C7 18 9 = nI e := S8.2.2.2.2.1
      show (if C7 18 10 = 0 then _ else _) = some (nI e, C7) ∧ e ≤ T
      rw [h10, if_neg (by decide), h9]
      exact ⟨rfl, S8.2.2.2.1⟩
    | inr o =>
      rw [h7] at S8
      have h10 : C7 18 10 = 0 := S8.1.2.2.2.2.2
      have h9 : C7 18 9 = nI o.2 := S8.1.2.2.2.2.1
      have h1 : C7 18 1 = nI T := S8.1.1
      have hle : o.2 ≤ T := S8.1.2.2.2.1
      rw [h10, if_pos rfl, h9, h1]
      by_cases hc : o.2 < T
      · rw [if_neg (nI_ge hc (by omega))]
        simp only [if_pos hc]
        exact ⟨trivial, hle⟩
      · rw [if_pos (nI_le (by omega) (by omega))]
        simp only [if_neg hc]
        exact ⟨trivial, S8.2⟩
end RD

