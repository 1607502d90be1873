/-! what holds between the calls -/
def Sv (N Y K : Nat) (y z : Pg) : Prop := y 65 = nI N ∧ y 66 = nI Y ∧ WF N Y K y ∧ Agree N Y y z
def Nu (N Y : Nat) (C : Mem) : Prop := 1 ≤ N ∧ N ≤ 5 ∧ 2 ≤ Y ∧ Y ≤ 8 ∧ C 30 4 = nI N ∧ C 30 5 = nI Y
def Tx (C : Mem) : Prop := ∃ T, T ≤ 60 ∧ C 18 1 = nI T ∧ C 30 2 = nI T ∧ ∀ k, k < T → C 19 k = C 31 k
def Hs (N Y K : Nat) (C : Mem) : Prop := ∃ P H, P < 15 ∧ H ≤ 14 ∧ C 23 1 = nI P ∧ C 23 2 = nI H ∧ C 30 12 = nI H ∧ ∀ j, j < H → Sv N Y K (C (2 + (P + 13 - j) % 14)) (fun k => C 35 (65 * (H - 1 - j) + k))
def Sl (N Y K : Nat) (C : Mem) : Prop := ∀ k, k < 2 → C 24 k = C 37 k ∧ (C 24 k = 0 ∨ C 24 k = 1) ∧ (C 24 k = 1 → Sv N Y K (C (16 + k)) (fun j => C 36 (65 * k + j)))
def Inv (K : Nat) (C : Mem) : Prop := ∃ N Y, Nu N Y C ∧ Sv N Y K (C 0) (C 33) ∧ Tx C ∧ Hs N Y K C ∧ Sl N Y K C
theorem Sv.mo {N Y K L : Nat} {y z : Pg} (h : Sv N Y K y z) (hK : K ≤ L) : Sv N Y L y z := ⟨h.1, h.2.1, h.2.2.1.mo hK, h.2.2.2⟩
theorem Hs.mo {N Y K L : Nat} {C : Mem} (h : Hs N Y K C) (hK : K ≤ L) : Hs N Y L C := by
  obtain ⟨P, H, h1, h2, h3, h4, h5, h6⟩ := h
  exact ⟨P, H, h1, h2, h3, h4, h5, fun j hj => (h6 j hj).mo hK⟩
theorem Sl.mo {N Y K L : Nat} {C : Mem} (h : Sl N Y K C) (hK : K ≤ L) : Sl N Y L C := fun k hk => ⟨(h k hk).1, (h k hk).2.1, fun e => ((h k hk).2.2 e).mo hK⟩
theorem Inv.mo {K L : Nat} {C : Mem} (h : Inv K C) (hK : K ≤ L) : Inv L C := by
  obtain ⟨N, Y, h1, h2, h3, h4, h5⟩ := h
  exact ⟨N, Y, h1, h2.mo hK, h3, h4.mo hK, h5.mo hK⟩
theorem Nu.cg {N Y : Nat} {C D : Mem} (h : Nu N Y C) (e4 : D 30 4 = C 30 4) (e5 : D 30 5 = C 30 5) : Nu N Y D := ⟨h.1, h.2.1, h.2.2.1, h.2.2.2.1, e4.trans h.2.2.2.2.1, e5.trans h.2.2.2.2.2⟩
theorem Tx.cg {C D : Mem} (h : Tx C) (e18 : D 18 1 = C 18 1) (e19 : D 19 = C 19) (e30 : D 30 2 = C 30 2) (e31 : D 31 = C 31) : Tx D := by
  obtain ⟨T, h1, h2, h3, h4⟩ := h
  exact ⟨T, h1, e18.trans h2, e30.trans h3, fun k hk => by rw [e19, e31]; exact h4 k hk⟩
theorem Hs.cg {N Y K : Nat} {C D : Mem} (h : Hs N Y K C) (e1 : D 23 = C 23) (e2 : D 30 12 = C 30 12) (e3 : ∀ r, 2 ≤ r → r < 16 → D r = C r) (e4 : D 35 = C 35) : Hs N Y K D := by
  obtain ⟨P, H, h1, h2, h3, h4, h5, h6⟩ := h
  refine ⟨P, H, h1, h2, by rw [e1]; exact h3, by rw [e1]; exact h4, by rw [e2]; exact h5, fun j hj => ?_⟩
  rw [e3 _ (by omega) (by omega), e4]
  exact h6 j hj
theorem Sl.cg {N Y K : Nat} {C D : Mem} (h : Sl N Y K C) (e1 : D 24 = C 24) (e2 : D 37 = C 37) (e3 : D 16 = C 16 ∧ D 17 = C 17) (e4 : D 36 = C 36) : Sl N Y K D := by
  intro k hk
  have e : D (16 + k) = C (16 + k) := by
    rcases (show k = 0 ∨ k = 1 by omega) with q | q
    · subst q; exact e3.1
    · subst q; exact e3.2
  rw [e1, e2, e, e4]
  exact h k hk
/-- what the calls may change and nobody asks for -/
def Qt (C D : Mem) : Prop := (∀ r, r ≠ 1 → r ≠ 34 → r ≠ 40 → r ≠ 30 → D r = C r) ∧ ∀ k, k ≠ 0 → D 30 k = C 30 k
theorem Qt.rf (C : Mem) : Qt C C := ⟨fun _ _ _ _ _ => rfl, fun _ _ => rfl⟩
theorem Qt.tr {C C1 C2 : Mem} (h : Qt C C1) (g : Qt C1 C2) : Qt C C2 := ⟨fun r a b c d => (g.1 r a b c d).trans (h.1 r a b c d), fun k a => (g.2 k a).trans (h.2 k a)⟩
theorem qt_40 (C : Mem) (v : Int32) : Qt C (mu C 40 0 v) := ⟨fun _ _ _ c _ => mu_r C _ _ c, fun _ _ => by rw [mu_r C _ _ (show 30 ≠ 40 by decide)]⟩
theorem qt_30 (C : Mem) (v : Int32) : Qt C (mu C 30 0 v) := ⟨fun _ _ _ _ d => mu_r C _ _ d, fun _ a => mu_o C _ a⟩
theorem qt_1 (C : Mem) (y : Pg) : Qt C (sr C 1 y) := ⟨fun _ a _ _ _ => sr_ne C _ a, fun _ _ => by rw [sr_ne C _ (show 30 ≠ 1 by decide)]⟩
theorem qt_34 (C : Mem) (y : Pg) : Qt C (sr C 34 y) := ⟨fun _ _ b _ _ => sr_ne C _ b, fun _ _ => by rw [sr_ne C _ (show 30 ≠ 34 by decide)]⟩
theorem Inv.qt {K : Nat} {C D : Mem} (h : Inv K C) (q : Qt C D) : Inv K D := by
  have e : ∀ r, r ≠ 1 → r ≠ 34 → r ≠ 40 → r ≠ 30 → D r = C r := q.1
  obtain ⟨N, Y, h1, h2, h3, h4, h5⟩ := h
  refine ⟨N, Y, h1.cg (q.2 4 (by decide)) (q.2 5 (by decide)), ?_, h3.cg ?_ (e 19 (by decide) (by decide) (by decide) (by decide)) (q.2 2 (by decide)) (e 31 (by decide) (by decide) (by decide) (by decide)), h4.cg (e 23 (by decide) (by decide) (by decide) (by decide)) (q.2 12 (by decide)) (fun r a b => e r (by omega) (by omega) (by omega) (by omega)) (e 35 (by decide) (by decide) (by decide) (by decide)), h5.cg (e 24 (by decide) (by decide) (by decide) (by decide)) (e 37 (by decide) (by decide) (by decide) (by decide)) ⟨e 16 (by decide) (by decide) (by decide) (by decide), e 17 (by decide) (by decide) (by decide) (by decide)⟩ (e 36 (by decide) (by decide) (by decide) (by decide))⟩
  · rw [e 0 (by decide) (by decide) (by decide) (by decide), e 33 (by decide) (by decide) (by decide) (by decide)]
    exact h2
  · rw [e 18 (by decide) (by decide) (by decide) (by decide)]
/-- a call of both: the same number of an exception, or the same answer -/
def Res (K : Nat) (x : Option (Int32 × Mem)) (g : Mem → Option (Int32 × Mem)) : Prop := ∃ c C1 v C2, x = some (c, C1) ∧ g C1 = some (v, C2) ∧ C2 30 0 = c ∧ (c = 0 → C2 40 0 = v) ∧ Inv (K + 96) C2
theorem res_ask {K : Nat} {C : Mem} (h : Inv K C) {x : Option (Int32 × Mem)} {g : Mem → Option (Int32 × Mem)} {v : Int32} (h1 : x = some (0, mu C 40 0 v)) (h2 : g (mu C 40 0 v) = some (v, mu (mu C 40 0 v) 30 0 0)) : Res K x g :=
  ⟨0, _, v, _, h1, h2, mu_at _ _ _ _, fun _ => by rw [mu_r _ _ _ (show 40 ≠ 30 by decide), mu_at], ((h.qt (qt_40 C v)).qt (qt_30 _ 0)).mo (by omega)⟩
theorem res_no {K : Nat} {C : Mem} (h : Inv K C) {x : Option (Int32 × Mem)} {g : Mem → Option (Int32 × Mem)} {c w : Int32} (hc : c ≠ 0) (h1 : x = some (c, C)) (h2 : g C = some (w, mu C 30 0 c)) : Res K x g :=
  ⟨c, _, w, _, h1, h2, mu_at _ _ _ _, fun e => absurd e hc, (h.qt (qt_30 _ c)).mo (by omega)⟩
/-- the law's last words on a call -/
theorem law_ok {v1 c v : Int32} {C : Mem} (h0 : C 30 0 = c) (h1 : c = 0 → C 40 0 = v) : (b2 (F_X9_thrown C) fun r44 C45 => (if r44 = c then (if c = 0 then (if (lg_cmp ((C45 40 0).toInt64) (v.toInt64)) = 0 then nm (v1 + (4 : Int32)) fun v51 => some (Sum.inl (v51, C45)) else none) else nm (v1 + (4 : Int32)) fun v49 => some (Sum.inl (v49, C45))) else none) : Option ((Int32 × Mem) ⊕ (Int32 × Mem))) = some (.inl (v1 + 4, C)) := by
  unfold F_X9_thrown
  rw [b2_s, if_pos h0]
  by_cases hc : c = 0
  · rw [if_pos hc, h1 hc, if_pos ((lg_cmp_eq _ _).mpr rfl), nm_s]
  · rw [if_neg hc, nm_s]
theorem el_l {α β γ : Type} (f : α → γ) (g : β → γ) (v : α) : Sum.elim f g (Sum.inl v) = f v := rfl
theorem el_r {α β γ : Type} (f : α → γ) (g : β → γ) (v : β) : Sum.elim f g (Sum.inr v) = g v := rfl
/-! what both check -/
theorem rq (x a b : Int32) (C : Mem) : F_X8_requireWithin x a b C = some ((if a ≤ x ∧ x ≤ b then .inl 0 else .inr 1), C) := by
  unfold F_X8_requireWithin
  by_cases h1 : x < a
  · rw [if_pos h1, if_neg (fun q => (fa_of_lt h1).2.1 q.1)]
  · rw [if_neg h1]
    by_cases h2 : x ≤ b
    · rw [if_pos h2, if_pos ⟨fa_of_nlt h1, h2⟩]
    · rw [if_neg h2, if_neg (fun q => h2 q.2)]
theorem refd (v : Int32) (C : Mem) : F_X9_refused v C = some ((if v ≤ 0 then 0 else 1), mu C 30 0 v) := by
  unfold F_X9_refused
  rw [nm_s]
  split <;> rfl
theorem ref0 (C : Mem) : F_X9_refused 0 C = some (0, mu C 30 0 0) := by rw [refd, if_pos (by decide)]
theorem ref1 (C : Mem) : F_X9_refused 1 C = some (1, mu C 30 0 1) := by rw [refd, if_neg (by decide)]
theorem ref2 (C : Mem) : F_X9_refused 2 C = some (1, mu C 30 0 2) := by rw [refd, if_neg (by decide)]
/-- an int within bounds is a number -/
theorem in_n {x a b : Int32} {m n : Nat} (ha : a.toInt = m) (hb : b.toInt = n) (h : a ≤ x ∧ x ≤ b) : ∃ k, m ≤ k ∧ k ≤ n ∧ x = nI k := by
  obtain ⟨h1, h2⟩ := h
  rw [fa_le, ha] at h1
  rw [fa_le, hb] at h2
  have := fb_rng x
  exact ⟨x.toInt.toNat, by omega, by omega, i_eq (by rw [ti _ (by omega)]; omega)⟩
theorem has_q {C : Mem} {q N : Nat} (hN : C q 65 = nI N) (h1 : 1 ≤ N) (h5 : N ≤ 5) (x : Int32) : F_X5_hasBoiler q x C = some ((if 0 ≤ x ∧ x ≤ nI (N - 1) then 1 else 0), C) := by
  unfold F_X5_hasBoiler
  rw [hN]
  have e0 : (0 : Int32).toInt = 0 := rfl
  by_cases c1 : x < 0
  · rw [if_pos c1, if_neg (fun z => (fa_of_lt c1).2.1 z.1)]
  · rw [if_neg c1]
    by_cases c2 : nI N ≤ x
    · rw [if_pos c2, if_neg (fun z => by have a := z.2; rw [fa_le, ti _ (by omega)] at a c2; omega)]
    · rw [if_neg c2, if_pos ⟨fa_of_nlt c1, by rw [fa_le, ti _ (by omega)] at *; omega⟩]
theorem has_m {C : Mem} {N : Nat} (hN : C 30 4 = nI N) (h1 : 1 ≤ N) (x : Int32) : F_X9_isBoiler x C = some ((if 0 ≤ x ∧ x ≤ nI (N - 1) then 1 else 0), C) := by
  unfold F_X9_isBoiler
  rw [hN, s1 h1, f_inL (b := 0) (c := nI (N - 1)) (by decide) rfl, b2_s]
  split
  · rw [gb_p (Or.inr rfl)]
  · rw [gb_p (Or.inl rfl)]
theorem in_b {x : Int32} {N : Nat} (h1 : 1 ≤ N) (h5 : N ≤ 5) (h : 0 ≤ x ∧ x ≤ nI (N - 1)) : ∃ i, i < N ∧ x = nI i := by
  obtain ⟨k, -, h2, e⟩ := in_n (m := 0) (n := N - 1) rfl (ti _ (by omega)) h
  exact ⟨k, by omega, e⟩
theorem rqB {C : Mem} {N : Nat} (hN : C 0 65 = nI N) (h1 : 1 ≤ N) (h5 : N ≤ 5) (x : Int32) : F_X8_requireBoiler x C = some ((if 0 ≤ x ∧ x ≤ nI (N - 1) then .inl 0 else .inr 3), C) := by
  unfold F_X8_requireBoiler
  rw [has_q hN h1 h5, b2_s]
  by_cases h : 0 ≤ x ∧ x ≤ nI (N - 1)
  · rw [if_pos h, if_neg (by decide), if_pos h]
  · rw [if_neg h, if_pos rfl, if_neg h]
theorem rqF (x : Int32) (C : Mem) : F_X8_requireFlue x C = some ((if 0 ≤ x ∧ x ≤ 1 then .inl 0 else .inr 3), C) := by
  have e0 : (0 : Int32).toInt = 0 := rfl
  have e1 : (1 : Int32).toInt = 1 := rfl
  have e2 : (2 : Int32).toInt = 2 := rfl
  unfold F_X8_requireFlue
  by_cases c1 : x < 0
  · rw [if_pos c1, if_neg (fun z => (fa_of_lt c1).2.1 z.1)]
  · rw [if_neg c1]
    by_cases c2 : x < 2
    · rw [if_pos c2, if_pos ⟨fa_of_nlt c1, by rw [fa_lt] at c2; rw [fa_le]; omega⟩]
    · rw [if_neg c2, if_neg (fun z => by have a := z.2; rw [fa_le] at a; rw [fa_lt] at c2; omega)]
theorem rqT (m d : Int32) (C : Mem) : F_X8_requireTicks m d C = some ((if (1 ≤ m ∧ m ≤ 96) ∧ (0 ≤ d ∧ d ≤ 5) then .inl 0 else .inr 1), C) := by
  unfold F_X8_requireTicks
  rw [rq, b2_s]
  by_cases h1 : 1 ≤ m ∧ m ≤ 96
  · rw [if_pos h1, el_l, rq, b2_s]
    by_cases h2 : 0 ≤ d ∧ d ≤ 5
    · rw [if_pos h2, if_pos ⟨h1, h2⟩, el_l]
    · rw [if_neg h2, if_neg (fun q => h2 q.2), el_r]
  · rw [if_neg h1, if_neg (fun q => h1 q.1), el_r]
theorem arT (m d : Int32) (C : Mem) : F_X9_areTicks m d C = some ((if (1 ≤ m ∧ m ≤ 96) ∧ (0 ≤ d ∧ d ≤ 5) then 1 else 0), C) := by
  unfold F_X9_areTicks
  rw [f_inL (b := 1) (c := 96) (by decide) (by decide), b2_s]
  by_cases h1 : 1 ≤ m ∧ m ≤ 96
  · rw [if_pos h1, if_neg (by decide), f_inL (b := 0) (c := 5) (by decide) (by decide), b2_s]
    by_cases h2 : 0 ≤ d ∧ d ≤ 5
    · rw [if_pos h2, if_neg (by decide), if_pos ⟨h1, h2⟩]
    · rw [if_neg h2, if_pos rfl, if_neg (fun q => h2 q.2)]
  · rw [if_neg h1, if_pos rfl, if_neg (fun q => h1 q.1)]
