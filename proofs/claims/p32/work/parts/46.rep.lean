/-! one object: what it stands for. z the page, H pages hf behind it (the last first), the slots s, the text x of T signs -/
def Sv (N Y K : Nat) (y z : Pg) : Prop := y 65 = nI N ∧ y 66 = nI Y ∧ WF N Y K y ∧ Agree N Y y z
theorem Sv.mo {N Y K L : Nat} {y z : Pg} (h : Sv N Y K y z) (hK : K ≤ L) : Sv N Y L y z := ⟨h.1, h.2.1, h.2.2.1.mo hK, h.2.2.2⟩
theorem el_l {α β γ : Type} (f : α → γ) (g : β → γ) (v : α) : Sum.elim f g (Sum.inl v) = f v := rfl
theorem el_r {α β γ : Type} (f : α → γ) (g : β → γ) (v : β) : Sum.elim f g (Sum.inr v) = g v := rfl
/-! what both check -/
theorem rq (x a b : Int32) (C : Mem) : F_X8_requireWithin x a b C = some ((if a ≤ x ∧ x ≤ b then .inl 0 else .inr 1), C) := by
  unfold F_X8_requireWithin
  by_cases h1 : x < a
  · rw [if_pos h1, if_neg (fun q => (fa_of_lt h1).2.1 q.1)]
  · rw [if_neg h1]
    by_cases h2 : x ≤ b
    · rw [if_pos h2, if_pos ⟨fa_of_nlt h1, h2⟩]
    · rw [if_neg h2, if_neg (fun q => h2 q.2)]
/-- an int within bounds is a number -/
theorem in_n {x a b : Int32} {m n : Nat} (ha : a.toInt = m) (hb : b.toInt = n) (h : a ≤ x ∧ x ≤ b) : ∃ k, m ≤ k ∧ k ≤ n ∧ x = nI k := by
  obtain ⟨h1, h2⟩ := h
  rw [fa_le, ha] at h1
  rw [fa_le, hb] at h2
  have := fb_rng x
  exact ⟨x.toInt.toNat, by omega, by omega, i_eq (by rw [ti _ (by omega)]; omega)⟩
theorem has_q {C : Mem} {q N : Nat} (hN : C q 65 = nI N) (h1 : 1 ≤ N) (h5 : N ≤ 5) (x : Int32) : F_X5_hasBoiler q x C = some ((if 0 ≤ x ∧ x ≤ nI (N - 1) then 1 else 0), C) := by
  unfold F_X5_hasBoiler
  rw [hN]
  have e0 : (0 : Int32).toInt = 0 := rfl
  by_cases c1 : x < 0
  · rw [if_pos c1, if_neg (fun z => (fa_of_lt c1).2.1 z.1)]
  · rw [if_neg c1]
    by_cases c2 : nI N ≤ x
    · rw [if_pos c2, if_neg (fun z => by have a := z.2; rw [fa_le, ti _ (by omega)] at a c2; omega)]
    · rw [if_neg c2, if_pos ⟨fa_of_nlt c1, by rw [fa_le, ti _ (by omega)] at *; omega⟩]
theorem in_b {x : Int32} {N : Nat} (h1 : 1 ≤ N) (h5 : N ≤ 5) (h : 0 ≤ x ∧ x ≤ nI (N - 1)) : ∃ i, i < N ∧ x = nI i := by
  obtain ⟨k, -, h2, e⟩ := in_n (m := 0) (n := N - 1) rfl (ti _ (by omega)) h
  exact ⟨k, by omega, e⟩
theorem rqB {C : Mem} {N : Nat} (hN : C 0 65 = nI N) (h1 : 1 ≤ N) (h5 : N ≤ 5) (x : Int32) : F_X8_requireBoiler x C = some ((if 0 ≤ x ∧ x ≤ nI (N - 1) then .inl 0 else .inr 3), C) := by
  unfold F_X8_requireBoiler
  rw [has_q hN h1 h5, b2_s]
  by_cases h : 0 ≤ x ∧ x ≤ nI (N - 1)
  · rw [if_pos h, if_neg (by decide), if_pos h]
  · rw [if_neg h, if_pos rfl, if_neg h]
theorem rqF (x : Int32) (C : Mem) : F_X8_requireFlue x C = some ((if 0 ≤ x ∧ x ≤ 1 then .inl 0 else .inr 3), C) := by
  have e0 : (0 : Int32).toInt = 0 := rfl
  have e1 : (1 : Int32).toInt = 1 := rfl
  have e2 : (2 : Int32).toInt = 2 := rfl
  unfold F_X8_requireFlue
  by_cases c1 : x < 0
  · rw [if_pos c1, if_neg (fun z => (fa_of_lt c1).2.1 z.1)]
  · rw [if_neg c1]
    by_cases c2 : x < 2
    · rw [if_pos c2, if_pos ⟨fa_of_nlt c1, by rw [fa_lt] at c2; rw [fa_le]; omega⟩]
    · rw [if_neg c2, if_neg (fun z => by have a := z.2; rw [fa_le] at a; rw [fa_lt] at c2; omega)]
theorem rqT (m d : Int32) (C : Mem) : F_X8_requireTicks m d C = some ((if (1 ≤ m ∧ m ≤ 96) ∧ (0 ≤ d ∧ d ≤ 5) then .inl 0 else .inr 1), C) := by
  unfold F_X8_requireTicks
  rw [rq, b2_s]
  by_cases h1 : 1 ≤ m ∧ m ≤ 96
  · rw [if_pos h1, el_l, rq, b2_s]
    by_cases h2 : 0 ≤ d ∧ d ≤ 5
    · rw [if_pos h2, if_pos ⟨h1, h2⟩, el_l]
    · rw [if_neg h2, if_neg (fun q => h2 q.2), el_r]
  · rw [if_neg h1, if_neg (fun q => h1 q.1), el_r]
theorem rqS (x : Int32) (C : Mem) : F_X8_requireSlot x C = some ((if 0 ≤ x ∧ x ≤ 1 then .inl 0 else .inr 3), C) := by
  unfold F_X8_requireSlot
  by_cases h0 : x = 0
  · subst h0
    rw [if_pos rfl, if_pos (by decide)]
  · rw [if_neg h0]
    by_cases h1 : x = 1
    · subst h1
      rw [if_pos rfl, if_pos (by decide)]
    · rw [if_neg h1, if_neg]
      intro q
      obtain ⟨k, -, hk, rfl⟩ := in_n (m := 0) (n := 1) rfl rfl q
      rcases (show k = 0 ∨ k = 1 by omega) with e | e
      · subst e; exact h0 rfl
      · subst e; exact h1 rfl
/-- what the law calls sound, of one boiler -/
def SB (K : Nat) (z : Pg) (i : Nat) : Prop := (z (30 + 7 * i + 4)).toInt ≤ (z 6).toInt ∧ (z (30 + 7 * i)).toInt * (z (30 + 7 * i + 4)).toInt ≤ (z (30 + 7 * i + 6)).toInt ∧ (0 ≤ (z (30 + 7 * i + 5)).toInt ∧ (z (30 + 7 * i + 5)).toInt ≤ K) ∧ (0 < (z (30 + 7 * i + 5)).toInt ∨ z (30 + 7 * i + 2) = 0 ∨ z (30 + 7 * i + 2) = 4) ∧ (z (30 + 7 * i + 4) = 0 ∨ 0 < (z (30 + 7 * i + 5)).toInt)
/-- of the whole -/
def SD (N K : Nat) (z : Pg) : Prop := (z 8 = 0 → z 9 = 0 ∧ z 10 = 0) ∧ (0 ≤ (z 9).toInt ∧ (z 9).toInt ≤ (z 10).toInt) ∧ z 14 = 10 * z 17 ∧ (0 ≤ (z 6).toInt ∧ (z 6).toInt ≤ K) ∧ (0 ≤ (z 11).toInt ∧ (z 11).toInt ≤ K) ∧ ∀ i, i < N → SB K z i
def Sw (N Y K : Nat) (y z : Pg) : Prop := Sv N Y K y z ∧ SD N K z
def Sn (N Y : Nat) : Prop := (1 ≤ N ∧ N ≤ 5) ∧ (2 ≤ Y ∧ Y ≤ 8)
def Hs (N Y K H : Nat) (hf : Nat → Pg) (C : Mem) : Prop := H ≤ 14 ∧ ∃ P, P < 15 ∧ C 23 1 = nI P ∧ C 23 2 = nI H ∧ ∀ j, j < H → Sw N Y K (C (2 + (P + 13 - j) % 14)) (hf j)
/-- the slots; place 2 tells how long the text is -/
def Sl (N Y K : Nat) (s : Nat → Option Pg) (C : Mem) : Prop := (∀ k, k < 2 → (s k = none → C 24 k = 0) ∧ ∀ z, s k = some z → C 24 k = 1 ∧ Sw N Y K (C (16 + k)) z) ∧ ∀ w, s 2 = some w → C 18 1 = w 0
def Ob (N Y K : Nat) (z : Pg) (C : Mem) : Prop := Sn N Y ∧ Sw N Y K (C 0) z
def Zu (N Y K : Nat) (z : Pg) (H : Nat) (hf : Nat → Pg) (s : Nat → Option Pg) (C : Mem) : Prop := Ob N Y K z C ∧ Hs N Y K H hf C ∧ Sl N Y K s C
def Tx (T : Nat) (x : Pg) (C : Mem) : Prop := T ≤ 60 ∧ C 18 1 = nI T ∧ ∀ k, k < T → C 19 k = x k
theorem SB.mo {K L : Nat} {z : Pg} {i : Nat} (h : SB K z i) (hK : K ≤ L) : SB L z i := ⟨h.1, h.2.1, ⟨h.2.2.1.1, by have := h.2.2.1.2; omega⟩, h.2.2.2⟩
theorem SD.mo {N K L : Nat} {z : Pg} (h : SD N K z) (hK : K ≤ L) : SD N L z := ⟨h.1, h.2.1, h.2.2.1, ⟨h.2.2.2.1.1, by have := h.2.2.2.1.2; omega⟩, ⟨h.2.2.2.2.1.1, by have := h.2.2.2.2.1.2; omega⟩, fun i hi => (h.2.2.2.2.2 i hi).mo hK⟩
theorem Sw.mo {N Y K L : Nat} {y z : Pg} (h : Sw N Y K y z) (hK : K ≤ L) : Sw N Y L y z := ⟨h.1.mo hK, h.2.mo hK⟩
theorem Hs.mo {N Y K L H : Nat} {hf : Nat → Pg} {C : Mem} (h : Hs N Y K H hf C) (hK : K ≤ L) : Hs N Y L H hf C := by
  obtain ⟨h1, P, h2, h3, h4, h5⟩ := h
  exact ⟨h1, P, h2, h3, h4, fun j hj => (h5 j hj).mo hK⟩
theorem Sl.mo {N Y K L : Nat} {s : Nat → Option Pg} {C : Mem} (h : Sl N Y K s C) (hK : K ≤ L) : Sl N Y L s C := ⟨fun k hk => ⟨(h.1 k hk).1, fun z hz => ⟨((h.1 k hk).2 z hz).1, ((h.1 k hk).2 z hz).2.mo hK⟩⟩, h.2⟩
theorem Ob.mo {N Y K L : Nat} {z : Pg} {C : Mem} (h : Ob N Y K z C) (hK : K ≤ L) : Ob N Y L z C := ⟨h.1, h.2.mo hK⟩
theorem Zu.mo {N Y K L H : Nat} {z : Pg} {hf : Nat → Pg} {s : Nat → Option Pg} {C : Mem} (h : Zu N Y K z H hf s C) (hK : K ≤ L) : Zu N Y L z H hf s C := ⟨h.1.mo hK, h.2.1.mo hK, h.2.2.mo hK⟩
theorem Hs.cg {N Y K H : Nat} {hf : Nat → Pg} {C D : Mem} (h : Hs N Y K H hf C) (e1 : D 23 = C 23) (e3 : ∀ r, 2 ≤ r → r < 16 → D r = C r) : Hs N Y K H hf D := by
  obtain ⟨h1, P, h2, h3, h4, h5⟩ := h
  refine ⟨h1, P, h2, by rw [e1]; exact h3, by rw [e1]; exact h4, fun j hj => ?_⟩
  rw [e3 _ (by omega) (by omega)]
  exact h5 j hj
theorem Sl.cg {N Y K : Nat} {s : Nat → Option Pg} {C D : Mem} (h : Sl N Y K s C) (e1 : D 24 = C 24) (e2 : D 16 = C 16) (e3 : D 17 = C 17) (e4 : D 18 = C 18) : Sl N Y K s D := by
  refine ⟨fun k hk => ?_, fun w hw => by rw [e4]; exact h.2 w hw⟩
  have e : D (16 + k) = C (16 + k) := by
    rcases (show k = 0 ∨ k = 1 by omega) with q | q
    · subst q; exact e2
    · subst q; exact e3
  rw [e1, e]
  exact h.1 k hk
/-- nothing that an object stands for is touched -/
def Kt (C D : Mem) : Prop := ∀ r, r ≠ 1 → D r = C r
theorem Kt.rf (C : Mem) : Kt C C := fun _ _ => rfl
theorem Kt.tr {C C1 C2 : Mem} (h : Kt C C1) (g : Kt C1 C2) : Kt C C2 := fun r a => (g r a).trans (h r a)
theorem kt_1 (C : Mem) (y : Pg) : Kt C (sr C 1 y) := fun _ a => sr_ne C _ a
theorem Zu.kt {N Y K H : Nat} {z : Pg} {hf : Nat → Pg} {s : Nat → Option Pg} {C D : Mem} (h : Zu N Y K z H hf s C) (q : Kt C D) : Zu N Y K z H hf s D := by
  have e : ∀ r, r ≠ 1 → D r = C r := q
  refine ⟨⟨h.1.1, by rw [e 0 (by decide)]; exact h.1.2⟩, h.2.1.cg (e 23 (by decide)) (fun r a b => e r (by omega)), h.2.2.cg (e 24 (by decide)) (e 16 (by decide)) (e 17 (by decide)) (e 18 (by decide))⟩
theorem SB.ag {N Y K : Nat} {y z : Pg} {i : Nat} (hi : i < N) (h : SB K z i) (g : Agree N Y y z) : SB K y i := by
  unfold SB
  rw [g.b0 hi, g.b2 hi, g.b4 hi, g.b5 hi, g.b6 hi, g.1 6 (by decide)]
  exact h
theorem SD.ag {N Y K : Nat} {y z : Pg} (h : SD N K z) (g : Agree N Y y z) : SD N K y := by
  unfold SD
  rw [g.1 6 (by decide), g.1 8 (by decide), g.1 9 (by decide), g.1 10 (by decide), g.1 11 (by decide), g.1 14 (by decide), g.1 17 (by decide)]
  exact ⟨h.1, h.2.1, h.2.2.1, h.2.2.2.1, h.2.2.2.2.1, fun i hi => (h.2.2.2.2.2 i hi).ag hi g⟩
/-- the page itself -/
theorem Ob.wz {N Y K : Nat} {z : Pg} {C : Mem} (h : Ob N Y K z C) : WF N Y K z := h.2.1.2.2.1.ag h.2.1.2.2.2.sy
theorem Ob.sz {N Y K : Nat} {z : Pg} {C : Mem} (h : Ob N Y K z C) : SD N K z := h.2.2
theorem Ob.rg {N Y K : Nat} {z z' : Pg} {C : Mem} (h : Ob N Y K z C) (g : Agree N Y z z') : Ob N Y K z' C := ⟨h.1, ⟨h.2.1.1, h.2.1.2.1, h.2.1.2.2.1, h.2.1.2.2.2.tr g⟩, h.2.2.ag g.sy⟩
