/-! the text: what reading it tells -/
def pbind {α β : Type} (r : Nat ⊕ (α × Nat)) (k : α → Nat → Nat ⊕ (β × Nat)) : Nat ⊕ (β × Nat) := match r with
  | .inl e => .inl e
  | .inr o => k o.1 o.2
theorem pb_l {α β : Type} (e : Nat) (k : α → Nat → Nat ⊕ (β × Nat)) : pbind (.inl e) k = .inl e := rfl
theorem pb_r {α β : Type} (a : α) (e : Nat) (k : α → Nat → Nat ⊕ (β × Nat)) : pbind (.inr (a, e)) k = k a e := rfl
/-- a character, a digit, two digits -/
def sgP (x : Pg) (T : Nat) (c : Int32) (p : Nat) : Nat ⊕ (Nat × Nat) := if p < T ∧ x p = c then .inr (0, p + 1) else .inl p
def dgP (x : Pg) (T a b p : Nat) : Nat ⊕ (Nat × Nat) := if p < T ∧ nI a ≤ x p - 48 ∧ x p - 48 ≤ nI b then .inr ((x p - 48).toInt.toNat, p + 1) else .inl p
def twP (x : Pg) (T a b p : Nat) : Nat ⊕ (Nat × Nat) := pbind (dgP x T (a / 10) (b / 10) p) fun v e => pbind (dgP x T (if v = a / 10 then a % 10 else 0) (if v = b / 10 then b % 10 else 9) e) fun w e => .inr (10 * v + w, e)
theorem sg_t {x : Pg} {T : Nat} {c : Int32} {p : Nat} (h : p < T ∧ x p = c) : sgP x T c p = .inr (0, p + 1) := if_pos h
theorem sg_f {x : Pg} {T : Nat} {c : Int32} {p : Nat} (h : ¬ (p < T ∧ x p = c)) : sgP x T c p = .inl p := if_neg h
theorem dg_t {x : Pg} {T a b p : Nat} (h : p < T ∧ nI a ≤ x p - 48 ∧ x p - 48 ≤ nI b) : dgP x T a b p = .inr ((x p - 48).toInt.toNat, p + 1) := if_pos h
theorem dg_f {x : Pg} {T a b p : Nat} (h : ¬ (p < T ∧ nI a ≤ x p - 48 ∧ x p - 48 ≤ nI b)) : dgP x T a b p = .inl p := if_neg h
theorem dg_v {x : Pg} {T a b p v e : Nat} (ha : a < 100) (hb : b < 100) (h : dgP x T a b p = .inr (v, e)) : a ≤ v ∧ v ≤ b ∧ e = p + 1 ∧ p < T ∧ x p - 48 = nI v ∧ nI a ≤ x p - 48 ∧ x p - 48 ≤ nI b := by
  unfold dgP at h
  split at h
  · rename_i c
    have h1 := c.2.1
    have h2 := c.2.2
    rw [fa_le, ti _ (by omega)] at h1 h2
    cases h
    refine ⟨by omega, by omega, rfl, c.1, i_eq ?_, c.2.1, c.2.2⟩
    rw [ti _ (by omega)]
    omega
  · cases h
theorem dg_e {x : Pg} {T a b p e : Nat} (h : dgP x T a b p = .inl e) : e = p := by
  unfold dgP at h
  split at h
  · cases h
  · cases h; rfl
theorem sg_v {x : Pg} {T : Nat} {c : Int32} {p v e : Nat} (h : sgP x T c p = .inr (v, e)) : e = p + 1 ∧ p < T ∧ x p = c := by
  unfold sgP at h
  split at h
  · rename_i q
    cases h
    exact ⟨rfl, q.1, q.2⟩
  · cases h
theorem sg_e {x : Pg} {T : Nat} {c : Int32} {p e : Nat} (h : sgP x T c p = .inl e) : e = p ∧ ¬ (p < T ∧ x p = c) := by
  unfold sgP at h
  split at h
  · cases h
  · rename_i q
    cases h
    exact ⟨rfl, q⟩
theorem tw_v {x : Pg} {T a b p v e : Nat} (ha : a < 100) (hb : b < 100) (h : twP x T a b p = .inr (v, e)) : v ≤ b ∧ p ≤ e ∧ e ≤ T := by
  unfold twP at h
  cases h1 : dgP x T (a / 10) (b / 10) p with
  | inl e1 => rw [h1, pb_l] at h; cases h
  | inr o =>
    obtain ⟨u, e1⟩ := o
    rw [h1, pb_r] at h
    have g1 := dg_v (by omega) (by omega) h1
    cases h2 : dgP x T (if u = a / 10 then a % 10 else 0) (if u = b / 10 then b % 10 else 9) e1 with
    | inl e2 => rw [h2, pb_l] at h; cases h
    | inr o =>
      obtain ⟨w, e2⟩ := o
      rw [h2, pb_r] at h
      have g2 := dg_v (by split <;> omega) (by split <;> omega) h2
      cases h
      have g3 := g2.2.1
      by_cases c : u = b / 10
      · rw [if_pos c] at g3
        exact ⟨by omega, by omega, by omega⟩
      · rw [if_neg c] at g3
        exact ⟨by omega, by omega, by omega⟩
theorem tw_e {x : Pg} {T a b p e : Nat} (ha : a < 100) (hb : b < 100) (hp : p ≤ T) (h : twP x T a b p = .inl e) : e ≤ T := by
  unfold twP at h
  cases h1 : dgP x T (a / 10) (b / 10) p with
  | inl e1 => rw [h1, pb_l] at h; cases h; have := dg_e h1; omega
  | inr o =>
    obtain ⟨u, e1⟩ := o
    rw [h1, pb_r] at h
    have g1 := dg_v (by omega) (by omega) h1
    cases h2 : dgP x T (if u = a / 10 then a % 10 else 0) (if u = b / 10 then b % 10 else 9) e1 with
    | inl e2 => rw [h2, pb_l] at h; cases h; have := dg_e h2; omega
    | inr o =>
      obtain ⟨w, e2⟩ := o
      rw [h2, pb_r] at h
      cases h
theorem d10 : ∀ a : Nat, a < 100 → nI a / (10 : Int32) = nI (a / 10) ∧ nI a - nI (a / 10) * (10 : Int32) = nI (a % 10) := by decide +kernel
/-! the class's reader -/
def P9 (C C' : Mem) (p : Nat) (w : Bool) : Prop := (∀ r, r ≠ 18 → C' r = C r) ∧ (∀ k, k ≠ 9 → k ≠ 10 → C' 18 k = C 18 k) ∧ C' 18 9 = nI p ∧ C' 18 10 = (if w then 1 else 0)
def Out (C C' : Mem) (v : Int32) : Nat ⊕ (Nat × Nat) → Prop
  | .inl e => P9 C C' e true
  | .inr o => v = nI o.1 ∧ P9 C C' o.2 false
theorem P9.tr {C C1 C2 : Mem} {p q : Nat} {v w : Bool} (h : P9 C C1 p v) (g : P9 C1 C2 q w) : P9 C C2 q w :=
  ⟨fun r hr => (g.1 r hr).trans (h.1 r hr), fun k h1 h2 => (g.2.1 k h1 h2).trans (h.2.1 k h1 h2), g.2.2⟩
theorem P9.rf {C : Mem} {p : Nat} {w : Bool} (h : C 18 9 = nI p) (hw : C 18 10 = (if w then 1 else 0)) : P9 C C p w := ⟨fun _ _ => rfl, fun _ _ _ => rfl, h, hw⟩
/-- where the class's reader stands -/
def RS (T : Nat) (x : Pg) (C : Mem) (p : Nat) (w : Bool) : Prop := C 18 1 = nI T ∧ T ≤ 60 ∧ (∀ k, k < T → C 19 k = x k) ∧ p ≤ T ∧ C 18 9 = nI p ∧ C 18 10 = (if w then 1 else 0)
section RDC
variable {C : Mem} {T p : Nat} {x : Pg}
theorem RS.to {C1 : Mem} {q : Nat} {v w : Bool} (h : RS T x C p v) (g : P9 C C1 q w) (hq : q ≤ T) : RS T x C1 q w :=
  ⟨(g.2.1 1 (by decide) (by decide)).trans h.1, h.2.1, fun k hk => by rw [g.1 19 (by decide)]; exact h.2.2.1 k hk, hq, g.2.2.1, g.2.2.2⟩
theorem c_more (h : RS T x C p false) : F_X4_hasMore C = some ((if p < T then 1 else 0), C) := by
  obtain ⟨h1, h2, -, h3, h4, h5⟩ := h
  unfold F_X4_hasMore
  rw [h5, h1, h4, if_pos (show (if false = true then (1 : Int32) else 0) = 0 by decide)]
  by_cases c : p < T
  · rw [if_pos c, if_neg (nI_ge c (by omega)), if_neg (show ¬ (60 : Int32) ≤ nI p from nI_ge (show p < 60 by omega) (by decide))]
  · rw [if_neg c, if_pos (nI_le (by omega) (by omega))]
theorem c_moreW (h : RS T x C p true) : F_X4_hasMore C = some (0, C) := by
  unfold F_X4_hasMore
  rw [h.2.2.2.2.2, if_neg (by decide)]
theorem c_sees (h : RS T x C p false) (c : Int32) : F_X4_sees c C = some ((if p < T ∧ x p = c then 1 else 0), C) := by
  unfold F_X4_sees
  rw [c_more h, b2_s]
  by_cases hp : p < T
  · have hT := h.2.1
    rw [if_pos hp, if_neg (by decide), h.2.2.2.2.1, gi_n (by omega) (by decide), nI_clamp (by omega), h.2.2.1 p hp]
    by_cases hc : x p = c
    · rw [if_pos hc, if_pos ⟨hp, hc⟩]
    · rw [if_neg hc, if_neg (fun q => hc q.2)]
  · rw [if_neg hp, if_pos rfl, if_neg (fun q => hp q.1)]
theorem c_seesW (h : RS T x C p true) (c : Int32) : F_X4_sees c C = some (0, C) := by
  unfold F_X4_sees
  rw [c_moreW h, b2_s, if_pos rfl]
theorem p9_wrong (h : C 18 9 = nI p) : P9 C (mu C 18 10 1) p true := by
  rw [mu_s]
  refine ⟨fun r hr => sr_ne C _ hr, fun k _ h2 => ?_, ?_, ?_⟩
  · rw [sr_same, up_ne _ _ h2]
  · rw [sr_same, up_ne _ _ (by decide)]; exact h
  · rw [sr_same, up_same]; rfl
theorem p9_on (h : C 18 10 = 0) : P9 C (mu C 18 9 (nI (p + 1))) (p + 1) false := by
  rw [mu_s]
  refine ⟨fun r hr => sr_ne C _ hr, fun k h1 _ => ?_, ?_, ?_⟩
  · rw [sr_same, up_ne _ _ h1]
  · rw [sr_same, up_same]
  · rw [sr_same, up_ne _ _ (by decide)]; exact h
theorem c_sign (h : RS T x C p false) (c : Int32) : ∃ v C', F_X4_readSign c C = some (v, C') ∧ match sgP x T c p with
    | .inl e => P9 C C' e true
    | .inr o => P9 C C' o.2 false := by
  unfold F_X4_readSign
  rw [c_sees h, b2_s]
  by_cases hc : p < T ∧ x p = c
  · rw [if_pos hc, if_neg (by decide), nm_s, h.2.2.2.2.1, nI_1, sg_t hc]
    exact ⟨_, _, rfl, p9_on h.2.2.2.2.2⟩
  · rw [if_neg hc, if_pos rfl, nm_s, sg_f hc]
    exact ⟨_, _, rfl, p9_wrong h.2.2.2.2.1⟩
theorem c_signW (h : RS T x C p true) (c : Int32) : ∃ v C', F_X4_readSign c C = some (v, C') ∧ P9 C C' p true := by
  unfold F_X4_readSign
  rw [c_seesW h, b2_s, if_pos rfl, nm_s]
  exact ⟨_, _, rfl, p9_wrong h.2.2.2.2.1⟩
theorem c_digit (h : RS T x C p false) {a b : Nat} (ha : a < 100) (hb : b < 100) : ∃ v C', F_X4_readDigit (nI a) (nI b) C = some (v, C') ∧ Out C C' v (dgP x T a b p) := by
  have hT := h.2.1
  unfold F_X4_readDigit
  rw [c_more h, b2_s]
  by_cases hp : p < T
  · rw [if_pos hp, if_neg (by decide), h.2.2.2.2.1, gi_n (by omega) (by decide), nI_clamp (by omega), h.2.2.1 p hp, nm_s]
    by_cases c1 : x p - 48 < nI a
    · rw [if_pos c1, nm_s, dg_f (fun q => (fa_of_lt c1).2.1 q.2.1)]
      exact ⟨_, _, rfl, p9_wrong h.2.2.2.2.1⟩
    · rw [if_neg c1]
      by_cases c2 : nI b < x p - 48
      · rw [if_pos c2, nm_s, dg_f (fun q => (fa_of_lt c2).2.1 q.2.2)]
        exact ⟨_, _, rfl, p9_wrong h.2.2.2.2.1⟩
      · have hd := dg_t (x := x) (T := T) (a := a) (b := b) (p := p) ⟨hp, fa_of_nlt c1, fa_of_nlt c2⟩
        have hv := dg_v ha hb hd
        rw [if_neg c2, nm_s, nI_1, hd]
        exact ⟨_, _, rfl, hv.2.2.2.2.1, p9_on h.2.2.2.2.2⟩
  · rw [if_neg hp, if_pos rfl, nm_s, dg_f (fun q => hp q.1)]
    exact ⟨_, _, rfl, p9_wrong h.2.2.2.2.1⟩
theorem c_digitW (h : RS T x C p true) (a b : Int32) : ∃ C', F_X4_readDigit a b C = some (a, C') ∧ P9 C C' p true := by
  unfold F_X4_readDigit
  rw [c_moreW h, b2_s, if_pos rfl, nm_s]
  exact ⟨_, rfl, p9_wrong h.2.2.2.2.1⟩
theorem c_numberW (h : RS T x C p true) (a b : Int32) : ∃ v C', F_X4_readNumber a b C = some (v, C') ∧ P9 C C' p true := by
  obtain ⟨C1, e1, g1⟩ := c_digitW h (a / 10) (b / 10)
  have h1 := h.to g1 h.2.2.2.1
  have k48 : ∀ u v w : Int32, ∃ v' C', J_X4_readNumber_48 u C1 v w = some (v', C') ∧ P9 C C' p true := fun u v w => by
    obtain ⟨C2, e2, g2⟩ := c_digitW h1 v w
    unfold J_X4_readNumber_48
    rw [e2, b2_s]
    exact ⟨_, _, rfl, g1.tr g2⟩
  have k29 : ∀ u v : Int32, ∃ v' C', J_X4_readNumber_29 b u C1 v = some (v', C') ∧ P9 C C' p true := fun u v => by
    unfold J_X4_readNumber_29
    split <;> exact k48 _ _ _
  unfold F_X4_readNumber
  rw [e1, b2_s]
  split <;> exact k29 _ _
theorem c_number (h : RS T x C p false) {a b : Nat} (ha : a < 100) (hb : b < 100) : ∃ v C', F_X4_readNumber (nI a) (nI b) C = some (v, C') ∧ Out C C' v (twP x T a b p) := by
  obtain ⟨v1, C1, e1, o1⟩ := c_digit h (a := a / 10) (b := b / 10) (by omega) (by omega)
  unfold F_X4_readNumber twP
  rw [(d10 a ha).1, (d10 b hb).1, e1, b2_s]
  cases hd : dgP x T (a / 10) (b / 10) p with
  | inl e =>
    rw [hd] at o1
    have he := dg_e hd
    subst he
    have h1 := h.to o1 h.2.2.2.1
    have k48 : ∀ u v w : Int32, ∃ v' C', J_X4_readNumber_48 u C1 v w = some (v', C') ∧ P9 C C' e true := fun u v w => by
      obtain ⟨C2, e2, g2⟩ := c_digitW h1 v w
      unfold J_X4_readNumber_48
      rw [e2, b2_s]
      exact ⟨_, _, rfl, o1.tr g2⟩
    have k29 : ∀ u v : Int32, ∃ v' C', J_X4_readNumber_29 (nI b) u C1 v = some (v', C') ∧ P9 C C' e true := fun u v => by
      unfold J_X4_readNumber_29
      split <;> exact k48 _ _ _
    rw [pb_l]
    show ∃ v C', _ ∧ P9 C C' e true
    split <;> exact k29 _ _
  | inr o =>
    obtain ⟨u, e⟩ := o
    rw [hd] at o1
    obtain ⟨rfl, g1⟩ := o1
    have hv := dg_v (by omega) (by omega) hd
    have h1 := h.to g1 (by omega)
    rw [pb_r]
    have k : ∀ lo hi : Nat, lo < 100 → hi < 100 → ∃ v C', J_X4_readNumber_48 (nI u) C1 (nI lo) (nI hi) = some (v, C') ∧ Out C C' v (pbind (dgP x T lo hi e) fun w e => .inr (10 * u + w, e)) := fun lo hi hlo hhi => by
      obtain ⟨v2, C2, e2, o2⟩ := c_digit h1 hlo hhi
      unfold J_X4_readNumber_48
      rw [e2, b2_s]
      cases hd2 : dgP x T lo hi e with
      | inl e3 =>
        rw [hd2] at o2
        exact ⟨_, _, rfl, g1.tr o2⟩
      | inr o3 =>
        rw [hd2] at o2
        refine ⟨_, _, rfl, ?_, g1.tr o2.2⟩
        rw [o2.1, show (10 : Int32) * nI u = nI (10 * u) from nI_mul 10 u, nI_add]
    have eq1 : ∀ c : Nat, c < 10 → (nI u = nI c ↔ u = c) := fun c hc => nI_eq (by omega) (by omega)
    rw [(d10 a ha).2]
    unfold J_X4_readNumber_29
    rw [(d10 b hb).1, (d10 b hb).2]
    by_cases ca : u = a / 10
    · rw [if_pos ((eq1 _ (by omega)).mpr ca), if_pos ca]
      by_cases cb : u = b / 10
      · rw [if_pos ((eq1 _ (by omega)).mpr cb), if_pos cb]
        exact k _ _ (by omega) (by omega)
      · rw [if_neg (fun q => cb ((eq1 _ (by omega)).mp q)), if_neg cb]
        exact k _ 9 (by omega) (by omega)
    · rw [if_neg (fun q => ca ((eq1 _ (by omega)).mp q)), if_neg ca]
      by_cases cb : u = b / 10
      · rw [if_pos ((eq1 _ (by omega)).mpr cb), if_pos cb]
        exact k 0 _ (by omega) (by omega)
      · rw [if_neg (fun q => cb ((eq1 _ (by omega)).mp q)), if_neg cb]
        exact k 0 9 (by omega) (by omega)
end RDC
/-! boilers, temperatures -/
def boP (x : Pg) (T p : Nat) : Nat ⊕ ((Nat × Nat) × Nat) := pbind (sgP x T 98 p) fun _ e => pbind (twP x T 1 30 e) fun a e => pbind (dgP x T 0 1 e) fun f e => .inr ((a, f), e)
/-- of the remaining places for boilers, k: how many boilers there are then, their powers and flues -/
def blP (x : Pg) (T : Nat) : Nat → Nat → (Nat → Nat × Nat) → Nat → Nat ⊕ ((Nat × (Nat → Nat × Nat)) × Nat)
  | 0, i, c, p => .inr ((i, c), p)
  | k + 1, i, c, p => if p < T ∧ x p = 98 then pbind (boP x T p) fun o e => blP x T k (i + 1) (fun j => if j = i then o else c j) e else .inr ((i, c), p)
def tmP (x : Pg) (T : Nat) : Nat → Nat → Nat → (Nat → Nat) → Nat → Nat ⊕ ((Nat → Nat) × Nat)
  | 0, _, _, c, p => .inr (c, p)
  | k + 1, j, l, c, p => pbind (twP x T l 99 p) fun v e => tmP x T k (j + 1) v (fun a => if a = j then v else c a) e
theorem bo_v {x : Pg} {T p a f e : Nat} (h : boP x T p = .inr ((a, f), e)) : a ≤ 30 ∧ f ≤ 1 ∧ e ≤ T ∧ p < e := by
  unfold boP at h
  cases h1 : sgP x T 98 p with
  | inl e1 => rw [h1, pb_l] at h; cases h
  | inr o =>
    obtain ⟨u, e1⟩ := o
    rw [h1, pb_r] at h
    have g1 := sg_v h1
    cases h2 : twP x T 1 30 e1 with
    | inl e2 => rw [h2, pb_l] at h; cases h
    | inr o =>
      obtain ⟨w, e2⟩ := o
      rw [h2, pb_r] at h
      have g2 := tw_v (by decide) (by decide) h2
      cases h3 : dgP x T 0 1 e2 with
      | inl e3 => rw [h3, pb_l] at h; cases h
      | inr o =>
        obtain ⟨z, e3⟩ := o
        rw [h3, pb_r] at h
        have g3 := dg_v (by decide) (by decide) h3
        cases h
        exact ⟨g2.1, g3.2.1, by omega, by omega⟩
theorem bo_e {x : Pg} {T p e : Nat} (hp : p ≤ T) (h : boP x T p = .inl e) : e ≤ T := by
  unfold boP at h
  cases h1 : sgP x T 98 p with
  | inl e1 => rw [h1, pb_l] at h; cases h; have := (sg_e h1).1; omega
  | inr o =>
    obtain ⟨u, e1⟩ := o
    rw [h1, pb_r] at h
    have g1 := sg_v h1
    cases h2 : twP x T 1 30 e1 with
    | inl e2 => rw [h2, pb_l] at h; cases h; exact tw_e (by decide) (by decide) (by omega) h2
    | inr o =>
      obtain ⟨w, e2⟩ := o
      rw [h2, pb_r] at h
      have g2 := tw_v (by decide) (by decide) h2
      cases h3 : dgP x T 0 1 e2 with
      | inl e3 => rw [h3, pb_l] at h; cases h; have := dg_e h3; omega
      | inr o =>
        obtain ⟨z, e3⟩ := o
        rw [h3, pb_r] at h
        cases h
/-- one boiler, read by the class: its places i of powers and flues alone -/
def Bd (C C' : Mem) (i p : Nat) (w : Bool) : Prop := (∀ r, r ≠ 18 → r ≠ 20 → r ≠ 21 → C' r = C r) ∧ (∀ k, k ≠ 9 → k ≠ 10 → C' 18 k = C 18 k) ∧ (∀ k, k ≠ i → C' 20 k = C 20 k ∧ C' 21 k = C 21 k) ∧ C' 18 9 = nI p ∧ C' 18 10 = (if w then 1 else 0)
section RDB
variable {C : Mem} {T p : Nat} {x : Pg}
theorem RS.bd {C1 : Mem} {q i : Nat} {v w : Bool} (h : RS T x C p v) (g : Bd C C1 i q w) (hq : q ≤ T) : RS T x C1 q w :=
  ⟨(g.2.1 1 (by decide) (by decide)).trans h.1, h.2.1, fun k hk => by rw [g.1 19 (by decide) (by decide) (by decide)]; exact h.2.2.1 k hk, hq, g.2.2.2.1, g.2.2.2.2⟩
/-- behind the sign and the power: the rest of a boiler, from a state that is wrong already -/
theorem c_boilerR {C1 C2 : Mem} {q i : Nat} (hi : i < 5) {w : Bool} (g : P9 C C1 q true) (h2 : RS T x C1 q true) (v : Int32) : ∃ r C', (gi (nI i) 5 (nm (mu C1 20 (nI i).toNatClampNeg v) fun C8 => b2 (F_X4_readDigit (0 : Int32) (1 : Int32) C8) fun r9 C10 => gi (nI i) 5 (nm (mu C10 21 (nI i).toNatClampNeg r9) fun C13 => some ((0 : Int32), C13))) : Option (Int32 × Mem)) = some (r, C') ∧ Bd C C' i q true := by
  have h8 : RS T x (mu C1 20 i v) q true := by
    rw [mu_s]
    exact ⟨h2.1, h2.2.1, h2.2.2.1, h2.2.2.2.1, h2.2.2.2.2.1, h2.2.2.2.2.2⟩
  obtain ⟨C10, e10, g10⟩ := c_digitW h8 0 1
  rw [gi_n hi (by decide), nI_clamp (by omega), nm_s, e10, b2_s, gi_n hi (by decide), nm_s]
  refine ⟨_, _, rfl, ?_⟩
  rw [mu_s]
  refine ⟨fun r a b c => ?_, fun k a b => ?_, fun k hk => ⟨?_, ?_⟩, ?_, ?_⟩
  · rw [sr_ne _ _ c, g10.1 r a, mu_s, sr_ne _ _ b, g.1 r a]
  · rw [sr_ne _ _ (show 18 ≠ 21 by decide), g10.2.1 k a b, mu_s, sr_ne _ _ (show 18 ≠ 20 by decide), g.2.1 k a b]
  · rw [sr_ne _ _ (show 20 ≠ 21 by decide), g10.1 20 (by decide), mu_s, sr_same, up_ne _ _ hk, g.1 20 (by decide)]
  · rw [sr_same, up_ne _ _ hk, g10.1 21 (by decide), mu_s, sr_ne _ _ (show 21 ≠ 20 by decide), g.1 21 (by decide)]
  · rw [sr_ne _ _ (show 18 ≠ 21 by decide)]; exact g10.2.2.1
  · rw [sr_ne _ _ (show 18 ≠ 21 by decide)]; exact g10.2.2.2
theorem c_boilerW (h : RS T x C p true) {i : Nat} (hi : i < 5) : ∃ r C', F_X4_readBoiler (nI i) C = some (r, C') ∧ Bd C C' i p true := by
  obtain ⟨v1, C1, e1, g1⟩ := c_signW h 98
  have h1 := h.to g1 h.2.2.2.1
  obtain ⟨v2, C2, e2, g2⟩ := c_numberW h1 1 30
  have h2 := h1.to g2 h.2.2.2.1
  unfold F_X4_readBoiler
  rw [e1, b2_s, e2, b2_s]
  exact c_boilerR (C2 := C2) (w := true) hi (g1.tr g2) h2 v2
theorem c_boiler (h : RS T x C p false) {i : Nat} (hi : i < 5) : ∃ r C', F_X4_readBoiler (nI i) C = some (r, C') ∧ match boP x T p with
    | .inl e => Bd C C' i e true
    | .inr o => Bd C C' i o.2 false ∧ C' 20 i = nI o.1.1 ∧ C' 21 i = nI o.1.2 := by
  obtain ⟨v1, C1, e1, g1⟩ := c_sign h 98
  unfold F_X4_readBoiler boP
  rw [e1, b2_s]
  cases hs : sgP x T 98 p with
  | inl e =>
    rw [hs] at g1
    have he := (sg_e hs).1
    subst he
    have h1 := h.to g1 h.2.2.2.1
    obtain ⟨v2, C2, e2, g2⟩ := c_numberW h1 1 30
    rw [e2, b2_s, pb_l]
    exact c_boilerR (C2 := C2) (w := true) hi (g1.tr g2) (h1.to g2 h.2.2.2.1) v2
  | inr o =>
    obtain ⟨u1, q1⟩ := o
    rw [hs] at g1
    have hv1 := sg_v hs
    have h1 := h.to g1 (by omega)
    rw [pb_r]
    obtain ⟨v2, C2, e2, g2⟩ := c_number h1 (a := 1) (b := 30) (by decide) (by decide)
    have e2' : F_X4_readNumber (1 : Int32) (30 : Int32) C1 = some (v2, C2) := e2
    rw [e2', b2_s]
    cases ht : twP x T 1 30 q1 with
    | inl e =>
      rw [ht] at g2
      have he := tw_e (by decide) (by decide) h1.2.2.2.1 ht
      rw [pb_l]
      exact c_boilerR (C2 := C2) (w := true) hi (g1.tr g2) (h1.to g2 he) v2
    | inr o =>
      obtain ⟨u2, q2⟩ := o
      rw [ht] at g2
      obtain ⟨rfl, g2⟩ := g2
      have hv2 := tw_v (by decide) (by decide) ht
      have h2 := h1.to g2 hv2.2.2
      have g12 := g1.tr g2
      rw [pb_r, gi_n hi (by decide), nI_clamp (by omega), nm_s]
      have h8 : RS T x (mu C2 20 i (nI u2)) q2 false := by
        rw [mu_s]
        exact ⟨h2.1, h2.2.1, h2.2.2.1, h2.2.2.2.1, h2.2.2.2.2.1, h2.2.2.2.2.2⟩
      obtain ⟨v3, C3, e3, g3⟩ := c_digit h8 (a := 0) (b := 1) (by decide) (by decide)
      have e3' : F_X4_readDigit (0 : Int32) (1 : Int32) (mu C2 20 i (nI u2)) = some (v3, C3) := e3
      rw [e3', b2_s, gi_n hi (by decide), nm_s]
      have fin : ∀ (q : Nat) (w : Bool), P9 (mu C2 20 i (nI u2)) C3 q w → Bd C (mu C3 21 i v3) i q w ∧ (mu C3 21 i v3) 20 i = nI u2 ∧ (mu C3 21 i v3) 21 i = v3 := fun q w g => by
        rw [mu_s C3]
        refine ⟨⟨fun r a b c => ?_, fun k a b => ?_, fun k hk => ⟨?_, ?_⟩, ?_, ?_⟩, ?_, ?_⟩
        · rw [sr_ne _ _ c, g.1 r a, mu_s, sr_ne _ _ b, g12.1 r a]
        · rw [sr_ne _ _ (show 18 ≠ 21 by decide), g.2.1 k a b, mu_s, sr_ne _ _ (show 18 ≠ 20 by decide), g12.2.1 k a b]
        · rw [sr_ne _ _ (show 20 ≠ 21 by decide), g.1 20 (by decide), mu_s, sr_same, up_ne _ _ hk, g12.1 20 (by decide)]
        · rw [sr_same, up_ne _ _ hk, g.1 21 (by decide), mu_s, sr_ne _ _ (show 21 ≠ 20 by decide), g12.1 21 (by decide)]
        · rw [sr_ne _ _ (show 18 ≠ 21 by decide)]; exact g.2.2.1
        · rw [sr_ne _ _ (show 18 ≠ 21 by decide)]; exact g.2.2.2
        · rw [sr_ne _ _ (show 20 ≠ 21 by decide), g.1 20 (by decide), mu_s, sr_same, up_same]
        · rw [sr_same, up_same]
      refine ⟨_, _, rfl, ?_⟩
      cases hd : dgP x T 0 1 q2 with
      | inl e =>
        rw [hd] at g3
        rw [pb_l]
        exact (fin e true g3).1
      | inr o =>
        obtain ⟨u3, q3⟩ := o
        rw [hd] at g3
        obtain ⟨rfl, g3⟩ := g3
        rw [pb_r]
        exact fin q3 false g3
end RDB

