/-! the model reads the text -/
theorem f_in (a b c : Int32) (C : Mem) : F_X9_in a.toInt64 b.toInt64 c.toInt64 C = some ((if b ≤ a ∧ a ≤ c then 1 else 0), C) := by
  unfold F_X9_in
  by_cases h1 : a < b
  · rw [if_pos ((lg_cmp_lt _ _).mpr ((fa_wide_lt a b).mpr h1)), if_neg (fun q => (fa_of_lt h1).2.1 q.1)]
  · rw [if_neg (fun q => h1 ((fa_wide_lt a b).mp ((lg_cmp_lt _ _).mp q)))]
    by_cases h2 : c < a
    · rw [if_pos ((lg_cmp_gt _ _).mpr ((fa_wide_lt c a).mpr h2)), if_neg (fun q => (fa_of_lt h2).2.1 q.2)]
    · rw [if_neg (fun q => h2 ((fa_wide_lt c a).mp ((lg_cmp_gt _ _).mp q))), if_pos ⟨fa_of_nlt h1, fa_of_nlt h2⟩]
def vl : Nat ⊕ (Nat × Nat) → Int32
  | .inl _ => -9
  | .inr o => nI o.1
def ps {α : Type} : Nat ⊕ (α × Nat) → Nat
  | .inl e => e
  | .inr o => o.2
theorem nI_n9 {n : Nat} (h : n < 1000) : nI n ≠ -9 := by
  intro e
  have h1 := congrArg Int32.toInt e
  rw [ti n (by omega)] at h1
  have h2 : (-9 : Int32).toInt = -9 := rfl
  omega
def MS (T : Nat) (x : Pg) (C : Mem) (p : Nat) : Prop := C 30 2 = nI T ∧ T ≤ 60 ∧ (∀ k, k < T → C 31 k = x k) ∧ p ≤ T ∧ C 30 3 = nI p
section RDM
variable {C : Mem} {T p : Nat} {x : Pg}
theorem MS.mv (h : MS T x C p) {e : Nat} (he : e ≤ T) : MS T x (mu C 30 3 (nI e)) e :=
  ⟨by rw [mu_o _ _ (by decide)]; exact h.1, h.2.1, fun k hk => by rw [mu_r _ _ _ (show 31 ≠ 30 by decide)]; exact h.2.2.1 k hk, he, mu_at _ _ _ _⟩
theorem MS.k (h : MS T x C p) {k : Nat} (h2 : k ≠ 2) (h3 : k ≠ 3) (v : Int32) : MS T x (mu C 30 k v) p :=
  ⟨by rw [mu_o _ _ (Ne.symm h2)]; exact h.1, h.2.1, fun k hk => by rw [mu_r _ _ _ (show 31 ≠ 30 by decide)]; exact h.2.2.1 k hk, h.2.2.2.1, by rw [mu_o _ _ (Ne.symm h3)]; exact h.2.2.2.2⟩
theorem MS.q (h : MS T x C p) (k : Nat) (v : Int32) : MS T x (mu C 32 k v) p :=
  ⟨by rw [mu_r _ _ _ (show 30 ≠ 32 by decide)]; exact h.1, h.2.1, fun k hk => by rw [mu_r _ _ _ (show 31 ≠ 32 by decide)]; exact h.2.2.1 k hk, h.2.2.2.1, by rw [mu_r _ _ _ (show 30 ≠ 32 by decide)]; exact h.2.2.2.2⟩
theorem m_eat (h : MS T x C p) (c : Int32) : F_X9_eat c C = some ((if p < T ∧ x p = c then 1 else 0), mu C 30 3 (nI (if p < T ∧ x p = c then p + 1 else p))) := by
  have hT := h.2.1
  have hpT := h.2.2.2.1
  have a31 : alen 31 = 60 := rfl
  have k0 : J_X9_eat_29 C 0 = some (0, mu C 30 3 (nI p)) := by
    unfold J_X9_eat_29
    rw [if_pos rfl, nm_s, gb_p (Or.inl rfl), h.2.2.2.2, Int32.add_zero]
  have k1 : J_X9_eat_29 C 1 = some (1, mu C 30 3 (nI (p + 1))) := by
    unfold J_X9_eat_29
    rw [if_neg (by decide), nm_s, gb_p (Or.inr rfl), h.2.2.2.2, nI_1]
  unfold F_X9_eat
  rw [h.1, h.2.2.2.2]
  by_cases hp : p < T
  · rw [if_neg (nI_ge hp (by omega)), a31, gi_n (by omega) (by decide), nI_clamp (by omega), h.2.2.1 p hp]
    by_cases hc : x p = c
    · rw [if_pos hc, if_pos ⟨hp, hc⟩, if_pos ⟨hp, hc⟩, k1]
    · rw [if_neg hc, if_neg (fun q => hc q.2), if_neg (fun q => hc q.2), k0]
  · rw [if_pos (nI_le (by omega) (by omega)), if_neg (fun q => hp q.1), if_neg (fun q => hp q.1), k0]
theorem m_digit (h : MS T x C p) {a b : Nat} (ha : a < 100) (hb : b < 100) : F_X9_digit (nI a) (nI b) C = some (vl (dgP x T a b p), mu C 30 3 (nI (ps (dgP x T a b p)))) := by
  have hT := h.2.1
  have hpT := h.2.2.2.1
  have a31 : alen 31 = 60 := rfl
  have k0 : ∀ v : Int32, ¬ (nI a ≤ v ∧ v ≤ nI b) → J_X9_digit_28 (nI a) (nI b) C v = some (-9, mu C 30 3 (nI p)) := fun v hv => by
    unfold J_X9_digit_28
    rw [f_in, b2_s, if_neg hv, if_pos rfl, nm_s, if_pos rfl, h.2.2.2.2, Int32.add_zero]
  have k1 : ∀ v : Int32, (nI a ≤ v ∧ v ≤ nI b) → J_X9_digit_28 (nI a) (nI b) C v = some (v, mu C 30 3 (nI (p + 1))) := fun v hv => by
    unfold J_X9_digit_28
    rw [f_in, b2_s, if_pos hv, if_neg (by decide), nm_s, if_neg (by decide), h.2.2.2.2, nI_1]
  unfold F_X9_digit
  rw [h.1, h.2.2.2.2]
  by_cases hp : p < T
  · rw [if_neg (nI_ge hp (by omega)), a31, gi_n (by omega) (by decide), nI_clamp (by omega), h.2.2.1 p hp]
    by_cases hc : nI a ≤ x p - 48 ∧ x p - 48 ≤ nI b
    · have hd := dg_t (x := x) (T := T) (a := a) (b := b) (p := p) ⟨hp, hc⟩
      have hv := dg_v ha hb hd
      rw [k1 _ hc, hd]
      show some (x p - 48, _) = some (nI _, _)
      rw [← hv.2.2.2.2.1]
      rfl
    · rw [k0 _ hc, dg_f (fun q => hc q.2)]
      rfl
  · rw [if_pos (nI_le (by omega) (by omega)), dg_f (fun q => hp q.1)]
    refine k0 _ fun q => ?_
    have q1 := q.1
    rw [fa_le, ti _ (by omega)] at q1
    have e9 : (-9 : Int32).toInt = -9 := rfl
    omega
theorem m_two (h : MS T x C p) {a b : Nat} (ha : a < 100) (hb : b < 100) : F_X9_two (nI a) (nI b) C = some (vl (twP x T a b p), mu C 30 3 (nI (ps (twP x T a b p)))) := by
  unfold F_X9_two twP
  rw [(d10 a ha).1, (d10 b hb).1, m_digit h (by omega) (by omega), b2_s]
  cases hd : dgP x T (a / 10) (b / 10) p with
  | inl e =>
    rw [if_pos (show vl (.inl e) = -9 from rfl)]
    rfl
  | inr o =>
    obtain ⟨u, e⟩ := o
    have hv := dg_v (by omega) (by omega) hd
    have h1 : MS T x (mu C 30 3 (nI e)) e := h.mv (by omega)
    rw [if_neg (show vl (.inr (u, e)) ≠ -9 from nI_n9 (by omega)), pb_r]
    show (if nI u = nI (a / 10) then J_X9_two_39 (nI b) (nI u) (mu C 30 3 (nI e)) _ else J_X9_two_39 (nI b) (nI u) (mu C 30 3 (nI e)) 0) = _
    have k : ∀ lo hi : Nat, lo < 100 → hi < 100 → J_X9_two_56 (nI u) (mu C 30 3 (nI e)) (nI lo) (nI hi) = some (vl (pbind (dgP x T lo hi e) fun w e => .inr (10 * u + w, e)), mu C 30 3 (nI (ps (pbind (dgP x T lo hi e) fun w e => (.inr (10 * u + w, e) : Nat ⊕ (Nat × Nat)))))) := fun lo hi hlo hhi => by
      unfold J_X9_two_56
      rw [m_digit h1 hlo hhi, b2_s, mu_mu]
      cases hd2 : dgP x T lo hi e with
      | inl e3 =>
        rw [if_pos (show vl (.inl e3) = -9 from rfl)]
        rfl
      | inr o3 =>
        obtain ⟨w, e3⟩ := o3
        have hw := dg_v hlo hhi hd2
        rw [if_neg (show vl (.inr (w, e3)) ≠ -9 from nI_n9 (by omega))]
        show some (10 * nI u + nI w, _) = some (nI (10 * u + w), _)
        rw [show (10 : Int32) * nI u = nI (10 * u) from nI_mul 10 u, nI_add]
        rfl
    have eq1 : ∀ c : Nat, c < 10 → (nI u = nI c ↔ u = c) := fun c hc => nI_eq (by omega) (by omega)
    rw [(d10 a ha).2]
    unfold J_X9_two_39
    rw [(d10 b hb).1, (d10 b hb).2]
    by_cases ca : u = a / 10
    · rw [if_pos ((eq1 _ (by omega)).mpr ca), if_pos ca]
      by_cases cb : u = b / 10
      · rw [if_pos ((eq1 _ (by omega)).mpr cb), if_pos cb]
        exact k _ _ (by omega) (by omega)
      · rw [if_neg (fun q => cb ((eq1 _ (by omega)).mp q)), if_neg cb]
        exact k _ 9 (by omega) (by omega)
    · rw [if_neg (fun q => ca ((eq1 _ (by omega)).mp q)), if_neg ca]
      by_cases cb : u = b / 10
      · rw [if_pos ((eq1 _ (by omega)).mpr cb), if_pos cb]
        exact k 0 _ (by omega) (by omega)
      · rw [if_neg (fun q => cb ((eq1 _ (by omega)).mp q)), if_neg cb]
        exact k 0 9 (by omega) (by omega)
/-- the frame of the model's reader: its page and its numbers 3, 6, 7 -/
def Fm (C C' : Mem) : Prop := (∀ r, r ≠ 30 → r ≠ 32 → C' r = C r) ∧ ∀ k, k ≠ 3 → k ≠ 6 → k ≠ 7 → C' 30 k = C 30 k
theorem Fm.rf (C : Mem) : Fm C C := ⟨fun _ _ _ => rfl, fun _ _ _ _ => rfl⟩
theorem Fm.tr {C C1 C2 : Mem} (h : Fm C C1) (g : Fm C1 C2) : Fm C C2 := ⟨fun r a b => (g.1 r a b).trans (h.1 r a b), fun k a b c => (g.2 k a b c).trans (h.2 k a b c)⟩
theorem fm_n (C : Mem) {k : Nat} (hk : k = 3 ∨ k = 6 ∨ k = 7) (v : Int32) : Fm C (mu C 30 k v) := ⟨fun _ a _ => mu_r C _ _ a, fun j a b c => mu_o C _ (by omega)⟩
theorem fm_p (C : Mem) (k : Nat) (v : Int32) : Fm C (mu C 32 k v) := ⟨fun _ _ b => mu_r C _ _ b, fun j _ _ _ => by rw [mu_r _ _ _ (show 30 ≠ 32 by decide)]⟩
/-- a page's places that the boilers' loop leaves -/
def Ob (a : Nat) : Prop := ∀ j, j < 5 → a ≠ 30 + 7 * j ∧ a ≠ 30 + 7 * j + 1
theorem m_bl : ∀ (k i : Nat) (c : Nat → Nat × Nat) (C : Mem) (p m : Nat), i + k = 5 → MS T x C p → C 30 6 = nI i → (∀ j, j < i → C 32 (30 + 7 * j) = nI (c j).1 ∧ C 32 (30 + 7 * j + 1) = nI (c j).2) → ∃ o, iter (fun z => S_X9_readBoilers_5 z) (k + 1 + m) C = some o ∧ match blP x T k i c p with
    | .inl e => ∃ C', o = .inr (0, C') ∧ Fm C C' ∧ C' 30 3 = nI e
    | .inr b => ∃ C', o = .inl C' ∧ Fm C C' ∧ MS T x C' b.2 ∧ C' 30 6 = nI b.1.1 ∧ C' 30 7 = C 30 7 ∧ (∀ a, Ob a → C' 32 a = C 32 a) ∧ ∀ j, j < b.1.1 → C' 32 (30 + 7 * j) = nI (b.1.2 j).1 ∧ C' 32 (30 + 7 * j + 1) = nI (b.1.2 j).2
  | 0, i, c, C, p, m, hi, h, h6, hc => by
    refine ⟨.inl C, ?_, C, rfl, Fm.rf C, h, h6, rfl, fun _ _ => rfl, hc⟩
    rw [show 0 + 1 + m = m + 1 by omega]
    refine iter_e _ ?_ _
    show S_X9_readBoilers_5 C = _
    unfold S_X9_readBoilers_5
    rw [h6, if_pos (show (5 : Int32) ≤ nI i from nI_le (show 5 ≤ i by omega) (by omega))]
  | k + 1, i, c, C, p, m, hi, h, h6, hc => by
    have a32 : alen 32 = 65 := rfl
    obtain ⟨X, hX⟩ : ∃ X, X = S_X9_readBoilers_5 C := ⟨_, rfl⟩
    have hs0 := hX
    unfold S_X9_readBoilers_5 at hs0
    rw [h6, if_neg (show ¬ (5 : Int32) ≤ nI i from nI_ge (show i < 5 by omega) (by decide)), m_eat h, b2_s] at hs0
    rw [show k + 1 + 1 + m = (k + 1 + m) + 1 by omega]
    unfold blP
    by_cases hs : p < T ∧ x p = 98
    · rw [if_pos hs]
      rw [if_pos hs, if_neg (by decide), if_pos hs] at hs0
      have h1 : MS T x (mu C 30 3 (nI (p + 1))) (p + 1) := h.mv (by omega)
      have m2 := m_two h1 (a := 1) (b := 30) (by decide) (by decide)
      have m2' : F_X9_two (1 : Int32) (30 : Int32) (mu C 30 3 (nI (p + 1))) = some (vl (twP x T 1 30 (p + 1)), mu (mu C 30 3 (nI (p + 1))) 30 3 (nI (ps (twP x T 1 30 (p + 1))))) := m2
      rw [mu_o _ _ (show (6 : Nat) ≠ 3 by decide), h6, at_s, m2', b2_s, mu_mu, a32, gi_n (by omega) (by decide), nI_clamp (by omega), nm_s, gi_n (by omega) (by decide), mu_at] at hs0
      have j72 : ∀ (v : Int32) (D : Mem), J_X9_readBoilers_72 (nI (30 + 7 * i)) v D = if v = -9 then some (.inr (.inr (0, mu D 32 (30 + 7 * i + 1) v))) else some (.inl (mu (mu D 32 (30 + 7 * i + 1) v) 30 6 (D 30 6 + 1))) := fun v D => by
        unfold J_X9_readBoilers_72
        rw [nI_1, a32, gi_n (by omega) (by decide), nI_clamp (by omega), nm_s, gi_n (by omega) (by decide), mu_at, nm_s, mu_r _ _ _ (show 30 ≠ 32 by decide)]
      unfold boP
      rw [sg_t hs, pb_r]
      cases ht : twP x T 1 30 (p + 1) with
      | inl e =>
        rw [ht, if_pos (show vl (.inl e) = -9 from rfl), j72, if_pos rfl] at hs0
        rw [pb_l, pb_l]
        refine ⟨_, iter_e _ (hX.symm.trans hs0) _, _, rfl, ((fm_n C (Or.inl rfl) _).tr (fm_p _ _ _)).tr (fm_p _ _ _), ?_⟩
        rw [mu_r _ _ _ (show 30 ≠ 32 by decide), mu_r _ _ _ (show 30 ≠ 32 by decide), mu_at]
        rfl
      | inr o =>
        obtain ⟨u, e⟩ := o
        have hv := tw_v (by decide) (by decide) ht
        have h2 : MS T x (mu (mu C 30 3 (nI e)) 32 (30 + 7 * i) (nI u)) e := (h.mv hv.2.2).q _ _
        have hs1 : S_X9_readBoilers_5 C = b2 (F_X9_digit (0 : Int32) (1 : Int32) (mu (mu C 30 3 (nI e)) 32 (30 + 7 * i) (nI u))) fun r27 C28 => J_X9_readBoilers_72 (nI (30 + 7 * i)) r27 C28 := by
          rw [ht, if_neg (show vl (.inr (u, e)) ≠ -9 from nI_n9 (by omega))] at hs0
          exact hX.symm.trans hs0
        have m3 := m_digit h2 (a := 0) (b := 1) (by decide) (by decide)
        have m3' : F_X9_digit (0 : Int32) (1 : Int32) (mu (mu C 30 3 (nI e)) 32 (30 + 7 * i) (nI u)) = some (vl (dgP x T 0 1 e), mu (mu (mu C 30 3 (nI e)) 32 (30 + 7 * i) (nI u)) 30 3 (nI (ps (dgP x T 0 1 e)))) := m3
        rw [m3', b2_s, j72] at hs1
        rw [pb_r]
        cases hd : dgP x T 0 1 e with
        | inl e3 =>
          rw [hd, if_pos (show vl (.inl e3) = -9 from rfl)] at hs1
          rw [pb_l, pb_l]
          refine ⟨_, iter_e _ hs1 _, _, rfl, (((fm_n C (Or.inl rfl) _).tr (fm_p _ _ _)).tr (fm_n _ (Or.inl rfl) _)).tr (fm_p _ _ _), ?_⟩
          rw [mu_r _ _ _ (show 30 ≠ 32 by decide), mu_at]
          rfl
        | inr o3 =>
          obtain ⟨f, e3⟩ := o3
          have hf := dg_v (by decide) (by decide) hd
          rw [hd, if_neg (show vl (.inr (f, e3)) ≠ -9 from nI_n9 (by omega))] at hs1
          rw [pb_r, pb_r]
          have hD6 : (mu (mu (mu C 30 3 (nI e)) 32 (30 + 7 * i) (nI u)) 30 3 (nI e3)) 30 6 = nI i := by
            rw [mu_o _ _ (by decide), mu_r _ _ _ (show 30 ≠ 32 by decide), mu_o _ _ (by decide), h6]
          have hs2 : S_X9_readBoilers_5 C = some (.inl (mu (mu (mu (mu (mu C 30 3 (nI e)) 32 (30 + 7 * i) (nI u)) 30 3 (nI e3)) 32 (30 + 7 * i + 1) (nI f)) 30 6 (nI (i + 1)))) := by
            rw [hs1]
            show some (Sum.inl (mu _ 30 6 ((mu (mu (mu C 30 3 (nI e)) 32 (30 + 7 * i) (nI u)) 30 3 (nI e3)) 30 6 + 1))) = _
            rw [hD6, nI_1]
            rfl
          have h3 : MS T x (mu (mu (mu (mu (mu C 30 3 (nI e)) 32 (30 + 7 * i) (nI u)) 30 3 (nI e3)) 32 (30 + 7 * i + 1) (nI f)) 30 6 (nI (i + 1))) e3 := ((h2.mv (by omega)).q _ _).k (by decide) (by decide) _
          have hfm : Fm C (mu (mu (mu (mu (mu C 30 3 (nI e)) 32 (30 + 7 * i) (nI u)) 30 3 (nI e3)) 32 (30 + 7 * i + 1) (nI f)) 30 6 (nI (i + 1))) := ((((fm_n C (Or.inl rfl) _).tr (fm_p _ _ _)).tr (fm_n _ (Or.inl rfl) _)).tr (fm_p _ _ _)).tr (fm_n _ (Or.inr (Or.inl rfl)) _)
          have hpg : ∀ a, (mu (mu (mu (mu (mu C 30 3 (nI e)) 32 (30 + 7 * i) (nI u)) 30 3 (nI e3)) 32 (30 + 7 * i + 1) (nI f)) 30 6 (nI (i + 1))) 32 a = if a = 30 + 7 * i + 1 then nI f else if a = 30 + 7 * i then nI u else C 32 a := fun a => by
            rw [mu_r _ _ _ (show 32 ≠ 30 by decide)]
            by_cases q1 : a = 30 + 7 * i + 1
            · subst q1
              rw [mu_at, if_pos rfl]
            · rw [mu_o _ _ q1, if_neg q1, mu_r _ _ _ (show 32 ≠ 30 by decide)]
              by_cases q2 : a = 30 + 7 * i
              · subst q2
                rw [mu_at, if_pos rfl]
              · rw [mu_o _ _ q2, if_neg q2, mu_r _ _ _ (show 32 ≠ 30 by decide)]
          have h7 : (mu (mu (mu (mu (mu C 30 3 (nI e)) 32 (30 + 7 * i) (nI u)) 30 3 (nI e3)) 32 (30 + 7 * i + 1) (nI f)) 30 6 (nI (i + 1))) 30 7 = C 30 7 := by
            rw [mu_o _ _ (by decide), mu_r _ _ _ (show 30 ≠ 32 by decide), mu_o _ _ (by decide), mu_r _ _ _ (show 30 ≠ 32 by decide), mu_o _ _ (by decide)]
          obtain ⟨o, e', g⟩ := m_bl k (i + 1) (fun j => if j = i then (u, f) else c j) _ e3 m (by omega) h3 (mu_at _ _ _ _) (fun j hj => by
            rw [hpg, hpg]
            by_cases q : j = i
            · subst q
              rw [if_neg (by omega), if_pos rfl, if_pos rfl, if_pos rfl]
              exact ⟨rfl, rfl⟩
            · rw [if_neg (by omega), if_neg (by omega), if_neg (by omega), if_neg (by omega), if_neg (by omega)]
              exact hc j (by omega))
          refine ⟨o, by rw [iter_s _ hs2]; exact e', ?_⟩
          cases hb : blP x T k (i + 1) (fun j => if j = i then (u, f) else c j) e3 with
          | inl e4 =>
            rw [hb] at g
            obtain ⟨C', q1, q2, q3⟩ := g
            exact ⟨C', q1, hfm.tr q2, q3⟩
          | inr b4 =>
            rw [hb] at g
            obtain ⟨C', q1, q2, q3, q4, q5, q6, q7⟩ := g
            refine ⟨C', q1, hfm.tr q2, q3, q4, q5.trans h7, fun a ha => ?_, q7⟩
            rw [q6 a ha, hpg, if_neg (ha i (by omega)).2, if_neg (ha i (by omega)).1]
    · rw [if_neg hs]
      rw [if_neg hs, if_pos rfl, if_neg hs] at hs0
      refine ⟨_, iter_e _ (hX.symm.trans hs0) _, _, rfl, fm_n C (Or.inl rfl) _, h.mv h.2.2.2.1, ?_, ?_, fun a _ => ?_, fun j hj => ?_⟩
      · rw [mu_o _ _ (by decide)]; exact h6
      · rw [mu_o _ _ (by decide)]
      · rw [mu_r _ _ _ (show 32 ≠ 30 by decide)]
      · rw [mu_r _ _ _ (show 32 ≠ 30 by decide)]
        exact hc j hj
theorem m_tl {L : Nat} (hL : L ≤ 8) : ∀ (k j l : Nat) (c : Nat → Nat) (C : Mem) (p m : Nat), j + k = L → l < 100 → MS T x C p → C 30 7 = nI L → (∀ a, a < j → C 32 (22 + a) = nI (c a)) → ∃ o, iter (fun z => S_X9_readAll_127 z.1 z.2.1 z.2.2) (k + 1 + m) (nI l, nI j, C) = some o ∧ match tmP x T k j l c p with
    | .inl e => ∃ C', o = .inr (0, C') ∧ Fm C C' ∧ C' 30 3 = nI e
    | .inr b => ∃ v w C', o = .inl (v, w, C') ∧ Fm C C' ∧ MS T x C' b.2 ∧ C' 30 6 = C 30 6 ∧ C' 30 7 = C 30 7 ∧ (∀ a, (a < 22 ∨ 30 ≤ a) → C' 32 a = C 32 a) ∧ ∀ a, a < L → C' 32 (22 + a) = nI (b.1 a)
  | 0, j, l, c, C, p, m, hj, hl, h, h7, hc => by
    refine ⟨.inl (nI l, nI j, C), ?_, nI l, nI j, C, rfl, Fm.rf C, h, rfl, rfl, fun _ _ => rfl, fun a ha => hc a (by omega)⟩
    rw [show 0 + 1 + m = m + 1 by omega]
    refine iter_e _ ?_ _
    show S_X9_readAll_127 (nI l) (nI j) C = _
    unfold S_X9_readAll_127
    rw [h7, if_pos (nI_le (show L ≤ j by omega) (by omega))]
  | k + 1, j, l, c, C, p, m, hj, hl, h, h7, hc => by
    have a32 : alen 32 = 65 := rfl
    have m2 := m_two h (a := l) (b := 99) hl (by decide)
    have m2' : F_X9_two (nI l) (99 : Int32) C = some (vl (twP x T l 99 p), mu C 30 3 (nI (ps (twP x T l 99 p)))) := m2
    obtain ⟨X, hX⟩ : ∃ X, X = S_X9_readAll_127 (nI l) (nI j) C := ⟨_, rfl⟩
    have hs0 := hX
    unfold S_X9_readAll_127 at hs0
    rw [h7, if_neg (nI_ge (show j < L by omega) (by omega)), m2', b2_s, a22, a32, gi_n (show 22 + j < 65 by omega) (by decide), nI_clamp (show 22 + j < 2 ^ 31 by omega), nm_s, nm_s, nI_1] at hs0
    rw [show k + 1 + 1 + m = (k + 1 + m) + 1 by omega]
    unfold tmP
    cases ht : twP x T l 99 p with
    | inl e =>
      rw [ht, if_pos (show vl (.inl e) = -9 from rfl)] at hs0
      rw [pb_l]
      refine ⟨_, iter_e _ (hX.symm.trans hs0) _, _, rfl, fm_n C (Or.inl rfl) _, mu_at _ _ _ _⟩
    | inr o =>
      obtain ⟨u, e⟩ := o
      have hv := tw_v hl (by decide) ht
      rw [ht, if_neg (show vl (.inr (u, e)) ≠ -9 from nI_n9 (by omega))] at hs0
      have hs1 : S_X9_readAll_127 (nI l) (nI j) C = some (.inl (nI u, nI (j + 1), mu (mu C 30 3 (nI e)) 32 (22 + j) (nI u))) := hX.symm.trans hs0
      rw [pb_r]
      obtain ⟨o, e', g⟩ := m_tl hL k (j + 1) u (fun a => if a = j then u else c a) (mu (mu C 30 3 (nI e)) 32 (22 + j) (nI u)) e m (by omega) (by omega) ((h.mv hv.2.2).q _ _) (by rw [mu_r _ _ _ (show 30 ≠ 32 by decide), mu_o _ _ (by decide)]; exact h7) (fun a ha => by
        by_cases q : a = j
        · subst q
          rw [mu_at, if_pos rfl]
        · rw [mu_o _ _ (by omega), if_neg q, mu_r _ _ _ (show 32 ≠ 30 by decide)]
          exact hc a (by omega))
      refine ⟨o, by rw [iter_s _ hs1]; exact e', ?_⟩
      have hfm : Fm C (mu (mu C 30 3 (nI e)) 32 (22 + j) (nI u)) := (fm_n C (Or.inl rfl) _).tr (fm_p _ _ _)
      cases hb : tmP x T k (j + 1) u (fun a => if a = j then u else c a) e with
      | inl e4 =>
        rw [hb] at g
        obtain ⟨C', q1, q2, q3⟩ := g
        exact ⟨C', q1, hfm.tr q2, q3⟩
      | inr b4 =>
        rw [hb] at g
        obtain ⟨v, w, C', q1, q2, q3, q4, q5, q6, q7⟩ := g
        refine ⟨v, w, C', q1, hfm.tr q2, q3, ?_, ?_, fun a ha => ?_, q7⟩
        · rw [q4, mu_r _ _ _ (show 30 ≠ 32 by decide), mu_o _ _ (by decide)]
        · rw [q5, mu_r _ _ _ (show 30 ≠ 32 by decide), mu_o _ _ (by decide)]
        · rw [q6 a ha, mu_o _ _ (by omega), mu_r _ _ _ (show 32 ≠ 30 by decide)]
end RDM
