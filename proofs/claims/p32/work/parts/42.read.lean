/-! the whole text, read -/
theorem mu_mu (C : Mem) (r k : Nat) (v w : Int32) : mu (mu C r k v) r k w = mu C r k w := by
  rw [mu_s C, mu_sr, up_up, ← mu_s]
theorem mu_at (C : Mem) (r k : Nat) (v : Int32) : mu C r k v r k = v := by rw [mu_s, sr_same, up_same]
theorem mu_o (C : Mem) {r k j : Nat} (v : Int32) (h : j ≠ k) : mu C r k v r j = C r j := by rw [mu_s, sr_same, up_ne _ _ h]
theorem mu_r (C : Mem) {r q : Nat} (k : Nat) (v : Int32) (h : q ≠ r) : mu C r k v q = C q := by rw [mu_s, sr_ne _ _ h]
theorem bl_v {x : Pg} {T : Nat} : ∀ (k i : Nat) (c : Nat → Nat × Nat) (p : Nat) {n : Nat} {c' : Nat → Nat × Nat} {e : Nat}, p ≤ T → (∀ j, j < i → (c j).1 ≤ 30 ∧ (c j).2 ≤ 1) → blP x T k i c p = .inr ((n, c'), e) → i ≤ n ∧ n ≤ i + k ∧ e ≤ T ∧ ∀ j, j < n → (c' j).1 ≤ 30 ∧ (c' j).2 ≤ 1
  | 0, i, c, p, n, c', e, hp, hc, h => by
    unfold blP at h
    cases h
    exact ⟨Nat.le_refl _, Nat.le_refl _, hp, hc⟩
  | k + 1, i, c, p, n, c', e, hp, hc, h => by
    unfold blP at h
    by_cases hs : p < T ∧ x p = 98
    · rw [if_pos hs] at h
      cases hb : boP x T p with
      | inl e1 => rw [hb, pb_l] at h; cases h
      | inr o =>
        obtain ⟨⟨a, f⟩, e1⟩ := o
        rw [hb, pb_r] at h
        have hv := bo_v hb
        have g := bl_v k (i + 1) _ e1 hv.2.2.1 (fun j hj => by
          by_cases q : j = i
          · rw [if_pos q]; exact ⟨hv.1, hv.2.1⟩
          · rw [if_neg q]; exact hc j (by omega)) h
        exact ⟨by omega, by omega, g.2.2⟩
    · rw [if_neg hs] at h
      cases h
      exact ⟨Nat.le_refl _, by omega, hp, hc⟩
theorem bl_e {x : Pg} {T : Nat} : ∀ (k i : Nat) (c : Nat → Nat × Nat) (p : Nat) {e : Nat}, p ≤ T → blP x T k i c p = .inl e → e ≤ T
  | 0, i, c, p, e, hp, h => by
    unfold blP at h
    cases h
  | k + 1, i, c, p, e, hp, h => by
    unfold blP at h
    by_cases hs : p < T ∧ x p = 98
    · rw [if_pos hs] at h
      cases hb : boP x T p with
      | inl e1 => rw [hb, pb_l] at h; cases h; exact bo_e hp hb
      | inr o =>
        obtain ⟨⟨a, f⟩, e1⟩ := o
        rw [hb, pb_r] at h
        exact bl_e k (i + 1) _ e1 (bo_v hb).2.2.1 h
    · rw [if_neg hs] at h
      cases h
theorem tm_v {x : Pg} {T : Nat} : ∀ (k j l : Nat) (c : Nat → Nat) (p : Nat) {c' : Nat → Nat} {e : Nat}, l < 100 → p ≤ T → (∀ a, a < j → c a ≤ 99) → tmP x T k j l c p = .inr (c', e) → e ≤ T ∧ ∀ a, a < j + k → c' a ≤ 99
  | 0, j, l, c, p, c', e, hl, hp, hc, h => by
    unfold tmP at h
    cases h
    exact ⟨hp, hc⟩
  | k + 1, j, l, c, p, c', e, hl, hp, hc, h => by
    unfold tmP at h
    cases hb : twP x T l 99 p with
    | inl e1 => rw [hb, pb_l] at h; cases h
    | inr o =>
      obtain ⟨v, e1⟩ := o
      rw [hb, pb_r] at h
      have hv := tw_v hl (by decide) hb
      have g := tm_v k (j + 1) v _ e1 (by omega) hv.2.2 (fun a ha => by
        by_cases q : a = j
        · rw [if_pos q]; exact hv.1
        · rw [if_neg q]; exact hc a (by omega)) h
      exact ⟨g.1, fun a ha => g.2 a (by omega)⟩
theorem tm_e {x : Pg} {T : Nat} : ∀ (k j l : Nat) (c : Nat → Nat) (p : Nat) {e : Nat}, l < 100 → p ≤ T → tmP x T k j l c p = .inl e → e ≤ T
  | 0, j, l, c, p, e, hl, hp, h => by
    unfold tmP at h
    cases h
  | k + 1, j, l, c, p, e, hl, hp, h => by
    unfold tmP at h
    cases hb : twP x T l 99 p with
    | inl e1 => rw [hb, pb_l] at h; cases h; exact tw_e hl (by decide) hp hb
    | inr o =>
      obtain ⟨v, e1⟩ := o
      rw [hb, pb_r] at h
      have hv := tw_v hl (by decide) hb
      exact tm_e k (j + 1) v _ e1 (by omega) hv.2.2 h
section RDL
variable {T : Nat} {x : Pg}
/-- the frame of the boilers' loop, of the temperatures' -/
def Fb (C C' : Mem) : Prop := (∀ r, r ≠ 18 → r ≠ 20 → r ≠ 21 → C' r = C r) ∧ ∀ k, k ≠ 5 → k ≠ 9 → k ≠ 10 → C' 18 k = C 18 k
theorem Fb.rf (C : Mem) : Fb C C := ⟨fun _ _ _ _ => rfl, fun _ _ _ _ => rfl⟩
theorem Fb.tr {C C1 C2 : Mem} (h : Fb C C1) (g : Fb C1 C2) : Fb C C2 := ⟨fun r a b c => (g.1 r a b c).trans (h.1 r a b c), fun k a b c => (g.2 k a b c).trans (h.2 k a b c)⟩
theorem RS.fb {C C1 : Mem} {p q : Nat} {v w : Bool} (h : RS T x C p v) (g : Fb C C1) (hq : q ≤ T) (h9 : C1 18 9 = nI q) (h10 : C1 18 10 = (if w then 1 else 0)) : RS T x C1 q w :=
  ⟨(g.2 1 (by decide) (by decide) (by decide)).trans h.1, h.2.1, fun k hk => by rw [g.1 19 (by decide) (by decide) (by decide)]; exact h.2.2.1 k hk, hq, h9, h10⟩
theorem c_bl : ∀ (k i : Nat) (c : Nat → Nat × Nat) (C : Mem) (p m : Nat), i + k = 5 → RS T x C p false → C 18 5 = nI i → (∀ j, j < i → C 20 j = nI (c j).1 ∧ C 21 j = nI (c j).2) → ∃ C', iter (fun z => S_X4_read_59 z) (k + 2 + m) C = some C' ∧ Fb C C' ∧ match blP x T k i c p with
    | .inl e => RS T x C' e true
    | .inr o => RS T x C' o.2 false ∧ C' 18 5 = nI o.1.1 ∧ ∀ j, j < o.1.1 → C' 20 j = nI (o.1.2 j).1 ∧ C' 21 j = nI (o.1.2 j).2
  | 0, i, c, C, p, m, hi, h, hc, hb => by
    refine ⟨C, ?_, Fb.rf C, h, hc, hb⟩
    rw [show 0 + 2 + m = (m + 1) + 1 by omega]
    refine iter_e _ ?_ _
    show S_X4_read_59 C = _
    unfold S_X4_read_59
    rw [hc, if_pos (show (5 : Int32) ≤ nI i from nI_le (show 5 ≤ i by omega) (by omega))]
  | k + 1, i, c, C, p, m, hi, h, hc, hb => by
    have hstep : S_X4_read_59 C = (if (if p < T ∧ x p = 98 then (1 : Int32) else 0) = 0 then some (Sum.inr C) else b2 (F_X4_readBoiler (nI i) C) fun r30 C31 => nm (mu C31 18 5 (C31 18 5 + 1)) fun C33 => some (Sum.inl C33)) := by
      unfold S_X4_read_59
      rw [hc, if_neg (show ¬ (5 : Int32) ≤ nI i from nI_ge (show i < 5 by omega) (by decide)), c_sees h, b2_s, hc]
    unfold blP
    by_cases hs : p < T ∧ x p = 98
    · rw [if_pos hs]
      rw [if_pos hs, if_neg (by decide)] at hstep
      obtain ⟨r, C1, e1, g1⟩ := c_boiler h (i := i) (by omega)
      rw [e1, b2_s, nm_s] at hstep
      have fb : ∀ (q : Nat) (w : Bool), Bd C C1 i q w → Fb C (mu C1 18 5 (C1 18 5 + 1)) ∧ (mu C1 18 5 (C1 18 5 + 1)) 18 5 = nI (i + 1) ∧ (mu C1 18 5 (C1 18 5 + 1)) 18 9 = nI q ∧ (mu C1 18 5 (C1 18 5 + 1)) 18 10 = (if w then 1 else 0) := fun q w g => by
        refine ⟨⟨fun r a b c => ?_, fun k a b c => ?_⟩, ?_, ?_, ?_⟩
        · rw [mu_r _ _ _ a, g.1 r a b c]
        · rw [mu_o _ _ a, g.2.1 k b c]
        · rw [mu_at, g.2.1 5 (by decide) (by decide), hc, nI_1]
        · rw [mu_o _ _ (by decide)]; exact g.2.2.2.1
        · rw [mu_o _ _ (by decide)]; exact g.2.2.2.2
      cases hbo : boP x T p with
      | inl e =>
        rw [hbo] at g1
        obtain ⟨f1, f2, f3, f4⟩ := fb e true g1
        have he := bo_e h.2.2.2.1 hbo
        have hW := h.fb (w := true) f1 he f3 f4
        rw [pb_l]
        refine ⟨_, ?_, f1, hW⟩
        rw [show k + 1 + 2 + m = (k + 1 + m) + 1 + 1 by omega, iter_s _ hstep]
        refine iter_e _ ?_ _
        show S_X4_read_59 (mu C1 18 5 (C1 18 5 + 1)) = _
        unfold S_X4_read_59
        rw [f2]
        by_cases h5 : i + 1 < 5
        · rw [if_neg (show ¬ (5 : Int32) ≤ nI (i + 1) from nI_ge h5 (by decide)), c_seesW hW, b2_s, if_pos rfl]
        · rw [if_pos (show (5 : Int32) ≤ nI (i + 1) from nI_le (show 5 ≤ i + 1 by omega) (by omega))]
      | inr o =>
        obtain ⟨⟨a, f⟩, e⟩ := o
        rw [hbo] at g1
        obtain ⟨f1, f2, f3, f4⟩ := fb e false g1.1
        have hv := bo_v hbo
        have hW := h.fb (w := false) f1 hv.2.2.1 f3 f4
        rw [pb_r]
        obtain ⟨C', e', g', g2'⟩ := c_bl k (i + 1) (fun j => if j = i then (a, f) else c j) _ e m (by omega) hW f2 (fun j hj => by
          rw [mu_r _ _ _ (show 20 ≠ 18 by decide), mu_r _ _ _ (show 21 ≠ 18 by decide)]
          by_cases q : j = i
          · subst q
            rw [if_pos rfl]
            exact g1.2
          · rw [if_neg q, (g1.1.2.2.1 j q).1, (g1.1.2.2.1 j q).2]
            exact hb j (by omega))
        refine ⟨C', ?_, f1.tr g', g2'⟩
        rw [show k + 1 + 2 + m = (k + 2 + m) + 1 by omega, iter_s _ hstep]
        exact e'
    · rw [if_neg hs]
      rw [if_neg hs, if_pos rfl] at hstep
      refine ⟨C, ?_, Fb.rf C, h, hc, hb⟩
      rw [show k + 1 + 2 + m = (k + 2 + m) + 1 by omega]
      exact iter_e _ hstep _
def Ft (C C' : Mem) : Prop := (∀ r, r ≠ 18 → r ≠ 22 → C' r = C r) ∧ ∀ k, k ≠ 9 → k ≠ 10 → C' 18 k = C 18 k
theorem Ft.rf (C : Mem) : Ft C C := ⟨fun _ _ _ => rfl, fun _ _ _ => rfl⟩
theorem Ft.tr {C C1 C2 : Mem} (h : Ft C C1) (g : Ft C1 C2) : Ft C C2 := ⟨fun r a b => (g.1 r a b).trans (h.1 r a b), fun k a b => (g.2 k a b).trans (h.2 k a b)⟩
theorem P9.ft {C C1 : Mem} {p : Nat} {w : Bool} (g : P9 C C1 p w) : Ft C C1 := ⟨fun r a _ => g.1 r a, g.2.1⟩
theorem RS.ft {C C1 : Mem} {p q : Nat} {v w : Bool} (h : RS T x C p v) (g : Ft C C1) (hq : q ≤ T) (h9 : C1 18 9 = nI q) (h10 : C1 18 10 = (if w then 1 else 0)) : RS T x C1 q w :=
  ⟨(g.2 1 (by decide) (by decide)).trans h.1, h.2.1, fun k hk => by rw [g.1 19 (by decide) (by decide)]; exact h.2.2.1 k hk, hq, h9, h10⟩
theorem ft_22 (C : Mem) (j : Nat) (v : Int32) : Ft C (mu C 22 j v) := ⟨fun _ _ b => mu_r C _ _ b, fun _ _ _ => by rw [mu_r _ _ _ (show 18 ≠ 22 by decide)]⟩
theorem RS.t22 {C : Mem} {p : Nat} {w : Bool} (h : RS T x C p w) (j : Nat) (v : Int32) : RS T x (mu C 22 j v) p w := h.ft (ft_22 C j v) h.2.2.2.1 (by rw [mu_r _ _ _ (show 18 ≠ 22 by decide)]; exact h.2.2.2.2.1) (by rw [mu_r _ _ _ (show 18 ≠ 22 by decide)]; exact h.2.2.2.2.2)
theorem c_tlW {L : Nat} (hL : L ≤ 8) : ∀ (k j : Nat) (v : Int32) (C : Mem) (p m : Nat), j + k = L → RS T x C p true → C 18 2 = nI L → ∃ r : Int32 × Int32 × Mem, iter (fun z => S_X4_readTemperatures_10 z.1 z.2.1 z.2.2) (k + 1 + m) (v, nI j, C) = some r ∧ Ft C r.2.2 ∧ RS T x r.2.2 p true
  | 0, j, v, C, p, m, hj, h, h2 => by
    refine ⟨(v, nI j, C), ?_, Ft.rf C, h⟩
    rw [show 0 + 1 + m = m + 1 by omega]
    refine iter_e _ ?_ _
    show S_X4_readTemperatures_10 v (nI j) C = _
    unfold S_X4_readTemperatures_10
    rw [h2, if_pos (nI_le (show L ≤ j by omega) (by omega))]
  | k + 1, j, v, C, p, m, hj, h, h2 => by
    obtain ⟨v1, C1, e1, g1⟩ := c_numberW h v 99
    have h1 := (h.to g1 h.2.2.2.1).t22 j v1
    obtain ⟨r, e, g, g2⟩ := c_tlW hL k (j + 1) v1 (mu C1 22 j v1) p m (by omega) h1 (by rw [mu_r _ _ _ (show 18 ≠ 22 by decide), g1.2.1 2 (by decide) (by decide)]; exact h2)
    refine ⟨r, ?_, (g1.ft.tr (ft_22 C1 j v1)).tr g, g2⟩
    rw [show k + 1 + 1 + m = (k + 1 + m) + 1 by omega, ← e]
    refine iter_s _ ?_ _
    show S_X4_readTemperatures_10 v (nI j) C = _
    unfold S_X4_readTemperatures_10
    rw [h2, if_neg (nI_ge (show j < L by omega) (by omega)), if_neg (show ¬ (8 : Int32) ≤ nI j from nI_ge (show j < 8 by omega) (by decide)), e1, b2_s, gi_n (by omega) (by decide), nI_clamp (by omega), nm_s, nm_s, nI_1]
theorem c_tl {L : Nat} (hL : L ≤ 8) : ∀ (k j l : Nat) (c : Nat → Nat) (C : Mem) (p m : Nat), j + k = L → l < 100 → RS T x C p false → C 18 2 = nI L → (∀ a, a < j → C 22 a = nI (c a)) → ∃ r : Int32 × Int32 × Mem, iter (fun z => S_X4_readTemperatures_10 z.1 z.2.1 z.2.2) (k + 1 + m) (nI l, nI j, C) = some r ∧ Ft C r.2.2 ∧ match tmP x T k j l c p with
    | .inl e => RS T x r.2.2 e true
    | .inr o => RS T x r.2.2 o.2 false ∧ ∀ a, a < L → r.2.2 22 a = nI (o.1 a)
  | 0, j, l, c, C, p, m, hj, hl, h, h2, hc => by
    refine ⟨(nI l, nI j, C), ?_, Ft.rf C, h, fun a ha => hc a (by omega)⟩
    rw [show 0 + 1 + m = m + 1 by omega]
    refine iter_e _ ?_ _
    show S_X4_readTemperatures_10 (nI l) (nI j) C = _
    unfold S_X4_readTemperatures_10
    rw [h2, if_pos (nI_le (show L ≤ j by omega) (by omega))]
  | k + 1, j, l, c, C, p, m, hj, hl, h, h2, hc => by
    obtain ⟨v1, C1, e1, g1⟩ := c_number h (a := l) (b := 99) hl (by decide)
    have e1' : F_X4_readNumber (nI l) (99 : Int32) C = some (v1, C1) := e1
    have hstep : S_X4_readTemperatures_10 (nI l) (nI j) C = some (.inl (v1, nI (j + 1), mu C1 22 j v1)) := by
      unfold S_X4_readTemperatures_10
      rw [h2, if_neg (nI_ge (show j < L by omega) (by omega)), if_neg (show ¬ (8 : Int32) ≤ nI j from nI_ge (show j < 8 by omega) (by decide)), e1', b2_s, gi_n (by omega) (by decide), nI_clamp (by omega), nm_s, nm_s, nI_1]
    unfold tmP
    cases ht : twP x T l 99 p with
    | inl e =>
      rw [ht] at g1
      have he := tw_e hl (by decide) h.2.2.2.1 ht
      have h1 := (h.to g1 he).t22 j v1
      obtain ⟨r, e', g, g2⟩ := c_tlW hL k (j + 1) v1 (mu C1 22 j v1) e m (by omega) h1 (by rw [mu_r _ _ _ (show 18 ≠ 22 by decide), g1.2.1 2 (by decide) (by decide)]; exact h2)
      rw [pb_l]
      refine ⟨r, ?_, ((P9.ft g1).tr (ft_22 C1 j v1)).tr g, g2⟩
      rw [show k + 1 + 1 + m = (k + 1 + m) + 1 by omega, ← e']
      exact iter_s _ hstep _
    | inr o =>
      obtain ⟨u, e⟩ := o
      rw [ht] at g1
      obtain ⟨rfl, g1⟩ := g1
      have hv := tw_v hl (by decide) ht
      have h1 := (h.to g1 hv.2.2).t22 j (nI u)
      rw [pb_r]
      obtain ⟨r, e', g, g2⟩ := c_tl hL k (j + 1) u (fun a => if a = j then u else c a) (mu C1 22 j (nI u)) e m (by omega) (by omega) h1 (by rw [mu_r _ _ _ (show 18 ≠ 22 by decide), g1.2.1 2 (by decide) (by decide)]; exact h2) (fun a ha => by
        by_cases q : a = j
        · subst q
          rw [mu_at, if_pos rfl]
        · rw [mu_o _ _ q, if_neg q, g1.1 22 (by decide)]
          exact hc a (by omega))
      refine ⟨r, ?_, (g1.ft.tr (ft_22 C1 j (nI u))).tr g, g2⟩
      rw [show k + 1 + 1 + m = (k + 1 + m) + 1 by omega, ← e']
      exact iter_s _ hstep _
theorem g_fill (C : Mem) : F_X4_fillTemperatures C = some (0, sr C 22 (fe (fun j u => up u j 40) 8 (C 22))) := by
  have h : iter (fun z => S_X4_fillTemperatures_2 z.1 z.2) fuel ((0 : Int32), C) = some (nI 8, sr C 22 (fe (fun j u => up u j 40) 8 (C 22))) := by
    have g := iter_emb (step := fun z => S_X4_fillTemperatures_2 z.1 z.2) (n := 8) (t0 := C 22) (fun i t => (nI i, sr C 22 t)) (fun j u => up u j 40) (fun _ _ => True) (fun t => (nI 8, sr C 22 t)) (by omega) trivial (fun i t hi _ => ⟨by
      show S_X4_fillTemperatures_2 (nI i) (sr C 22 t) = _
      unfold S_X4_fillTemperatures_2
      rw [if_neg (show ¬ (8 : Int32) ≤ nI i from nI_ge hi (by decide)), gi_n (by omega) (by decide), nI_clamp (by omega), nm_s, nm_s, nI_1, mu_sr], trivial⟩) (fun t _ => by
      show S_X4_fillTemperatures_2 (nI 8) (sr C 22 t) = _
      unfold S_X4_fillTemperatures_2
      rw [if_pos (by decide)])
    rw [sr_self] at g
    exact g
  unfold F_X4_fillTemperatures
  rw [h, b1_s, u2_s]
theorem fill_at (t : Pg) : ∀ (n a : Nat), a < n → fe (fun j u => up u j 40) n t a = 40
  | 0, a, h => absurd h (Nat.not_lt_zero a)
  | n + 1, a, h => by
    show up (fe (fun j u => up u j 40) n t) n 40 a = 40
    by_cases q : a = n
    · subst q; rw [up_same]
    · rw [up_ne _ _ q]; exact fill_at t n a (by omega)
end RDL

