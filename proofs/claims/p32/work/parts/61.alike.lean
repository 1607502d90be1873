/-! two objects that stand for one page answer alike -/
theorem iter_n {σ ρ : Type} {step : σ → Option (σ ⊕ ρ)} (e : Nat → σ) (r : ρ) {n F : Nat} (hn : n < F) (hs : ∀ i, i < n → step (e i) = some (.inl (e (i + 1)))) (he : step (e n) = some (.inr r)) : iter step F (e 0) = some r := by
  have k : ∀ (j i m : Nat), i + j = n → iter step (j + 1 + m) (e i) = some r := by
    intro j
    induction j with
    | zero =>
      intro i m h
      have : i = n := by omega
      subst this
      rw [show 0 + 1 + m = m + 1 by omega]
      exact iter_e step he m
    | succ j ih =>
      intro i m h
      rw [show j + 1 + 1 + m = (j + 1 + m) + 1 by omega, iter_s step (hs i (by omega))]
      exact ih (i + 1) m (by omega)
  have := k n 0 (F - n - 1) (by omega)
  rwa [show n + 1 + (F - n - 1) = F by omega] at this
theorem iter_embF {σ ρ τ : Type} {step : σ → Option (σ ⊕ ρ)} (e : Nat → τ → σ) (f : Nat → τ → τ) (I : Nat → τ → Prop) (r : τ → ρ) {n F : Nat} (hn : n < F) {t0 : τ} (h0 : I 0 t0) (hs : ∀ i t, i < n → I i t → step (e i t) = some (.inl (e (i + 1) (f i t))) ∧ I (i + 1) (f i t)) (he : ∀ t, I n t → step (e n t) = some (.inr (r t))) : iter step F (e 0 t0) = some (r (fe f n t0)) := by
  rw [show F = n + ((F - 1 - n) + 1) by omega, iter_run h0 n hs]
  exact iter_e step (he _ (fe_inv h0 fun i t hi ht => (hs i t hi ht).2)) _
theorem d4 : ∀ k : Nat, k < 8 → nI k / (4 : Int32) = nI (k / 4) ∧ nI k - nI (k / 4) * (4 : Int32) = nI (k % 4) := by decide +kernel
section ALIKE
variable {C D : Mem} {z : Pg} {N Y K L : Nat}
theorem al_60 (h : Ob N Y K z C) (g : Ob N Y L z D) {k : Nat} (hk : k < 17) : J_L_alike_60 (nI k) C D = some (.inl (1, nI (k + 1), C, D)) := by
  unfold J_L_alike_60
  by_cases h7 : k ≤ 7
  · rw [if_neg (show ¬ (7 : Int32) < nI k from nI_nlt h7 (by decide)), (d4 k (by omega)).1, (d4 k (by omega)).2, tf h (f := k / 4) (k := k % 4) (by omega) (by omega), b2_s, tf g (f := k / 4) (k := k % 4) (by omega) (by omega), b2_s, if_pos rfl, nm_s, nI_1]
  · rw [if_pos (show (7 : Int32) < nI k from nI_lt (show 7 < k by omega) (by omega)), nm_s, nI_1]
theorem al_19 (h : Ob N Y K z C) (g : Ob N Y L z D) {k : Nat} (hk : k < 17) : S_L_alike_19 1 (nI k) C D = some (.inl (1, nI (k + 1), C, D)) := by
  unfold S_L_alike_19
  rw [if_neg (show ¬ (17 : Int32) ≤ nI k from nI_ge hk (by decide)), if_neg (by decide), ta h hk, b2_s, ta g hk, b2_s, if_pos rfl]
  by_cases h5 : k ≤ 5
  · rw [if_neg (show ¬ (5 : Int32) < nI k from nI_nlt h5 (by decide)), tc h (show k < 6 by omega), b2_s, tc g (show k < 6 by omega), b2_s, if_pos rfl, al_60 h g hk]
  · rw [if_pos (show (5 : Int32) < nI k from nI_lt (show 5 < k by omega) (by omega)), al_60 h g hk]
theorem al_120 (h : Ob N Y K z C) (g : Ob N Y L z D) {i k : Nat} (hi : i < N) (hk : k < 8) : S_L_alike_120 (nI i) 1 (nI k) C D = some (.inl (1, nI (k + 1), C, D)) := by
  unfold S_L_alike_120
  rw [if_neg (show ¬ (8 : Int32) ≤ nI k from nI_ge hk (by decide)), if_neg (by decide), tb h hi hk, b2_s, tb g hi hk, b2_s, if_pos rfl, nm_s, nI_1]
theorem al_103 (h : Ob N Y K z C) (g : Ob N Y L z D) {i : Nat} (hi : i < N) : S_L_alike_103 1 (nI i) C D = some (.inl (1, nI (i + 1), C, D)) := by
  unfold S_L_alike_103
  have hn := h.1.1
  rw [ta_6 h, b2_s, if_neg (nI_ge hi (by omega)), if_neg (by decide)]
  have e : iter (fun x => S_L_alike_120 (nI i) x.1 x.2.1 x.2.2.1 x.2.2.2) 9 ((1 : Int32), (0 : Int32), C, D) = some ((1 : Int32), nI 8, C, D) :=
    iter_n (fun k => ((1 : Int32), nI k, C, D)) _ (n := 8) (by decide) (fun k hk => al_120 h g hi hk) (by
      show S_L_alike_120 (nI i) 1 (nI 8) C D = _
      unfold S_L_alike_120
      rw [if_pos (by decide)])
  rw [e, b1_s, u4_s, nm_s, nI_1]
theorem al_168 (h : Ob N Y K z C) (g : Ob N Y L z D) {j : Nat} (hj : j < Y) : S_L_alike_168 1 (nI j) C D = some (.inl (1, nI (j + 1), C, D)) := by
  unfold S_L_alike_168
  have hy := h.1.2
  rw [ta_7 h, b2_s, if_neg (nI_ge hj (by omega)), if_neg (by decide), tl h hj, b2_s, tl g hj, b2_s, if_pos rfl, nm_s, nI_1]
theorem alike_ok (h : Ob N Y K z C) (g : Ob N Y L z D) : F_L_alike C D = some (1, C, D) := by
  have hn := h.1.1
  have hy := h.1.2
  have e1 : iter (fun x => S_L_alike_19 x.1 x.2.1 x.2.2.1 x.2.2.2) 18 ((1 : Int32), (0 : Int32), C, D) = some ((1 : Int32), nI 17, C, D) :=
    iter_n (fun k => ((1 : Int32), nI k, C, D)) _ (n := 17) (by decide) (fun k hk => al_19 h g hk) (by
      show S_L_alike_19 1 (nI 17) C D = _
      unfold S_L_alike_19
      rw [if_pos (by decide)])
  have e2 : iter (fun x => S_L_alike_103 x.1 x.2.1 x.2.2.1 x.2.2.2) 6 ((1 : Int32), (0 : Int32), C, D) = some ((1 : Int32), nI N, C, D) :=
    iter_n (fun k => ((1 : Int32), nI k, C, D)) _ (n := N) (by omega) (fun k hk => al_103 h g hk) (by
      show S_L_alike_103 1 (nI N) C D = _
      unfold S_L_alike_103
      rw [ta_6 h, b2_s, if_pos (nI_le (Nat.le_refl _) (by omega))])
  have e3 : iter (fun x => S_L_alike_168 x.1 x.2.1 x.2.2.1 x.2.2.2) 9 ((1 : Int32), (0 : Int32), C, D) = some ((1 : Int32), nI Y, C, D) :=
    iter_n (fun k => ((1 : Int32), nI k, C, D)) _ (n := Y) (by omega) (fun k hk => al_168 h g hk) (by
      show S_L_alike_168 1 (nI Y) C D = _
      unfold S_L_alike_168
      rw [ta_7 h, b2_s, if_pos (nI_le (Nat.le_refl _) (by omega))])
  unfold F_L_alike
  rw [tn h, b2_s, tn g, b2_s, if_pos rfl]
  unfold J_L_alike_16
  rw [e1, b1_s, u4_s, e2, b1_s, u4_s, e3, b1_s, u4_s, gb_p (by decide)]
end ALIKE
