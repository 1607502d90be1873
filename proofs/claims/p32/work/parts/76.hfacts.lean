/-! what the hands rest on: draws, flues, the smallest set, the waits, the purges -/
section HFACTS
variable {N Y K : Nat} {y z : Pg}
theorem shf_all (n : Nat) (hn : n ≤ Y - 1) : (∀ k, k + n ≤ Y - 1 → fe (shf Y) n z (22 + k) = z (22 + k)) ∧ ∀ k, Y - 1 < k + n → 1 ≤ k → k ≤ Y - 1 → fe (shf Y) n z (22 + k) = z (22 + (k - 1)) := by
  refine fe_inv (f := shf Y) (I := fun n (t : Pg) => (∀ k, k + n ≤ Y - 1 → t (22 + k) = z (22 + k)) ∧ ∀ k, Y - 1 < k + n → 1 ≤ k → k ≤ Y - 1 → t (22 + k) = z (22 + (k - 1))) (t := z) (n := n) ⟨fun _ _ => rfl, fun k a b c => by omega⟩ fun i t hi h => ⟨fun k a => ?_, fun k a b c => ?_⟩
  · unfold shf
    rw [up_ne _ _ (by omega)]
    exact h.1 k (by omega)
  · unfold shf
    by_cases e : k = Y - 1 - i
    · subst e
      rw [up_same]
      exact h.1 _ (by omega)
    · rw [up_ne _ _ (by omega)]
      exact h.2 k (by omega) b c
theorem dl1_v : (dlv Y 1 z).1 = z (22 + (Y - 1)) := by
  show 0 + z (22 + (Y - 1)) = _
  exact Int32.zero_add _
theorem dl1_0 : dl Y 1 z (22 + 0) = 10 := by
  show inc (dr1 Y z) 15 _ 22 = 10
  unfold dr1
  rw [inc_ne _ _ (by decide), inc_ne _ _ (by decide), inc_ne _ _ (by decide), up_same]
theorem dl1_1 (h2 : 2 ≤ Y) : dl Y 1 z (22 + 1) = z (22 + 0) := by
  show inc (dr1 Y z) 15 _ (22 + 1) = _
  unfold dr1
  rw [inc_ne _ _ (by decide), inc_ne _ _ (by decide), inc_ne _ _ (by decide), up_ne _ _ (by decide)]
  exact (shf_all (Y - 1) (Nat.le_refl _)).2 1 (by omega) (by decide) (by omega)
/-- who is put out when a flue is shut -/
def outs (z : Pg) (f i : Nat) : Int32 := if z (30 + 7 * i + 1) = nI f ∧ ¬ z (30 + 7 * i + 2) = 0 ∧ ¬ z (30 + 7 * i + 2) = 4 then 1 else 0
theorem mv_all {f : Nat} (hf : f < 2) : (mv N f false z).1 = sm (outs z f) N ∧ ∀ i, i < N → (mv N f false z).2 (30 + 7 * i + 1) = z (30 + 7 * i + 1) ∧ (z (30 + 7 * i + 1) = nI f → (mv N f false z).2 (30 + 7 * i + 2) = 0 ∨ (mv N f false z).2 (30 + 7 * i + 2) = 4) := by
  have key := fe_inv (f := mvf f) (I := fun n (p : Int32 × Pg) => p.1 = sm (outs z f) n ∧ (∀ i, n ≤ i → p.2 (30 + 7 * i + 2) = z (30 + 7 * i + 2)) ∧ (∀ i, p.2 (30 + 7 * i + 1) = z (30 + 7 * i + 1)) ∧ ∀ i, i < n → z (30 + 7 * i + 1) = nI f → p.2 (30 + 7 * i + 2) = 0 ∨ p.2 (30 + 7 * i + 2) = 4) (t := ((0 : Int32), up z (20 + f) 0)) (n := N) ⟨rfl, fun i _ => up_ne _ _ (by omega), fun i => up_ne _ _ (by omega), fun i hi => absurd hi (Nat.not_lt_zero _)⟩ fun i p hi ⟨h1, h2, h3, h4⟩ => by
    unfold mvf
    rw [h3 i, h2 i (Nat.le_refl i)]
    by_cases c : z (30 + 7 * i + 1) = nI f ∧ ¬ z (30 + 7 * i + 2) = 0 ∧ ¬ z (30 + 7 * i + 2) = 4
    · rw [if_pos c]
      refine ⟨?_, fun j hj => ?_, fun j => ?_, fun j hj e => ?_⟩
      · show p.1 + 1 = sm (outs z f) i + outs z f i
        rw [h1]
        unfold outs
        rw [if_pos c]
      · exact (lv_out 0 (by omega)).trans (h2 j (by omega))
      · by_cases q : j = i
        · subst q
          exact (lv_o 0 (by decide) (by decide)).trans (h3 j)
        · exact (lv_out 0 (by omega)).trans (h3 j)
      · by_cases q : j = i
        · subst q
          exact Or.inl (lv_2 0)
        · rw [show (p.1 + 1, lv p.2 i 0).2 (30 + 7 * j + 2) = p.2 (30 + 7 * j + 2) from lv_out 0 (by omega)]
          exact h4 j (by omega) e
    · rw [if_neg c]
      refine ⟨?_, fun j hj => h2 j (by omega), h3, fun j hj e => ?_⟩
      · show p.1 = sm (outs z f) i + outs z f i
        unfold outs
        rw [if_neg c, Int32.add_zero]
        exact h1
      · by_cases q : j = i
        · subst q
          rw [h2 j (Nat.le_refl j)]
          by_cases c0 : z (30 + 7 * j + 2) = 0
          · exact Or.inl c0
          · by_cases c4 : z (30 + 7 * j + 2) = 4
            · exact Or.inr c4
            · exact absurd ⟨e, c0, c4⟩ c
        · exact h4 j (by omega) e
  have em : mv N f false z = fe (mvf f) N ((0 : Int32), up z (20 + f) 0) := rfl
  rw [em]
  exact ⟨key.1, fun i hi => ⟨key.2.2.1 i, fun e => key.2.2.2 i hi e⟩⟩
theorem mv_us {f : Nat} (hf : f < 2) : usS N (nI f) (mv N f false z).2 = 0 := by
  unfold usS
  refine (sm_cong fun i hi => ?_).trans (sm_z N)
  have k := (mv_all (z := z) hf).2 i hi
  refine if_neg fun q => ?_
  rw [k.1] at q
  rcases k.2 q.1 with c | c
  · rw [c] at q; rcases q.2 with r | r <;> exact absurd r (by decide)
  · rw [c] at q; rcases q.2 with r | r <;> exact absurd r (by decide)
theorem cnS_nn (n5 : N ≤ 5) (v : Int32) : ¬ cnS N v y < 0 := by
  have r := sm_rng (g := fun i => if y (30 + 7 * i + 2) = v then 1 else 0) (b := 1) (by decide) N n5 fun i _ => by
    show 0 ≤ (if y (30 + 7 * i + 2) = v then (1 : Int32) else 0).toInt ∧ _
    split <;> decide
  have e0 : (0 : Int32).toInt = 0 := rfl
  unfold cnS
  rw [fa_lt]
  omega
/-! the smallest set -/
theorem bss_ok (x : Int32) (z : Pg) : (bss N x z = 0 → ∀ j, j < 2 ^ N - 1 → okB N x z (nI (j + 1)) = false) ∧ (bss N x z ≠ 0 → okB N x z (nI (bss N x z)) = true ∧ bss N x z ≤ 2 ^ N - 1) := by
  refine fe_inv (f := bsf N x z) (I := fun i b => (b = 0 → ∀ j, j < i → okB N x z (nI (j + 1)) = false) ∧ (b ≠ 0 → okB N x z (nI b) = true ∧ b ≤ i)) (t := 0) (n := 2 ^ N - 1) ⟨fun _ j hj => absurd hj (Nat.not_lt_zero _), fun h => absurd rfl h⟩ fun i b hi ⟨h1, h2⟩ => ?_
  unfold bsf
  cases c : okB N x z (nI (i + 1)) with
  | true =>
    rw [if_pos rfl]
    by_cases b0 : b = 0
    · rw [if_pos b0]
      exact ⟨fun e => by omega, fun _ => ⟨c, Nat.le_refl _⟩⟩
    · rw [if_neg b0]
      by_cases s : smB N z (nI (i + 1)) (nI b) = true
      · rw [if_pos s]
        exact ⟨fun e => by omega, fun _ => ⟨c, Nat.le_refl _⟩⟩
      · rw [if_neg s]
        exact ⟨fun e => absurd e b0, fun _ => ⟨(h2 b0).1, by have := (h2 b0).2; omega⟩⟩
  | false =>
    rw [if_neg (by decide)]
    refine ⟨fun e j hj => ?_, fun e => ⟨(h2 e).1, by have := (h2 e).2; omega⟩⟩
    by_cases q : j = i
    · subst q; exact c
    · exact h1 e j (by omega)
theorem okB_t {x b : Int32} : okB N x z b = true ↔ ¬ pwA N b z < x ∧ ¬ z 18 < pwS N 0 b z ∧ ¬ z 19 < pwS N 1 b z := by
  unfold okB
  simp
theorem bss_up {x : Nat} (hx : x < 1000) (h : bss N (nI x) z = 0) : bss N (nI (x + 1)) z = 0 := by
  refine Classical.byContradiction fun q => ?_
  obtain ⟨a, b⟩ := (bss_ok (N := N) (nI (x + 1)) z).2 q
  have c := (bss_ok (N := N) (nI x) z).1 h (bss N (nI (x + 1)) z - 1) (by omega)
  rw [Nat.sub_add_cancel (by omega)] at c
  obtain ⟨a1, a2, a3⟩ := okB_t.mp a
  have : okB N (nI x) z (nI (bss N (nI (x + 1)) z)) = true := okB_t.mpr ⟨fun e => a1 (by
    rw [fa_lt, ti x (by omega)] at e
    rw [fa_lt, ti (x + 1) (by omega)]
    omega), a2, a3⟩
  rw [c] at this
  cases this
theorem mnS_pos : ∀ N : Nat, N < 6 → ∀ b : Nat, b < 2 ^ N → b ≠ 0 → ¬ mnS N (nI b) ≤ 0 := by decide +kernel
/-! the wait for warmth -/
theorem waf_ok (d : Nat) (x : Int32) : ∀ (k i : Nat) (t : Pg), (∃ j, i ≤ j ∧ j ≤ i + k ∧ waf N Y d x k i t = nI j ∧ ¬ avg Y (tkn N Y d (j - i) t) < x ∧ (j = i ∨ avg Y (tkn N Y d (j - 1 - i) t) < x)) ∨ (waf N Y d x k i t = -9 ∧ avg Y t < x)
  | 0, i, t => by
    unfold waf
    by_cases c : avg Y t < x
    · rw [if_pos c]; exact Or.inr ⟨rfl, c⟩
    · rw [if_neg c]
      exact Or.inl ⟨i, Nat.le_refl _, Nat.le_refl _, rfl, by rw [Nat.sub_self]; exact c, Or.inl rfl⟩
  | k + 1, i, t => by
    unfold waf
    by_cases c : avg Y t < x
    · rw [if_pos c]
      have sh : ∀ m, tkn N Y d m (tk N Y d t) = tkn N Y d (m + 1) t := fun m => by
        induction m with
        | zero => rfl
        | succ m ih =>
          show tk N Y d (tkn N Y d m (tk N Y d t)) = tk N Y d (tkn N Y d (m + 1) t)
          rw [ih]
      rcases waf_ok d x k (i + 1) (tk N Y d t) with ⟨j, a, b, e, f, g⟩ | ⟨e, f⟩
      · refine Or.inl ⟨j, by omega, by omega, e, ?_, Or.inr ?_⟩
        · rw [sh, show j - (i + 1) + 1 = j - i by omega] at f
          exact f
        · rcases g with g | g
          · rw [g, show i + 1 - 1 - i = 0 by omega]
            exact c
          · by_cases q : j = i + 1
            · rw [q, show i + 1 - 1 - i = 0 by omega]
              exact c
            · rw [sh, show j - 1 - (i + 1) + 1 = j - 1 - i by omega] at g
              exact g
      · exact Or.inr ⟨e, c⟩
    · rw [if_neg c]
      exact Or.inl ⟨i, Nat.le_refl _, by omega, rfl, by rw [Nat.sub_self]; exact c, Or.inl rfl⟩
/-! the purges -/
theorem brf_ok (n : Nat) (x : Int32) (z : Pg) : ∀ k, brf N Y n x z k = -9 ∨ ∃ j, j < k ∧ brf N Y n x z k = nI j
  | 0 => Or.inl rfl
  | k + 1 => by
    unfold brf
    by_cases c : hof N Y k x n z = true
    · rw [if_pos c]; exact Or.inr ⟨k, by omega, rfl⟩
    · rw [if_neg c]
      rcases brf_ok n x z k with e | ⟨j, hj, e⟩
      · exact Or.inl e
      · exact Or.inr ⟨j, by omega, e⟩
theorem cp_ok (d m : Nat) (z : Pg) : ∃ j, j < 5 ∧ (fe (cpC N Y d m z) 5 (-9, 0)).1 = nI (j + 1) ∧ ∀ k, k < 5 → (cpf N Y d m z j).toInt ≤ (cpf N Y d m z k).toInt := by
  have key := fe_inv (f := cpC N Y d m z) (I := fun i (p : Int32 × Int32) => (i = 0 ∧ p = (-9, 0)) ∨ ∃ j, j < i ∧ p = (nI (j + 1), cpf N Y d m z j) ∧ ∀ k, k < i → (cpf N Y d m z j).toInt ≤ (cpf N Y d m z k).toInt) (t := ((-9 : Int32), (0 : Int32))) (n := 5) (Or.inl ⟨rfl, rfl⟩) fun i p hi hp => by
    right
    unfold cpC
    rcases hp with ⟨rfl, rfl⟩ | ⟨j, hj, rfl, hk⟩
    · rw [if_pos rfl]
      exact ⟨0, by omega, rfl, fun k hk => by rw [show k = 0 by omega]; omega⟩
    · rw [if_neg (nI_ne9 (show j + 1 < 1000 by omega))]
      by_cases c : cpf N Y d m z j ≤ cpf N Y d m z i
      · rw [if_pos (show (nI (j + 1), cpf N Y d m z j).2 ≤ cpf N Y d m z i from c)]
        refine ⟨j, by omega, rfl, fun k hk' => ?_⟩
        by_cases q : k = i
        · subst q; rw [fa_le] at c; exact c
        · exact hk k (by omega)
      · rw [if_neg (show ¬ (nI (j + 1), cpf N Y d m z j).2 ≤ cpf N Y d m z i from c)]
        refine ⟨i, by omega, rfl, fun k hk' => ?_⟩
        rw [fa_le] at c
        by_cases q : k = i
        · subst q; omega
        · have := hk k (by omega); omega
  rcases key with ⟨q, -⟩ | ⟨j, hj, e, h⟩
  · exact absurd q (by decide)
  · exact ⟨j, hj, by rw [e], h⟩
end HFACTS
