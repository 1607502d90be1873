/-! heat: unit by unit, level by level -/
theorem iter_tot {σ ρ : Type} {step : σ → Option (σ ⊕ ρ)} (I : Nat → σ → Prop) (P : ρ → Prop) (h : ∀ k x, I k x → (∃ k' x', k' < k ∧ step x = some (.inl x') ∧ I k' x') ∨ ∃ r, step x = some (.inr r) ∧ P r) : ∀ (n k : Nat) (x : σ), I k x → k < n → ∃ r, iter step n x = some r ∧ P r
  | 0, k, x, _, hk => absurd hk (Nat.not_lt_zero k)
  | n + 1, k, x, hI, hk => by
    rcases h k x hI with ⟨k', x', hk', hs, hI'⟩ | ⟨r, hs, hP⟩
    · obtain ⟨r, h1, h2⟩ := iter_tot I P h n k' x' hI' (by omega)
      exact ⟨r, by rw [iter_s step hs, h1], h2⟩
    · exact ⟨r, iter_e step hs n, hP⟩
theorem inc_ne (y : Pg) {k j : Nat} (v : Int32) (h : j ≠ k) : inc y k v j = y j := up_ne y _ h
theorem inc_same (y : Pg) (k : Nat) (v : Int32) : inc y k v k = y k + v := up_same y k _
theorem inc_inc (y : Pg) (k : Nat) (v w : Int32) : inc (inc y k v) k w = inc y k (v + w) := by
  unfold inc
  rw [up_same, up_up, Int32.add_assoc]
theorem inc_comm (y : Pg) {k j : Nat} (v w : Int32) (h : k ≠ j) : inc (inc y k v) j w = inc (inc y j w) k v := by
  unfold inc
  rw [up_ne y _ (Ne.symm h), up_ne y _ h, up_comm y _ _ h]
theorem inc_z (y : Pg) (k : Nat) : inc y k 0 = y := inc_0 y k
def lof (t : Pg) (i l : Nat) : Nat := if t (22 + (i + 1)) < t (22 + l) then i + 1 else l
def lo (Y : Nat) (t : Pg) : Nat := fe (lof t) (Y - 1) 0
def ht1 (Y : Nat) (t : Pg) : Pg := if t (22 + lo Y t) = 99 then inc (inc t 16 1) 13 1 else inc (inc t (22 + lo Y t) 1) 13 1
def htn (Y n : Nat) (t : Pg) : Pg := fe (fun _ => ht1 Y) n t
theorem lof_le {t : Pg} {i l : Nat} (h : l ≤ i) : lof t i l ≤ i + 1 := by
  unfold lof
  split <;> omega
theorem lo_spec (Y : Nat) (h : 1 ≤ Y) (t : Pg) : lo Y t < Y ∧ (∀ j, j < Y → (t (22 + lo Y t)).toInt ≤ (t (22 + j)).toInt) ∧ ∀ j, j < lo Y t → (t (22 + lo Y t)).toInt < (t (22 + j)).toInt := by
  have key := fe_inv (f := lof t) (I := fun i l => l ≤ i ∧ (∀ j, j ≤ i → (t (22 + l)).toInt ≤ (t (22 + j)).toInt) ∧ ∀ j, j < l → (t (22 + l)).toInt < (t (22 + j)).toInt) (t := 0) ⟨Nat.le_refl 0, fun j hj => by
      have : j = 0 := by omega
      subst this
      exact Int.le_refl _, fun j hj => absurd hj (Nat.not_lt_zero j)⟩ (n := Y - 1) (fun i l hi hl => by
    obtain ⟨h1, h2, h3⟩ := hl
    refine ⟨lof_le h1, ?_⟩
    unfold lof
    by_cases hc : t (22 + (i + 1)) < t (22 + l)
    · rw [if_pos hc]
      rw [fa_lt] at hc
      refine ⟨fun j hj => ?_, fun j hj => ?_⟩
      · rcases Nat.lt_or_ge j (i + 1) with q | q
        · have := h2 j (by omega)
          omega
        · have : j = i + 1 := by omega
          subst this
          exact Int.le_refl _
      · have := h2 j (by omega)
        omega
    · rw [if_neg hc]
      rw [fa_lt] at hc
      refine ⟨fun j hj => ?_, h3⟩
      rcases Nat.lt_or_ge j (i + 1) with q | q
      · exact h2 j (by omega)
      · have : j = i + 1 := by omega
        subst this
        omega)
  obtain ⟨h1, h2, h3⟩ := key
  exact ⟨by unfold lo; omega, fun j hj => h2 j (by omega), h3⟩
theorem lo_eq {Y : Nat} (h : 1 ≤ Y) {t : Pg} {k : Nat} (hk : k < Y) (h1 : ∀ j, j < Y → (t (22 + k)).toInt ≤ (t (22 + j)).toInt) (h2 : ∀ j, j < k → (t (22 + k)).toInt < (t (22 + j)).toInt) : lo Y t = k := by
  obtain ⟨g0, g1, g2⟩ := lo_spec Y h t
  rcases Nat.lt_trichotomy (lo Y t) k with q | q | q
  · have a := h2 _ q
    have b := g1 k hk
    omega
  · exact q
  · have a := g2 _ q
    have b := h1 _ g0
    omega
theorem lo_cong {Y : Nat} {t u : Pg} (h1 : 1 ≤ Y) (h : ∀ j, j < Y → t (22 + j) = u (22 + j)) : lo Y t = lo Y u := by
  obtain ⟨g0, g1, g2⟩ := lo_spec Y h1 u
  refine lo_eq h1 g0 (fun j hj => ?_) (fun j hj => ?_)
  · rw [h _ g0, h j hj]; exact g1 j hj
  · rw [h _ g0, h j (by omega)]; exact g2 j hj
theorem htn_s (Y n : Nat) (t : Pg) : htn Y (n + 1) t = ht1 Y (htn Y n t) := rfl
theorem htn_add (Y s : Nat) (t : Pg) : ∀ n : Nat, htn Y (s + n) t = htn Y n (htn Y s t)
  | 0 => rfl
  | n + 1 => by
    show ht1 Y (htn Y (s + n) t) = ht1 Y (htn Y n (htn Y s t))
    rw [htn_add Y s t n]
theorem ht1_full {Y : Nat} (h1 : 1 ≤ Y) {t : Pg} (h : ∀ j, j < Y → t (22 + j) = 99) : ht1 Y t = inc (inc t 16 1) 13 1 := by
  unfold ht1
  rw [if_pos (h _ (lo_spec Y h1 t).1)]
theorem htn_full {Y : Nat} (h1 : 1 ≤ Y) (h8 : Y ≤ 8) {t : Pg} (h : ∀ j, j < Y → t (22 + j) = 99) : ∀ n : Nat, htn Y n t = inc (inc t 16 (nI n)) 13 (nI n)
  | 0 => by
    show t = inc (inc t 16 (nI 0)) 13 (nI 0)
    rw [nI_0, inc_z, inc_z]
  | n + 1 => by
    rw [htn_s, htn_full h1 h8 h n, ht1_full h1 (fun j hj => by rw [inc_ne _ _ (by omega), inc_ne _ _ (by omega)]; exact h j hj), inc_comm _ _ _ (show 13 ≠ 16 by decide), inc_inc, inc_inc, nI_1]
def cdf (y : Pg) (i : Nat) (v : Int32) : Int32 := if y (22 + i) < v then y (22 + i) else v
def cd (Y : Nat) (y : Pg) : Int32 := fe (cdf y) Y 99
theorem cd_spec (Y : Nat) (y : Pg) : (cd Y y).toInt ≤ 99 ∧ (∀ j, j < Y → (cd Y y).toInt ≤ (y (22 + j)).toInt) ∧ ((cd Y y).toInt = 99 ∨ ∃ j, j < Y ∧ cd Y y = y (22 + j)) :=
  fe_inv (f := cdf y) (I := fun i v => v.toInt ≤ 99 ∧ (∀ j, j < i → v.toInt ≤ (y (22 + j)).toInt) ∧ (v.toInt = 99 ∨ ∃ j, j < i ∧ v = y (22 + j))) (t := 99) ⟨by decide, fun j hj => absurd hj (Nat.not_lt_zero j), Or.inl (by decide)⟩ (fun i v hi hv => by
    obtain ⟨h1, h2, h3⟩ := hv
    unfold cdf
    by_cases hc : y (22 + i) < v
    · rw [if_pos hc]
      rw [fa_lt] at hc
      refine ⟨by omega, fun j hj => ?_, Or.inr ⟨i, by omega, rfl⟩⟩
      rcases Nat.lt_or_ge j i with q | q
      · have := h2 j q
        omega
      · have : j = i := by omega
        subst this
        exact Int.le_refl _
    · rw [if_neg hc]
      rw [fa_lt] at hc
      refine ⟨h1, fun j hj => ?_, ?_⟩
      · rcases Nat.lt_or_ge j i with q | q
        · exact h2 j q
        · have : j = i := by omega
          subst this
          omega
      · rcases h3 with q | ⟨j, q, e⟩
        · exact Or.inl q
        · exact Or.inr ⟨j, by omega, e⟩)
/-- temperatures within bounds -/
def Tm (Y : Nat) (y : Pg) : Prop := ∀ j, j < Y → 0 ≤ (y (22 + j)).toInt ∧ (y (22 + j)).toInt ≤ 99
theorem e99 : (99 : Int32).toInt = 99 := rfl
section WARM
variable {C : Mem} {q r N Y : Nat} {y : Pg}
theorem g_coldest (hY : y 66 = nI Y) (h8 : Y ≤ 8) (q : Nat) : F_X7_coldest q (sr C q y) = some (cd Y y, sr C q y) := by
  have h : iter (fun w => S_X7_coldest_5 q w.1 w.2.1 w.2.2) fuel ((99 : Int32), (0 : Int32), sr C q y) = some (cd Y y, nI Y, sr C q y) :=
    iter_emb (n := Y) (t0 := 99) (fun i v => (v, nI i, sr C q y)) (cdf y) (fun _ _ => True) (fun v => (v, nI Y, sr C q y)) (by omega) trivial (fun i v hi _ => ⟨by
      show S_X7_coldest_5 q v (nI i) (sr C q y) = _
      unfold S_X7_coldest_5 cdf
      rw [sr_same, hY, if_neg (nI_ge hi (by omega)), gi_n (by omega) (by decide), nI_clamp (by omega), nm_s, nm_s, nI_1], trivial⟩) (fun v _ => by
      show S_X7_coldest_5 q v (nI Y) (sr C q y) = _
      unfold S_X7_coldest_5
      rw [sr_same, hY, if_pos (nI_le (Nat.le_refl Y) (by omega))])
  unfold F_X7_coldest
  rw [h, b1_s, u3_s]
/-- what holds in the midst of the warming: s units are given, all layers at least at the level -/
def Wm (C : Mem) (q Y u : Nat) (y : Pg) (l s : Nat) (t : Pg) (C2 : Mem) : Prop := C2 = sr C q t ∧ s ≤ u ∧ htn Y s y = inc t 13 (nI s) ∧ t 66 = nI Y ∧ ∀ i, i < Y → (l : Int) ≤ (t (22 + i)).toInt ∧ (t (22 + i)).toInt ≤ 99
theorem g_warmIn (h1 : 1 ≤ Y) (h8 : Y ≤ 8) (q : Nat) {u l : Nat} (hu : u < 1000) (hl : l < 99) {s : Nat} {t : Pg} {C2 : Mem} (hW : Wm C q Y u y l s t C2) : ∃ r : Int32 × Int32 × Mem, iter (fun w => S_X7_warm_20 q (nI l) w.1 w.2.1 w.2.2) fuel (nI (u - s), (0 : Int32), C2) = some r ∧ ∃ s' t', r.1 = nI (u - s') ∧ Wm C q Y u y l s' t' r.2.2 ∧ (s' = u ∨ Wm C q Y u y (l + 1) s' t' r.2.2) := by
  refine iter_tot (step := fun w => S_X7_warm_20 q (nI l) w.1 w.2.1 w.2.2) (fun k (x : Int32 × Int32 × Mem) => ∃ s' t' j, k = Y - j ∧ j ≤ Y ∧ x = (nI (u - s'), nI j, sr C q t') ∧ Wm C q Y u y l s' t' (sr C q t') ∧ ∀ i, i < j → (l : Int) + 1 ≤ (t' (22 + i)).toInt) (fun (r : Int32 × Int32 × Mem) => ∃ s' t', r.1 = nI (u - s') ∧ Wm C q Y u y l s' t' r.2.2 ∧ (s' = u ∨ Wm C q Y u y (l + 1) s' t' r.2.2)) ?_ fuel Y _ ⟨s, t, 0, rfl, Nat.zero_le Y, by rw [hW.1, nI_0], by rw [← hW.1]; exact hW, fun i hi => absurd hi (Nat.not_lt_zero i)⟩ (by unfold fuel; omega)
  rintro k x ⟨s', t', j, hk, hj, rfl, ⟨hC2, hs', hH, h66, hT⟩, hlow⟩
  show (∃ k' x', k' < k ∧ S_X7_warm_20 q (nI l) (nI (u - s')) (nI j) (sr C q t') = _ ∧ _) ∨ ∃ r, S_X7_warm_20 q (nI l) (nI (u - s')) (nI j) (sr C q t') = _ ∧ _
  unfold S_X7_warm_20
  rw [sr_same, h66]
  rcases Nat.lt_or_ge j Y with hjY | hjY
  · rw [if_neg (nI_ge hjY (by omega))]
    rcases Nat.eq_zero_or_pos (u - s') with hz | hz
    · rw [hz, if_pos (by decide)]
      exact Or.inr ⟨_, rfl, s', t', by rw [hz], ⟨rfl, hs', hH, h66, hT⟩, Or.inl (by omega)⟩
    · rw [if_neg (nI_nle hz (by omega)), gi_n (by omega) (by decide), nI_clamp (by omega)]
      left
      have htl : (nI l).toInt = l := ti l (by omega)
      by_cases hc : t' (22 + j) = nI l
      · have hlo : lo Y t' = j := lo_eq h1 hjY (fun i hi => by rw [hc, htl]; exact (hT i hi).1) (fun i hi => by rw [hc, htl]; have := hlow i hi; omega)
        have hl1 : (t' (22 + j) + 1).toInt = l + 1 := by rw [hc, nI_1, ti _ (by omega)]; rfl
        refine ⟨Y - (j + 1), (nI (u - (s' + 1)), nI (j + 1), sr C q (inc t' (22 + j) 1)), by omega, ?_, s' + 1, inc t' (22 + j) 1, j + 1, rfl, hjY, rfl, ⟨rfl, by omega, ?_, ?_, ?_⟩, ?_⟩
        · rw [if_pos hc, gi_n (by omega) (by decide), gi_n (by omega) (by decide), nm_s, nm_s, nm_s, nI_1, mu_sr, m1 hz, show u - s' - 1 = u - (s' + 1) by omega]
          rfl
        · rw [htn_s, hH]
          unfold ht1
          rw [lo_cong h1 (u := t') (fun i hi => inc_ne _ _ (by omega)), hlo, inc_ne _ _ (by omega), if_neg (by rw [hc]; intro e; have := congrArg Int32.toInt e; rw [htl, e99] at this; omega), inc_comm _ _ _ (show 13 ≠ 22 + j by omega), inc_inc, nI_1]
        · rw [inc_ne _ _ (by omega)]; exact h66
        · intro i hi
          by_cases e : i = j
          · subst e
            rw [inc_same, hl1]
            omega
          · rw [inc_ne _ _ (by omega)]
            exact hT i hi
        · intro i hi
          by_cases e : i = j
          · subst e
            rw [inc_same, hl1]
            omega
          · rw [inc_ne _ _ (by omega)]
            exact hlow i (by omega)
      · refine ⟨Y - (j + 1), (nI (u - s'), nI (j + 1), sr C q t'), by omega, ?_, s', t', j + 1, rfl, hjY, rfl, ⟨rfl, hs', hH, h66, hT⟩, ?_⟩
        · rw [if_neg hc, nm_s, nI_1]
        · intro i hi
          by_cases e : i = j
          · subst e
            have a := (hT i hjY).1
            have b : (t' (22 + i)).toInt ≠ l := fun e => hc (i_eq (by rw [e, htl]))
            omega
          · exact hlow i (by omega)
  · have : j = Y := by omega
    subst this
    rw [if_pos (nI_le (Nat.le_refl j) (by omega))]
    refine Or.inr ⟨_, rfl, s', t', rfl, ⟨rfl, hs', hH, h66, hT⟩, Or.inr ⟨rfl, hs', hH, h66, fun i hi => ⟨?_, (hT i hi).2⟩⟩⟩
    have := hlow i hi
    omega
theorem g_warm (hY : y 66 = nI Y) (h1 : 1 ≤ Y) (h8 : Y ≤ 8) (hT : Tm Y y) (q : Nat) {u : Nat} (hu : u < 1000) : F_X7_warm q (nI u) (sr C q y) = some (0, sr C q (htn Y u y)) := by
  obtain ⟨c1, c2, c3⟩ := cd_spec Y y
  have c0 : 0 ≤ (cd Y y).toInt := by
    rcases c3 with e | ⟨j, hj, e⟩
    · omega
    · rw [e]; exact (hT j hj).1
  obtain ⟨l, hl, el⟩ : ∃ l : Nat, l ≤ 99 ∧ cd Y y = nI l := ⟨(cd Y y).toInt.toNat, by omega, i_eq (by rw [ti _ (by omega)]; omega)⟩
  have hlT : ∀ i, i < Y → (l : Int) ≤ (y (22 + i)).toInt := fun i hi => by
    have := c2 i hi
    rw [el, ti l (by omega)] at this
    exact this
  obtain ⟨r, hr, s, t, e1, hW, hfin⟩ := iter_tot (step := fun w => S_X7_warm_7 q w.1 w.2.1 w.2.2) (fun k x => ∃ s t l, k = 99 - l ∧ l ≤ 99 ∧ x = (nI (u - s), nI l, sr C q t) ∧ Wm C q Y u y 0 s t (sr C q t) ∧ (s = u ∨ Wm C q Y u y l s t (sr C q t))) (fun r => ∃ s t, r.1 = nI (u - s) ∧ Wm C q Y u y 0 s t r.2.2 ∧ (s = u ∨ ∀ i, i < Y → t (22 + i) = 99)) (by
    rintro k x ⟨s, t, l, hk, hl, rfl, hW0, hW⟩
    have hs := hW0.2.1
    show (∃ k' x', k' < k ∧ S_X7_warm_7 q (nI (u - s)) (nI l) (sr C q t) = _ ∧ _) ∨ ∃ r, S_X7_warm_7 q (nI (u - s)) (nI l) (sr C q t) = _ ∧ _
    unfold S_X7_warm_7
    rcases Nat.lt_or_ge l 99 with hl9 | hl9
    · rw [if_neg (show ¬ (99 : Int32) ≤ nI l from nI_ge (b := 99) hl9 (by decide))]
      rcases Nat.eq_zero_or_pos (u - s) with hz | hz
      · rw [hz, if_pos (by decide)]
        exact Or.inr ⟨_, rfl, s, t, by rw [hz], hW0, Or.inl (by omega)⟩
      · rw [if_neg (nI_nle hz (by omega))]
        have hW1 : Wm C q Y u y l s t (sr C q t) := by
          rcases hW with e | e
          · omega
          · exact e
        obtain ⟨⟨r1, r2, r3⟩, hr, s', t', e1, hWa, hWb⟩ := g_warmIn h1 h8 q hu hl9 hW1
        have e1' : r1 = nI (u - s') := e1
        have hC3 : r3 = sr C q t' := hWa.1
        subst e1' hC3
        rw [hr, b1_s, u3_s, nm_s, nI_1]
        exact Or.inl ⟨99 - (l + 1), _, by omega, rfl, s', t', l + 1, rfl, by omega, rfl, ⟨rfl, hWa.2.1, hWa.2.2.1, hWa.2.2.2.1, fun i hi => ⟨by have := (hWa.2.2.2.2 i hi).1; omega, (hWa.2.2.2.2 i hi).2⟩⟩, hWb⟩
    · have : l = 99 := by omega
      subst this
      rw [if_pos (by decide)]
      refine Or.inr ⟨_, rfl, s, t, rfl, hW0, ?_⟩
      rcases hW with e | e
      · exact Or.inl e
      · refine Or.inr fun i hi => i_eq ?_
        have := e.2.2.2.2 i hi
        rw [e99]
        omega) fuel (99 - l) (nI u, cd Y y, sr C q y) ⟨0, y, l, rfl, hl, by rw [el]; rfl, ⟨rfl, Nat.zero_le u, by rw [nI_0, inc_z]; rfl, hY, hT⟩, Or.inr ⟨rfl, Nat.zero_le u, by rw [nI_0, inc_z]; rfl, hY, fun i hi => ⟨hlT i hi, (hT i hi).2⟩⟩⟩ (by unfold fuel; omega)
  obtain ⟨hC2, hs, hH, h66, -⟩ := hW
  obtain ⟨r1, r2, r3⟩ := r
  have e1' : r1 = nI (u - s) := e1
  have hC3 : r3 = sr C q t := hC2
  subst e1' hC3
  unfold F_X7_warm
  rw [g_coldest hY h8, b2_s, hr, b1_s, u3_s, nm_s, nm_s, mu_sr, sr_same, mu_sr, sr_same]
  have hfinal : htn Y u y = inc (inc t 13 (nI u)) 16 (nI (u - s)) := by
    rcases hfin with e | e
    · subst e
      rw [Nat.sub_self, nI_0, inc_z, hH]
    · have hu' : u = s + (u - s) := by omega
      rw [congrArg (fun n => htn Y n y) hu', htn_add, hH, htn_full h1 h8 (fun j hj => by rw [inc_ne _ _ (by omega)]; exact e j hj), inc_comm _ _ _ (show 13 ≠ 16 by decide), inc_inc, nI_add, inc_comm _ _ _ (show 16 ≠ 13 by decide)]
      show inc (inc t 13 (nI (s + (u - s)))) 16 (nI (u - s)) = _
      rw [← hu']
  rw [hfinal]
  rfl
end WARM

