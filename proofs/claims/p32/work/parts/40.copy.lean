/-! copies -/
def cp (z : Pg) (k : Nat) (t : Pg) : Pg := up t k (z k)
def cpl (z : Pg) : List Nat → Pg → Pg
  | [], t => t
  | k :: l, t => cpl z l (cp z k t)
theorem cp_at (z : Pg) (k : Nat) (t : Pg) (a : Nat) : cp z k t a = if a = k then z a else t a := by
  unfold cp up
  by_cases h : a = k
  · rw [if_pos h, if_pos h, h]
  · rw [if_neg h, if_neg h]
theorem cpl_keep (z : Pg) {a : Nat} : ∀ (l : List Nat) (t : Pg), t a = z a → cpl z l t a = z a
  | [], _, h => h
  | k :: l, t, h => cpl_keep z l (cp z k t) (by
    rw [cp_at]
    split
    · rfl
    · exact h)
theorem cpl_hit (z : Pg) {a : Nat} : ∀ (l : List Nat) (t : Pg), a ∈ l → cpl z l t a = z a
  | [], _, h => absurd h List.not_mem_nil
  | k :: l, t, h => by
    rcases List.mem_cons.mp h with e | e
    · exact cpl_keep z l _ (by rw [cp_at, if_pos e])
    · exact cpl_hit z l _ e
theorem cpl_out (z : Pg) {a : Nat} : ∀ (l : List Nat) (t : Pg), a ∉ l → cpl z l t a = t a
  | [], _, _ => rfl
  | k :: l, t, h => by
    have h2 : ¬ (a = k ∨ a ∈ l) := fun q => h (List.mem_cons.mpr q)
    show cpl z l (cp z k t) a = t a
    rw [cpl_out z l _ (fun q => h2 (Or.inr q)), cp_at, if_neg (fun q => h2 (Or.inl q))]
def cb7 (z : Pg) (i : Nat) (t : Pg) : Pg := cpl z [30 + 7 * i, 30 + 7 * i + 1, 30 + 7 * i + 2, 30 + 7 * i + 3, 30 + 7 * i + 4, 30 + 7 * i + 5, 30 + 7 * i + 6] t
def cpg (N Y : Nat) (z t : Pg) : Pg := cpl z [8, 9, 10, 11, 12, 6, 7] (cpl z [13, 14, 15, 16, 17] (fe (fun j u => cp z (22 + j) u) Y (cpl z [66] (fe (fun j u => cp z j u) 6 (cpl z [18, 20, 19, 21] (fe (cb7 z) N (cpl z [65] t)))))))
theorem fe_cp_keep (z : Pg) {a : Nat} (g : Nat → Nat) (n : Nat) (t : Pg) (h : t a = z a) : fe (fun j u => cp z (g j) u) n t a = z a :=
  fe_inv (I := fun (_ : Nat) (u : Pg) => u a = z a) h fun j u _ hu => by
    rw [cp_at]
    split
    · rfl
    · exact hu
theorem fe_cp_hit (z : Pg) (g : Nat → Nat) (n : Nat) (t : Pg) {j : Nat} (hj : j < n) : fe (fun j u => cp z (g j) u) n t (g j) = z (g j) := by
  have key := fe_inv (f := fun j u => cp z (g j) u) (I := fun i u => ∀ k, k < i → u (g k) = z (g k)) (t := t) (fun k hk => absurd hk (Nat.not_lt_zero k)) (n := n) (fun i u _ hu k hk => by
    rw [cp_at]
    by_cases e : g k = g i
    · rw [if_pos e]
    · rw [if_neg e]
      rcases Nat.lt_or_ge k i with q | q
      · exact hu k q
      · exact absurd (by rw [show k = i by omega]) e)
  exact key j hj
theorem fe_cb_hit (z : Pg) (n : Nat) (t : Pg) {i f : Nat} (hi : i < n) (hf : f < 7) : fe (cb7 z) n t (30 + 7 * i + f) = z (30 + 7 * i + f) := by
  have key := fe_inv (f := cb7 z) (I := fun m u => ∀ k, k < m → u (30 + 7 * k + f) = z (30 + 7 * k + f)) (t := t) (fun k hk => absurd hk (Nat.not_lt_zero k)) (n := n) (fun m u _ hu k hk => by
    unfold cb7
    rcases Nat.lt_or_ge k m with q | q
    · exact cpl_keep z _ u (hu k q)
    · have : k = m := by omega
      subst this
      refine cpl_hit z _ u ?_
      rcases (show f = 0 ∨ f = 1 ∨ f = 2 ∨ f = 3 ∨ f = 4 ∨ f = 5 ∨ f = 6 by omega) with e | e | e | e | e | e | e <;> (subst e; simp))
  exact key i hi
theorem fe_cb_keep (z : Pg) {a : Nat} (n : Nat) (t : Pg) (h : t a = z a) : fe (cb7 z) n t a = z a :=
  fe_inv (I := fun (_ : Nat) (u : Pg) => u a = z a) h fun i u _ hu => cpl_keep z _ u hu
theorem cpg_65 (N Y : Nat) (z t : Pg) : cpg N Y z t 65 = z 65 := by
  unfold cpg
  exact cpl_keep z _ _ (cpl_keep z _ _ (fe_cp_keep z _ _ _ (cpl_keep z _ _ (fe_cp_keep z (fun j => j) _ _ (cpl_keep z _ _ (fe_cb_keep z _ _ (cpl_hit z _ _ (by decide))))))))
theorem cpg_66 (N Y : Nat) (z t : Pg) : cpg N Y z t 66 = z 66 := by
  unfold cpg
  exact cpl_keep z _ _ (cpl_keep z _ _ (fe_cp_keep z _ _ _ (cpl_hit z _ _ (by decide))))
theorem cpg_a (N Y : Nat) (z t : Pg) : Agree N Y (cpg N Y z t) z := by
  unfold cpg
  refine ⟨fun k hk => ?_, fun j hj => ?_, fun i f hi hf => ?_⟩
  · rcases (show k ∈ [8, 9, 10, 11, 12, 6, 7] ∨ k ∈ [13, 14, 15, 16, 17] ∨ k < 6 ∨ k ∈ [18, 20, 19, 21] from (show ∀ k : Nat, k < 22 → k ∈ [8, 9, 10, 11, 12, 6, 7] ∨ k ∈ [13, 14, 15, 16, 17] ∨ k < 6 ∨ k ∈ [18, 20, 19, 21] by decide) k hk) with h | h | h | h
    · exact cpl_hit z _ _ h
    · exact cpl_keep z _ _ (cpl_hit z _ _ h)
    · exact cpl_keep z _ _ (cpl_keep z _ _ (fe_cp_keep z _ _ _ (cpl_keep z _ _ (fe_cp_hit z (fun j => j) 6 _ h))))
    · exact cpl_keep z _ _ (cpl_keep z _ _ (fe_cp_keep z _ _ _ (cpl_keep z _ _ (fe_cp_keep z (fun j => j) _ _ (cpl_hit z _ _ h)))))
  · exact cpl_keep z _ _ (cpl_keep z _ _ (fe_cp_hit z (fun j => 22 + j) Y _ hj))
  · exact cpl_keep z _ _ (cpl_keep z _ _ (fe_cp_keep z _ _ _ (cpl_keep z _ _ (fe_cp_keep z (fun j => j) _ _ (cpl_keep z _ _ (fe_cb_hit z N _ hi hf))))))
section COPY
variable {C : Mem} {q q0 N Y : Nat} {y : Pg}
theorem g_copyB (hq : q0 ≠ q) (i : Nat) : F_X0_copyFrom q i q0 i (sr C q y) = some (0, sr C q (cb7 (C q0) i y)) := by
  have e : ∀ t : Pg, sr C q t q0 = C q0 := fun t => sr_ne C t hq
  unfold F_X0_copyFrom
  simp only [nm_s, mu_sr, e]
  rfl
theorem g_copyFl (hq : q0 ≠ q) {f : Nat} (hf : C q0 (20 + f) = 0 ∨ C q0 (20 + f) = 1) : F_X1_copyFrom q f q0 f (sr C q y) = some (0, sr C q (cpl (C q0) [18 + f, 20 + f] y)) := by
  have e : ∀ t : Pg, sr C q t q0 = C q0 := fun t => sr_ne C t hq
  unfold F_X1_copyFrom
  simp only [nm_s, mu_sr, e]
  rw [gb_p hf]
  rfl
theorem g_copyK (hq : q0 ≠ q) (h8 : C q0 8 = 0 ∨ C q0 8 = 1) : F_X3_copyFrom q q0 (sr C q y) = some (0, sr C q (cpl (C q0) [8, 9, 10, 11, 12] y)) := by
  have e : ∀ t : Pg, sr C q t q0 = C q0 := fun t => sr_ne C t hq
  unfold F_X3_copyFrom
  simp only [nm_s, mu_sr, e]
  rw [gb_p h8]
  rfl
theorem g_copyT (hq : q0 ≠ q) (hY : C q0 66 = nI Y) (h8 : Y ≤ 8) : F_X7_copyFrom q q0 (sr C q y) = some (0, sr C q (cpl (C q0) [13, 14, 15, 16, 17] (fe (fun j u => cp (C q0) (22 + j) u) Y (cpl (C q0) [66] y)))) := by
  have e : ∀ t : Pg, sr C q t q0 = C q0 := fun t => sr_ne C t hq
  have h : iter (fun x => S_X7_copyFrom_10 q q0 x.1 x.2) fuel ((0 : Int32), sr C q (cpl (C q0) [66] y)) = some (nI Y, sr C q (fe (fun j u => cp (C q0) (22 + j) u) Y (cpl (C q0) [66] y))) :=
    iter_emb (n := Y) (t0 := cpl (C q0) [66] y) (fun i t => (nI i, sr C q t)) (fun j u => cp (C q0) (22 + j) u) (fun _ t => t 66 = nI Y) (fun t => (nI Y, sr C q t)) (by omega) ((cpl_hit _ _ _ (by decide)).trans hY) (fun i t hi ht => ⟨by
      show S_X7_copyFrom_10 q q0 (nI i) (sr C q t) = _
      unfold S_X7_copyFrom_10
      rw [sr_same, ht, if_neg (nI_ge hi (by omega)), gi_n (by omega) (by decide), gi_n (by omega) (by decide), nI_clamp (by omega), nm_s, nm_s, nI_1, mu_sr, e]
      rfl, by rw [cp_at, if_neg (by omega)]; exact ht⟩) (fun t ht => by
      show S_X7_copyFrom_10 q q0 (nI Y) (sr C q t) = _
      unfold S_X7_copyFrom_10
      rw [sr_same, ht, if_pos (nI_le (Nat.le_refl Y) (by omega))])
  unfold F_X7_copyFrom
  rw [nm_s, mu_sr, e]
  show b1 (iter _ fuel ((0 : Int32), sr C q (cpl (C q0) [66] y))) _ = _
  rw [h, b1_s, u2_s]
  simp only [nm_s, mu_sr, e]
  rfl
theorem g_copyFrom (hq : q0 ≠ q) (hN : C q0 65 = nI N) (hY : C q0 66 = nI Y) (h5 : N ≤ 5) (h8 : Y ≤ 8) (hk : C q0 8 = 0 ∨ C q0 8 = 1) (ho : C q0 20 = 0 ∨ C q0 20 = 1) (ho1 : C q0 21 = 0 ∨ C q0 21 = 1) : F_X5_copyFrom q q0 C = some (0, sr C q (cpg N Y (C q0) (C q))) := by
  have e : ∀ t : Pg, sr C q t q0 = C q0 := fun t => sr_ne C t hq
  have hA : iter (fun x => S_X5_copyFrom_10 q q0 x.1 x.2) fuel ((0 : Int32), sr C q (cpl (C q0) [65] (C q))) = some (nI N, sr C q (fe (cb7 (C q0)) N (cpl (C q0) [65] (C q)))) :=
    iter_emb (n := N) (t0 := cpl (C q0) [65] (C q)) (fun i t => (nI i, sr C q t)) (cb7 (C q0)) (fun _ t => t 65 = nI N) (fun t => (nI N, sr C q t)) (by omega) ((cpl_hit _ _ _ (by decide)).trans hN) (fun i t hi ht => ⟨by
      show S_X5_copyFrom_10 q q0 (nI i) (sr C q t) = _
      unfold S_X5_copyFrom_10
      rw [sr_same, ht, if_neg (nI_ge hi (by omega)), gi_n (by omega) (by decide), gi_n (by omega) (by decide), nI_clamp (by omega), g_copyB hq, b2_s, nm_s, nI_1], by
      unfold cb7
      rw [cpl_out]
      · exact ht
      · simp only [List.mem_cons, List.not_mem_nil, or_false]
        omega⟩) (fun t ht => by
      show S_X5_copyFrom_10 q q0 (nI N) (sr C q t) = _
      unfold S_X5_copyFrom_10
      rw [sr_same, ht, if_pos (nI_le (Nat.le_refl N) (by omega))])
  have hB : ∀ t0 : Pg, iter (fun x => S_X5_copyFrom_63 q q0 x.1 x.2) fuel ((0 : Int32), sr C q t0) = some (nI 6, sr C q (fe (fun j u => cp (C q0) j u) 6 t0)) := fun t0 =>
    iter_emb (n := 6) (t0 := t0) (fun i t => (nI i, sr C q t)) (fun j u => cp (C q0) j u) (fun _ _ => True) (fun t => (nI 6, sr C q t)) (by omega) trivial (fun i t hi _ => ⟨by
      show S_X5_copyFrom_63 q q0 (nI i) (sr C q t) = _
      unfold S_X5_copyFrom_63
      rw [if_neg (show ¬ (6 : Int32) ≤ nI i from nI_ge hi (by decide)), gi_n (by omega) (by decide), gi_n (by omega) (by decide), nI_clamp (by omega), nm_s, nm_s, nI_1, mu_sr, e]
      rfl, trivial⟩) (fun t _ => by
      show S_X5_copyFrom_63 q q0 (nI 6) (sr C q t) = _
      unfold S_X5_copyFrom_63
      rw [if_pos (by decide)])
  unfold F_X5_copyFrom
  rw [nm_s, mu_s]
  show b1 (iter _ fuel ((0 : Int32), sr C q (cpl (C q0) [65] (C q)))) _ = _
  rw [hA, b1_s, u2_s, g_copyFl hq (f := 0) ho, b2_s, g_copyFl hq (f := 1) ho1, b2_s, hB, b1_s, u2_s, g_copyT hq hY h8, b2_s, g_copyK hq hk, b2_s, nm_s, nm_s, mu_sr, mu_sr, e, e]
  rfl
end COPY
/-! the model's copies -/
def pst (g : Pg) (a b n : Nat) (t : Pg) : Pg := fe (fun i u => up u (b + i) (g (a + i))) n t
theorem pst_at (g : Pg) (a b : Nat) (t : Pg) : ∀ (n k : Nat), pst g a b n t k = if b ≤ k ∧ k < b + n then g (a + (k - b)) else t k
  | 0, k => by rw [if_neg (by omega)]; rfl
  | n + 1, k => by
    show up (pst g a b n t) (b + n) (g (a + n)) k = _
    by_cases e : k = b + n
    · subst e
      rw [up_same, if_pos (by omega), show b + n - b = n by omega]
    · rw [up_ne _ _ e, pst_at g a b t n k]
      by_cases c : b ≤ k ∧ k < b + n
      · rw [if_pos c, if_pos (by omega)]
      · rw [if_neg c, if_neg (by omega)]
/-- the diary makes room -/
def shd (n : Nat) (t : Pg) : Pg := fe (fun i u => up u i (u (i + 65))) n t
theorem shd_at (t : Pg) : ∀ (n k : Nat), shd n t k = if k < n then t (k + 65) else t k
  | 0, k => by rw [if_neg (by omega)]; rfl
  | n + 1, k => by
    show up (shd n t) n (shd n t (n + 65)) k = _
    by_cases e : k = n
    · subst e
      rw [up_same, if_pos (by omega), shd_at t k, if_neg (by omega)]
    · rw [up_ne _ _ e, shd_at t n k]
      by_cases c : k < n
      · rw [if_pos c, if_pos (by omega)]
      · rw [if_neg c, if_neg (by omega)]
