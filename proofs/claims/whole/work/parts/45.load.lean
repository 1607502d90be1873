/-! a text's cascade: loaded by both -/
theorem f_inL {b c : Int32} {B D : Int64} (hb : b.toInt64 = B) (hc : c.toInt64 = D) (a : Int32) (C : Mem) : F_X9_in a.toInt64 B D C = some ((if b ≤ a ∧ a ≤ c then 1 else 0), C) := by
  rw [← hb, ← hc]
  exact f_in a b c C
def bgv (k : Nat) : Int32 := if k = 0 then 60 else if k = 1 then 3 else if k = 2 then 2 else if k = 3 then 70 else if k = 4 then 2 else if k = 5 then 2 else if k = 20 then 1 else if k = 21 then 1 else if 22 ≤ k ∧ k ≤ 29 then 40 else 0
theorem g_begin (C : Mem) {r : Nat} (ha : alen r = 65) : ∃ y : Pg, F_X9_begin r C = some (0, sr C r y) ∧ ∀ k, k < 65 → y k = bgv k := by
  have h : iter (fun z => S_X9_begin_2 r z.1 z.2) fuel ((0 : Int32), C) = some (nI 65, sr C r (fe (fun i u => up u i (if 22 ≤ i ∧ i ≤ 29 then 40 else 0)) 65 (C r))) := by
    have g := iter_emb (step := fun z => S_X9_begin_2 r z.1 z.2) (n := 65) (t0 := C r) (fun i t => (nI i, sr C r t)) (fun i u => up u i (if 22 ≤ i ∧ i ≤ 29 then 40 else 0)) (fun _ _ => True) (fun t => (nI 65, sr C r t)) (by omega) trivial (fun i t hi _ => ⟨by
      show S_X9_begin_2 r (nI i) (sr C r t) = _
      unfold S_X9_begin_2
      rw [if_neg (show ¬ (65 : Int32) ≤ nI i from nI_ge hi (by decide)), f_inL (b := 22) (c := 29) (by decide) (by decide), b2_s]
      by_cases c : 22 ≤ i ∧ i ≤ 29
      · rw [if_pos (show (22 : Int32) ≤ nI i ∧ nI i ≤ (29 : Int32) from ⟨nI_le c.1 (by omega), nI_le c.2 (by decide)⟩), if_neg (by decide), if_pos c, ha, gi_n hi (by decide), nI_clamp (by omega), nm_s, nm_s, nI_1, mu_sr]
      · rw [if_neg (show ¬ ((22 : Int32) ≤ nI i ∧ nI i ≤ (29 : Int32)) from fun q => c ⟨(nI_leI (by decide) (by omega)).mp q.1, (nI_leI (by omega) (by decide)).mp q.2⟩), if_pos rfl, if_neg c, ha, gi_n hi (by decide), nI_clamp (by omega), nm_s, nm_s, nI_1, mu_sr], trivial⟩) (fun t _ => by
      show S_X9_begin_2 r (nI 65) (sr C r t) = _
      unfold S_X9_begin_2
      rw [if_pos (by decide)])
    rw [sr_self] at g
    exact g
  have hat : ∀ k, k < 65 → fe (fun i u => up u i (if 22 ≤ i ∧ i ≤ 29 then (40 : Int32) else 0)) 65 (C r) k = if 22 ≤ k ∧ k ≤ 29 then 40 else 0 := by
    have key : ∀ (t : Pg) (n k : Nat), k < n → fe (fun i u => up u i (if 22 ≤ i ∧ i ≤ 29 then (40 : Int32) else 0)) n t k = if 22 ≤ k ∧ k ≤ 29 then 40 else 0 := fun t n => by
      induction n with
      | zero => intro k h; exact absurd h (Nat.not_lt_zero k)
      | succ n ih =>
        intro k h
        show up _ n _ k = _
        by_cases q : k = n
        · subst q; rw [up_same]
        · rw [up_ne _ _ q]; exact ih k (by omega)
    exact key (C r) 65
  refine ⟨_, by
    unfold F_X9_begin
    rw [h, b1_s, u2_s, ha, gl_0, nm_s, cl_0, gl_1, nm_s, cl_1, gl_2, nm_s, cl_2, gl_3, nm_s, cl_3, gl_4, nm_s, cl_4, gl_5, nm_s, cl_5, gl_20, nm_s, cl_20, gl_21, nm_s, cl_21, mu_sr, mu_sr, mu_sr, mu_sr, mu_sr, mu_sr, mu_sr, mu_sr], fun k hk => ?_⟩
  have e := hat k hk
  generalize fe (fun i u => up u i (if 22 ≤ i ∧ i ≤ 29 then (40 : Int32) else 0)) 65 (C r) = t at e ⊢
  unfold bgv up
  by_cases k21 : k = 21
  · rw [if_pos k21]; subst k21; rfl
  rw [if_neg k21]
  by_cases k20 : k = 20
  · rw [if_pos k20]; subst k20; rfl
  rw [if_neg k20]
  by_cases k5 : k = 5
  · rw [if_pos k5]; subst k5; rfl
  rw [if_neg k5]
  by_cases k4 : k = 4
  · rw [if_pos k4]; subst k4; rfl
  rw [if_neg k4]
  by_cases k3 : k = 3
  · rw [if_pos k3]; subst k3; rfl
  rw [if_neg k3]
  by_cases k2 : k = 2
  · rw [if_pos k2]; subst k2; rfl
  rw [if_neg k2]
  by_cases k1 : k = 1
  · rw [if_pos k1]; subst k1; rfl
  rw [if_neg k1]
  by_cases k0 : k = 0
  · rw [if_pos k0]; subst k0; rfl
  rw [if_neg k0, if_neg k0, if_neg k1, if_neg k2, if_neg k3, if_neg k4, if_neg k5, if_neg k20, if_neg k21]
  exact e
/-- the page that a text tells -/
def bpg (c : TC) : Pg := fun k => if k = 18 then nI c.1.1.1.2 else if k = 19 then nI c.1.1.2 else if k < 22 then bgv k else if k < 30 then nI (c.2 (k - 22)) else if k < 65 then (if (k - 30) % 7 = 0 then nI (c.1.2.2 ((k - 30) / 7)).1 else if (k - 30) % 7 = 1 then nI (c.1.2.2 ((k - 30) / 7)).2 else 0) else if k = 65 then nI c.1.2.1 else if k = 66 then nI c.1.1.1.1 else 0
theorem bpg_n (c : TC) {k : Nat} (h : k < 22) (h1 : k ≠ 18) (h2 : k ≠ 19) : bpg c k = bgv k := by
  unfold bpg
  rw [if_neg h1, if_neg h2, if_pos h]
theorem bpg_t (c : TC) {j : Nat} (h : j < 8) : bpg c (22 + j) = nI (c.2 j) := by
  unfold bpg
  rw [if_neg (by omega), if_neg (by omega), if_neg (by omega), if_pos (by omega), show 22 + j - 22 = j by omega]
theorem bpg_b (c : TC) {i f : Nat} (hi : i < 5) (hf : f < 7) : bpg c (30 + 7 * i + f) = if f = 0 then nI (c.1.2.2 i).1 else if f = 1 then nI (c.1.2.2 i).2 else 0 := by
  have e1 : (30 + 7 * i + f - 30) % 7 = f := by omega
  have e2 : (30 + 7 * i + f - 30) / 7 = i := by omega
  unfold bpg
  rw [if_neg (by omega), if_neg (by omega), if_neg (by omega), if_neg (by omega), if_pos (by omega), e1, e2]
/-- a text's contents within bounds -/
def Ok (c : TC) : Prop := ((((2 ≤ c.1.1.1.1 ∧ c.1.1.1.1 ≤ 8) ∧ c.1.1.1.2 ≤ 99) ∧ c.1.1.2 ≤ 99) ∧ 1 ≤ c.1.2.1 ∧ c.1.2.1 ≤ 5 ∧ ∀ j, j < c.1.2.1 → (c.1.2.2 j).1 ≤ 30 ∧ (c.1.2.2 j).2 ≤ 1) ∧ ∀ a, a < c.1.1.1.1 → c.2 a ≤ 99
theorem rd_ok {x : Pg} {T : Nat} {c : TC} (h : rd x T = .inr c) : Ok c := by
  unfold rd at h
  cases h7 : r7 x T with
  | inl e => rw [h7] at h; cases h
  | inr o =>
    obtain ⟨o1, o2⟩ := o
    rw [h7] at h
    have g := r7_v h7
    by_cases q : o2 < T
    · simp only [if_pos q] at h; cases h
    · simp only [if_neg q] at h
      cases h
      exact ⟨g.1, g.2.2⟩
theorem bpg_wf {c : TC} (h : Ok c) (K : Nat) : WF c.1.2.1 c.1.1.1.1 K (bpg c) := by
  obtain ⟨⟨h4, hn1, hn5, hb⟩, ht⟩ := h
  refine ⟨fun j hj => ?_, ?_, ?_, ?_, ?_, ?_, fun i hi => ?_⟩
  · have := ht j hj
    rw [bpg_t c (by omega), ti _ (by omega)]
    omega
  · exact Or.inl rfl
  · show 0 ≤ (0 : Int32).toInt ∧ (0 : Int32).toInt < 12
    decide
  · show 1 ≤ (2 : Int32).toInt ∧ (2 : Int32).toInt ≤ 5
    decide
  · exact Or.inr rfl
  · exact Or.inr rfl
  · have hv := hb i hi
    have e : ∀ f, f < 7 → bpg c (30 + 7 * i + f) = if f = 0 then nI (c.1.2.2 i).1 else if f = 1 then nI (c.1.2.2 i).2 else 0 := fun f hf => bpg_b c (by omega) hf
    have e0 : bpg c (30 + 7 * i) = nI (c.1.2.2 i).1 := e 0 (by decide)
    have e1 : bpg c (30 + 7 * i + 1) = nI (c.1.2.2 i).2 := by rw [e 1 (by decide), if_neg (by decide), if_pos rfl]
    have z : ∀ f, 2 ≤ f → f < 7 → bpg c (30 + 7 * i + f) = 0 := fun f a b => by rw [e f b, if_neg (by omega), if_neg (by omega)]
    have t0 : (0 : Int32).toInt = 0 := rfl
    unfold Bo
    rw [e0, e1, z 2 (by decide) (by decide), z 3 (by decide) (by decide), z 4 (by decide) (by decide), z 6 (by decide) (by decide), ti _ (by omega), t0]
    refine ⟨by omega, ?_, Or.inl rfl, fun q => absurd q (by decide), fun _ => rfl, by omega, by omega⟩
    rcases (show (c.1.2.2 i).2 = 0 ∨ (c.1.2.2 i).2 = 1 by omega) with q | q
    · rw [q]; exact Or.inl rfl
    · rw [q]; exact Or.inr rfl
theorem cpl_perm (z : Pg) {l l' : List Nat} (h : ∀ a, a ∈ l ↔ a ∈ l') (t : Pg) : cpl z l t = cpl z l' t := by
  funext a
  by_cases q : a ∈ l
  · rw [cpl_hit z l t q, cpl_hit z l' t ((h a).mp q)]
  · rw [cpl_out z l t q, cpl_out z l' t (fun r => q ((h a).mpr r))]
section LOAD
variable {C : Mem}
theorem g_beginB (g : Pg) {i : Nat} {x0 x1 : Int32} (h0 : g (30 + 7 * i) = x0) (h1 : g (30 + 7 * i + 1) = x1) (hz : ∀ f, 2 ≤ f → f < 7 → g (30 + 7 * i + f) = 0) (q : Nat) (t : Pg) : F_X0_beginAs q i x0 x1 (sr C q t) = some (0, sr C q (cb7 g i t)) := by
  unfold F_X0_beginAs cb7
  simp only [nm_s, mu_sr]
  rw [← h0, ← h1]
  have e : ∀ f, 2 ≤ f → f < 7 → (0 : Int32) = g (30 + 7 * i + f) := fun f a b => (hz f a b).symm
  show some (0, sr C q (up (up (up (up (up (up (up t (30 + 7 * i) (g (30 + 7 * i))) (30 + 7 * i + 1) (g (30 + 7 * i + 1))) (30 + 7 * i + 2) 0) (30 + 7 * i + 3) 0) (30 + 7 * i + 4) 0) (30 + 7 * i + 5) 0) (30 + 7 * i + 6) 0)) = some (0, sr C q (up (up (up (up (up (up (up t (30 + 7 * i) (g (30 + 7 * i))) (30 + 7 * i + 1) (g (30 + 7 * i + 1))) (30 + 7 * i + 2) (g (30 + 7 * i + 2))) (30 + 7 * i + 3) (g (30 + 7 * i + 3))) (30 + 7 * i + 4) (g (30 + 7 * i + 4))) (30 + 7 * i + 5) (g (30 + 7 * i + 5))) (30 + 7 * i + 6) (g (30 + 7 * i + 6))))
  rw [hz 2 (by decide) (by decide), hz 3 (by decide) (by decide), hz 4 (by decide) (by decide), hz 5 (by decide) (by decide), hz 6 (by decide) (by decide)]
theorem kf_at : ∀ k : Nat, k < 6 → kFirst k = bgv k := by decide +kernel
theorem g_beginAs {c : TC} (hk : Ok c) (hA : A7 c C) : F_X5_beginAs 0 C = some (0, sr C 0 (cpg c.1.2.1 c.1.1.1.1 (bpg c) (C 0))) := by
  obtain ⟨⟨⟨⟨a2, a3⟩, a4⟩, a5, ab⟩, at7⟩ := hA
  obtain ⟨⟨h4, hn1, hn5, hb⟩, ht⟩ := hk
  have a2' : C 18 2 = nI c.1.1.1.1 := a2
  have e : ∀ (t : Pg) (r : Nat), r ≠ 0 → sr C 0 t r = C r := fun t r h => sr_ne C t h
  have g65 : bpg c 65 = nI c.1.2.1 := rfl
  have g66 : bpg c 66 = nI c.1.1.1.1 := rfl
  have hA : iter (fun z => S_X5_beginAs_18 0 z.1 z.2) fuel ((0 : Int32), sr C 0 (cpl (bpg c) [65] (C 0))) = some (nI c.1.2.1, sr C 0 (fe (cb7 (bpg c)) c.1.2.1 (cpl (bpg c) [65] (C 0)))) :=
    iter_emb (n := c.1.2.1) (t0 := cpl (bpg c) [65] (C 0)) (fun i t => (nI i, sr C 0 t)) (cb7 (bpg c)) (fun _ t => t 65 = nI c.1.2.1) (fun t => (nI c.1.2.1, sr C 0 t)) (by omega) (cpl_hit _ _ _ (by decide)) (fun i t hi ht => ⟨by
      show S_X5_beginAs_18 0 (nI i) (sr C 0 t) = _
      unfold S_X5_beginAs_18
      rw [sr_same, ht, if_neg (nI_ge hi (by omega)), gi_n (by omega) (by decide), gi_n (by omega) (by decide), gi_n (by omega) (by decide), nI_clamp (by omega), e t 20 (by decide), e t 21 (by decide), g_beginB (bpg c) (by rw [(ab i hi).1]; exact bpg_b c (i := i) (f := 0) (by omega) (by decide)) (by rw [(ab i hi).2]; exact bpg_b c (i := i) (f := 1) (by omega) (by decide)) (fun f f2 f7 => by rw [bpg_b c (by omega) f7, if_neg (by omega), if_neg (by omega)]), b2_s, nm_s, nI_1], by
      unfold cb7
      rw [cpl_out]
      · exact ht
      · simp only [List.mem_cons, List.not_mem_nil, or_false]
        omega⟩) (fun t ht => by
      show S_X5_beginAs_18 0 (nI c.1.2.1) (sr C 0 t) = _
      unfold S_X5_beginAs_18
      rw [sr_same, ht, if_pos (nI_le (Nat.le_refl _) (by omega))])
  have hB : ∀ t0 : Pg, iter (fun z => S_X5_beginAs_77 0 z.1 z.2) fuel ((0 : Int32), sr C 0 t0) = some (nI 6, sr C 0 (fe (fun j u => cp (bpg c) j u) 6 t0)) := fun t0 =>
    iter_emb (n := 6) (t0 := t0) (fun i t => (nI i, sr C 0 t)) (fun j u => cp (bpg c) j u) (fun _ _ => True) (fun t => (nI 6, sr C 0 t)) (by omega) trivial (fun i t hi _ => ⟨by
      show S_X5_beginAs_77 0 (nI i) (sr C 0 t) = _
      unfold S_X5_beginAs_77
      rw [if_neg (show ¬ (6 : Int32) ≤ nI i from nI_ge hi (by decide)), gi_n (by omega) (by decide), gi_n (by omega) (by decide), nI_clamp (by omega), nm_s, nm_s, nI_1, mu_sr, kf_at i hi, ← bpg_n c (show i < 22 by omega) (by omega) (by omega)]
      rfl, trivial⟩) (fun t _ => by
      show S_X5_beginAs_77 0 (nI 6) (sr C 0 t) = _
      unfold S_X5_beginAs_77
      rw [if_pos (by decide)])
  have hT : ∀ t0 : Pg, t0 66 = nI c.1.1.1.1 → iter (fun z => S_X7_beginAs_20 0 z.1 z.2) fuel ((0 : Int32), sr C 0 t0) = some (nI c.1.1.1.1, sr C 0 (fe (fun j u => cp (bpg c) (22 + j) u) c.1.1.1.1 t0)) := fun t0 h0 =>
    iter_emb (n := c.1.1.1.1) (t0 := t0) (fun i t => (nI i, sr C 0 t)) (fun j u => cp (bpg c) (22 + j) u) (fun _ t => t 66 = nI c.1.1.1.1) (fun t => (nI c.1.1.1.1, sr C 0 t)) (by omega) h0 (fun i t hi ht => ⟨by
      show S_X7_beginAs_20 0 (nI i) (sr C 0 t) = _
      unfold S_X7_beginAs_20
      rw [sr_same, ht, if_neg (nI_ge hi (by omega)), gi_n (by omega) (by decide), gi_n (by omega) (by decide), nI_clamp (by omega), nm_s, nm_s, nI_1, e t 22 (by decide), mu_sr, at7 i hi, ← bpg_t c (by omega)]
      rfl, by rw [cp_at, if_neg (by omega)]; exact ht⟩) (fun t ht => by
      show S_X7_beginAs_20 0 (nI c.1.1.1.1) (sr C 0 t) = _
      unfold S_X7_beginAs_20
      rw [sr_same, ht, if_pos (nI_le (Nat.le_refl _) (by omega))])
  have z : ∀ k, 6 ≤ k → k < 18 → bpg c k = 0 := fun k h1 h2 => by
    rw [bpg_n c (by omega) (by omega) (by omega)]
    unfold bgv
    rw [if_neg (by omega), if_neg (by omega), if_neg (by omega), if_neg (by omega), if_neg (by omega), if_neg (by omega), if_neg (by omega), if_neg (by omega), if_neg (by omega)]
  have hend : ∀ (n t : Pg), n = t → F_X3_beginAsNew 0 (sr C 0 n) = some (0, sr C 0 (cpl (bpg c) [11, 12, 8, 9, 10] t)) := fun n t h => by
    subst h
    unfold F_X3_beginAsNew F_X3_end
    simp only [nm_s, mu_sr, b2_s]
    show some (0, sr C 0 (up (up (up (up (up n 11 0) 12 0) 8 0) 9 0) 10 0)) = some (0, sr C 0 (up (up (up (up (up n 11 (bpg c 11)) 12 (bpg c 12)) 8 (bpg c 8)) 9 (bpg c 9)) 10 (bpg c 10)))
    rw [z 11 (by decide) (by decide), z 12 (by decide) (by decide), z 8 (by decide) (by decide), z 9 (by decide) (by decide), z 10 (by decide) (by decide)]
  have h5n : (if (5 : Int32) < nI c.1.2.1 then (5 : Int32) else nI c.1.2.1) = nI c.1.2.1 := by
    rw [if_neg (show ¬ (5 : Int32) < nI c.1.2.1 from nI_nlt hn5 (by decide))]
  have h8n : (if (if (8 : Int32) < 8 then (8 : Int32) else 8) < nI c.1.1.1.1 then (if (8 : Int32) < 8 then (8 : Int32) else 8) else nI c.1.1.1.1) = nI c.1.1.1.1 := by
    rw [if_neg (show ¬ (8 : Int32) < 8 by decide), if_neg (show ¬ (8 : Int32) < nI c.1.1.1.1 from nI_nlt h4.1.1.2 (by decide))]
  have hfl : ∀ (f : Nat) (d : Int32) (t : Pg), bpg c (18 + f) = d → bpg c (20 + f) = 1 → F_X1_beginAs 0 f d (sr C 0 t) = some (0, sr C 0 (cpl (bpg c) [18 + f, 20 + f] t)) := fun f d t h1 h2 => by
    unfold F_X1_beginAs
    simp only [nm_s, mu_sr]
    rw [← h1]
    show some (0, sr C 0 (up (up t (18 + f) (bpg c (18 + f))) (20 + f) 1)) = some (0, sr C 0 (up (up t (18 + f) (bpg c (18 + f))) (20 + f) (bpg c (20 + f))))
    rw [h2]
  have hta : ∀ t : Pg, F_X7_beginAs 0 (nI c.1.1.1.1) (sr C 0 t) = some (0, sr C 0 (cpl (bpg c) [13, 14, 15, 16, 17] (fe (fun j u => cp (bpg c) (22 + j) u) c.1.1.1.1 (cpl (bpg c) [66] t)))) := fun t => by
    unfold F_X7_beginAs
    rw [h8n, nm_s, mu_sr]
    have h66 : up t 66 (nI c.1.1.1.1) = cpl (bpg c) [66] t := rfl
    rw [h66, hT _ (cpl_hit _ _ _ (by decide)), b1_s, u2_s]
    simp only [nm_s, mu_sr]
    generalize fe (fun j u => cp (bpg c) (22 + j) u) c.1.1.1.1 (cpl (bpg c) [66] t) = n
    show some (0, sr C 0 (up (up (up (up (up n 13 0) 14 0) 15 0) 16 0) 17 0)) = some (0, sr C 0 (up (up (up (up (up n 13 (bpg c 13)) 14 (bpg c 14)) 15 (bpg c 15)) 16 (bpg c 16)) 17 (bpg c 17)))
    rw [z 13 (by decide) (by decide), z 14 (by decide) (by decide), z 15 (by decide) (by decide), z 16 (by decide) (by decide), z 17 (by decide) (by decide)]
  unfold F_X5_beginAs
  rw [a5, h5n, nm_s, mu_s]
  have h65 : up (C 0) 65 (nI c.1.2.1) = cpl (bpg c) [65] (C 0) := rfl
  rw [h65, hA, b1_s, u2_s, e _ 18 (by decide), a3, hfl 0 (nI c.1.1.1.2) _ rfl rfl, b2_s, e _ 18 (by decide), a4, hfl 1 (nI c.1.1.2) _ rfl rfl, b2_s, hB, b1_s, u2_s, e _ 18 (by decide), a2', hta, b2_s, hend _ _ rfl, b2_s, nm_s, nm_s, mu_sr, mu_sr]
  unfold cpg
  rw [show cpl (bpg c) [18 + 1, 20 + 1] (cpl (bpg c) [18 + 0, 20 + 0] (fe (cb7 (bpg c)) c.1.2.1 (cpl (bpg c) [65] (C 0)))) = cpl (bpg c) [18, 20, 19, 21] (fe (cb7 (bpg c)) c.1.2.1 (cpl (bpg c) [65] (C 0))) from rfl, cpl_perm (bpg c) (l := [8, 9, 10, 11, 12, 6, 7]) (l' := [11, 12, 8, 9, 10, 6, 7]) (fun a => by simp only [List.mem_cons, List.not_mem_nil, or_false]; omega)]
  generalize cpl (bpg c) [13, 14, 15, 16, 17] _ = n
  show some (0, sr C 0 (up (up (cpl (bpg c) [11, 12, 8, 9, 10] n) 6 0) 7 0)) = some (0, sr C 0 (up (up (cpl (bpg c) [11, 12, 8, 9, 10] n) 6 (bpg c 6)) 7 (bpg c 7)))
  rw [z 6 (by decide) (by decide), z 7 (by decide) (by decide)]
/-! the model's reading, whole -/
theorem bl_5 {x : Pg} {T p : Nat} : pbind (boP x T p) (fun o e => blP x T 4 1 (fun j => if j = 0 then o else (0, 0)) e) = if p < T ∧ x p = 98 then blP x T 5 0 (fun _ => (0, 0)) p else .inl p := by
  by_cases hs : p < T ∧ x p = 98
  · rw [if_pos hs]
    show _ = (if p < T ∧ x p = 98 then pbind (boP x T p) (fun o e => blP x T 4 (0 + 1) (fun j => if j = 0 then o else (0, 0)) e) else _)
    rw [if_pos hs]
  · rw [if_neg hs]
    unfold boP
    rw [sg_f hs]
    rfl
theorem m_boilers {T p : Nat} {x : Pg} (h : MS T x C p) : match pbind (boP x T p) (fun o e => blP x T 4 1 (fun j => if j = 0 then o else (0, 0)) e) with
    | .inl e => ∃ C', F_X9_readBoilers C = some (0, C') ∧ Fm C C' ∧ C' 30 3 = nI e
    | .inr b => ∃ C', F_X9_readBoilers C = some (1, C') ∧ Fm C C' ∧ MS T x C' b.2 ∧ C' 30 6 = nI b.1.1 ∧ C' 30 7 = C 30 7 ∧ (∀ a, Ob a → C' 32 a = C 32 a) ∧ ∀ j, j < b.1.1 → C' 32 (30 + 7 * j) = nI (b.1.2 j).1 ∧ C' 32 (30 + 7 * j + 1) = nI (b.1.2 j).2 := by
  have h0 : MS T x (mu C 30 6 0) p := h.k (by decide) (by decide) _
  have f0 : Fm C (mu C 30 6 0) := fm_n C (Or.inr (Or.inl rfl)) _
  obtain ⟨o, e1, g⟩ := m_bl 5 0 (fun _ => (0, 0)) (mu C 30 6 0) p 994 (by decide) h0 (mu_at _ _ _ _) (fun j hj => absurd hj (Nat.not_lt_zero j))
  have e1' : iter (fun z => S_X9_readBoilers_5 z) fuel (mu C 30 6 0) = some o := by
    rw [show fuel = 5 + 1 + 994 by decide]
    exact e1
  rw [bl_5]
  unfold F_X9_readBoilers
  rw [nm_s, e1', b1_s]
  by_cases hs : p < T ∧ x p = 98
  · rw [if_pos hs]
    cases hb : blP x T 5 0 (fun _ => (0, 0)) p with
    | inl e =>
      rw [hb] at g
      obtain ⟨C', rfl, g2, g3⟩ := g
      exact ⟨C', rfl, f0.tr g2, g3⟩
    | inr b =>
      rw [hb] at g
      obtain ⟨C', rfl, g2, g3, g4, g5, g6, g7⟩ := g
      have hn : 1 ≤ b.1.1 ∧ b.1.1 ≤ 5 := by
        obtain ⟨⟨n, c⟩, e⟩ := b
        unfold blP at hb
        rw [if_pos hs] at hb
        cases hbo : boP x T p with
        | inl e => rw [hbo, pb_l] at hb; cases hb
        | inr o2 =>
          obtain ⟨⟨a, f⟩, e2⟩ := o2
          rw [hbo, pb_r] at hb
          have hv := bo_v hbo
          have k := bl_v 4 (0 + 1) _ e2 hv.2.2.1 (fun j hj => by
            have : j = 0 := by omega
            subst this
            rw [if_pos rfl]
            exact ⟨hv.1, hv.2.1⟩) hb
          exact ⟨by have := k.1; show 1 ≤ n; omega, by have := k.2.1; show n ≤ 5; omega⟩
      refine ⟨C', ?_, f0.tr g2, g3, g4, ?_, fun a ha => ?_, g7⟩
      · show (if C' 30 6 ≤ 0 then _ else _) = _
        rw [g4, if_neg (nI_nle (by omega) (by omega))]
      · rw [g5, mu_o _ _ (by decide)]
      · rw [g6 a ha, mu_r _ _ _ (show 32 ≠ 30 by decide)]
  · rw [if_neg hs]
    have hb : blP x T 5 0 (fun _ => (0, 0)) p = .inr ((0, fun _ => (0, 0)), p) := if_neg hs
    rw [hb] at g
    obtain ⟨C', rfl, g2, g3, g4, -, -, -⟩ := g
    refine ⟨C', ?_, f0.tr g2, g3.2.2.2.2⟩
    show (if C' 30 6 ≤ 0 then _ else _) = _
    rw [g4, if_pos (show nI 0 ≤ 0 by decide)]
/-- the page of the model's reader is what the text tells -/
theorem m_read {T : Nat} {x : Pg} (hT : C 30 2 = nI T) (h60 : T ≤ 60) (hx : ∀ k, k < T → C 31 k = x k) : ∃ C', Fm C C' ∧ match rd x T with
    | .inl e => F_X9_readAll C = some (0, C') ∧ C' 30 3 = nI e
    | .inr c => F_X9_readAll C = some (1, C') ∧ C' 30 6 = nI c.1.2.1 ∧ C' 30 7 = nI c.1.1.1.1 ∧ ∀ k, (k < 22 ∨ (22 ≤ k ∧ k < 22 + c.1.1.1.1) ∨ (∃ i f, i < c.1.2.1 ∧ f < 7 ∧ k = 30 + 7 * i + f)) → C' 32 k = bpg c k := by
  have a32 : alen 32 = 65 := rfl
  obtain ⟨y0, eb, hy0⟩ := g_begin (mu C 30 3 0) (r := 32) a32
  have h0 : MS T x (sr (mu C 30 3 0) 32 y0) 0 := ⟨by rw [sr_ne _ _ (show 30 ≠ 32 by decide), mu_o _ _ (by decide)]; exact hT, h60, fun k hk => by rw [sr_ne _ _ (show 31 ≠ 32 by decide), mu_r _ _ _ (show 31 ≠ 30 by decide)]; exact hx k hk, Nat.zero_le T, by rw [sr_ne _ _ (show 30 ≠ 32 by decide), mu_at]; rfl⟩
  have f0 : Fm C (sr (mu C 30 3 0) 32 y0) := (fm_n C (Or.inl rfl) _).tr ⟨fun _ _ b => sr_ne _ _ b, fun _ _ _ _ => by rw [sr_ne _ _ (show 30 ≠ 32 by decide)]⟩
  have p0 : ∀ k, k < 65 → (sr (mu C 30 3 0) 32 y0) 32 k = bgv k := fun k hk => by rw [sr_same]; exact hy0 k hk
  generalize sr (mu C 30 3 0) 32 y0 = D0 at eb h0 f0 p0
  unfold F_X9_readAll rd r7 r6 r5 r4 r3 r2 r1
  rw [nm_s, eb, b2_s, m_eat h0, b2_s]
  rcases (Classical.em (0 < T ∧ x 0 = 72)).symm with hs | hs
  · rw [if_neg hs, if_pos rfl, if_neg hs, sg_f hs]
    exact ⟨_, f0.tr (fm_n _ (Or.inl rfl) _), rfl, mu_at _ _ _ _⟩
  rw [if_pos hs, if_neg (by decide), if_pos hs, sg_t hs, pb_r]
  have h1 : MS T x (mu D0 30 3 (nI (0 + 1))) (0 + 1) := h0.mv (by omega)
  have m2 := m_digit h1 (a := 2) (b := 8) (by decide) (by decide)
  have m2' : F_X9_digit (2 : Int32) (8 : Int32) (mu D0 30 3 (nI (0 + 1))) = some (vl (dgP x T 2 8 (0 + 1)), mu (mu D0 30 3 (nI (0 + 1))) 30 3 (nI (ps (dgP x T 2 8 (0 + 1))))) := m2
  rw [m2', b2_s, mu_mu, nm_s, mu_at]
  have j61n : ∀ D : Mem, J_X9_readAll_61 (-9) D = some (0, mu (mu D 32 18 (-9)) 32 19 (-9)) := fun D => by
    unfold J_X9_readAll_61
    rw [a32, gl_18, nm_s, gl_18, cl_18, mu_at, if_pos rfl]
    unfold J_X9_readAll_92
    rw [a32, gl_19, nm_s, gl_19, cl_19, mu_at, if_pos rfl]
  have j92n : ∀ D : Mem, J_X9_readAll_92 (-9) D = some (0, mu D 32 19 (-9)) := fun D => by
    unfold J_X9_readAll_92
    rw [a32, gl_19, nm_s, gl_19, cl_19, mu_at, if_pos rfl]
  cases hL : dgP x T 2 8 (0 + 1) with
  | inl e =>
    rw [if_pos (show vl (.inl e) = -9 from rfl), j61n]
    refine ⟨_, (((f0.tr (fm_n _ (Or.inl rfl) _)).tr (fm_n _ (Or.inr (Or.inr rfl)) _)).tr (fm_p _ _ _)).tr (fm_p _ _ _), rfl, ?_⟩
    rw [mu_r _ _ _ (show 30 ≠ 32 by decide), mu_r _ _ _ (show 30 ≠ 32 by decide), mu_o _ _ (by decide), mu_at]
    rfl
  | inr o =>
    obtain ⟨L, e1⟩ := o
    have hLv := dg_v (by decide) (by decide) hL
    rw [if_neg (show vl (.inr (L, e1)) ≠ -9 from nI_n9 (by omega)), pb_r]
    have h2 : MS T x (mu (mu D0 30 3 (nI e1)) 30 7 (nI L)) e1 := (h0.mv (by omega)).k (by decide) (by decide) _
    have f2 : Fm C (mu (mu D0 30 3 (nI e1)) 30 7 (nI L)) := (f0.tr (fm_n _ (Or.inl rfl) _)).tr (fm_n _ (Or.inr (Or.inr rfl)) _)
    have p2 : ∀ k, k < 65 → (mu (mu D0 30 3 (nI e1)) 30 7 (nI L)) 32 k = bgv k := fun k hk => by rw [mu_r _ _ _ (show 32 ≠ 30 by decide), mu_r _ _ _ (show 32 ≠ 30 by decide)]; exact p0 k hk
    have q2 : (mu (mu D0 30 3 (nI e1)) 30 7 (nI L)) 30 7 = nI L := mu_at _ _ _ _
    show ∃ C', Fm C C' ∧ _
    have shape : ∀ (X : Option (Int32 × Mem)), (b2 (F_X9_two (0 : Int32) (99 : Int32) (mu (mu D0 30 3 (nI e1)) 30 7 (nI L))) fun r54 C55 => J_X9_readAll_61 r54 C55) = X → (b2 (F_X9_two (0 : Int32) (99 : Int32) (mu (mu D0 30 3 (nI (ps (.inr (L, e1) : Nat ⊕ (Nat × Nat))))) 30 7 (vl (.inr (L, e1))))) fun r54 C55 => J_X9_readAll_61 r54 C55) = X := fun X h => h
    generalize mu (mu D0 30 3 (nI e1)) 30 7 (nI L) = D2 at h2 f2 p2 q2 shape
    have m3 := m_two h2 (a := 0) (b := 99) (by decide) (by decide)
    have m3' : F_X9_two (0 : Int32) (99 : Int32) D2 = some (vl (twP x T 0 99 e1), mu D2 30 3 (nI (ps (twP x T 0 99 e1)))) := m3
    rw [shape _ rfl, m3', b2_s]
    cases h3 : twP x T 0 99 e1 with
    | inl e =>
      show ∃ C', Fm C C' ∧ (J_X9_readAll_61 (-9) (mu D2 30 3 (nI e)) = some (0, C') ∧ _)
      rw [j61n]
      refine ⟨_, ((f2.tr (fm_n _ (Or.inl rfl) _)).tr (fm_p _ _ _)).tr (fm_p _ _ _), rfl, ?_⟩
      rw [mu_r _ _ _ (show 30 ≠ 32 by decide), mu_r _ _ _ (show 30 ≠ 32 by decide), mu_at]
    | inr o =>
      obtain ⟨d0, e2⟩ := o
      have hv3 := tw_v (by decide) (by decide) h3
      rw [pb_r, pb_r]
      have j61 : J_X9_readAll_61 (vl (.inr (d0, e2))) (mu D2 30 3 (nI (ps (.inr (d0, e2) : Nat ⊕ (Nat × Nat))))) = b2 (F_X9_two (0 : Int32) (99 : Int32) (mu (mu D2 30 3 (nI e2)) 32 18 (nI d0))) fun r51 C52 => J_X9_readAll_92 r51 C52 := by
        show J_X9_readAll_61 (nI d0) (mu D2 30 3 (nI e2)) = _
        unfold J_X9_readAll_61
        rw [a32, gl_18, nm_s, gl_18, cl_18, mu_at, if_neg (nI_n9 (by omega))]
      rw [j61]
      have h4 : MS T x (mu (mu D2 30 3 (nI e2)) 32 18 (nI d0)) e2 := (h2.mv hv3.2.2).q _ _
      have m4 := m_two h4 (a := 0) (b := 99) (by decide) (by decide)
      have m4' : F_X9_two (0 : Int32) (99 : Int32) (mu (mu D2 30 3 (nI e2)) 32 18 (nI d0)) = some (vl (twP x T 0 99 e2), mu (mu (mu D2 30 3 (nI e2)) 32 18 (nI d0)) 30 3 (nI (ps (twP x T 0 99 e2)))) := m4
      rw [m4', b2_s]
      have f4 : Fm C (mu (mu D2 30 3 (nI e2)) 32 18 (nI d0)) := (f2.tr (fm_n _ (Or.inl rfl) _)).tr (fm_p _ _ _)
      cases h5 : twP x T 0 99 e2 with
      | inl e =>
        show ∃ C', Fm C C' ∧ (J_X9_readAll_92 (-9) (mu (mu (mu D2 30 3 (nI e2)) 32 18 (nI d0)) 30 3 (nI e)) = some (0, C') ∧ _)
        rw [j92n]
        refine ⟨_, (f4.tr (fm_n _ (Or.inl rfl) _)).tr (fm_p _ _ _), rfl, ?_⟩
        rw [mu_r _ _ _ (show 30 ≠ 32 by decide), mu_at]
      | inr o =>
        obtain ⟨d1, e3⟩ := o
        have hv5 := tw_v (by decide) (by decide) h5
        rw [pb_r, pb_r]
        have h6 : MS T x (mu (mu (mu (mu D2 30 3 (nI e2)) 32 18 (nI d0)) 30 3 (nI e3)) 32 19 (nI d1)) e3 := (h4.mv hv5.2.2).q _ _
        have f6 : Fm C (mu (mu (mu (mu D2 30 3 (nI e2)) 32 18 (nI d0)) 30 3 (nI e3)) 32 19 (nI d1)) := (f4.tr (fm_n _ (Or.inl rfl) _)).tr (fm_p _ _ _)
        have p6 : ∀ k, k < 65 → (mu (mu (mu (mu D2 30 3 (nI e2)) 32 18 (nI d0)) 30 3 (nI e3)) 32 19 (nI d1)) 32 k = if k = 18 then nI d0 else if k = 19 then nI d1 else bgv k := fun k hk => by
          by_cases k19 : k = 19
          · subst k19
            rw [mu_at, if_neg (by decide), if_pos rfl]
          · rw [mu_o _ _ k19, mu_r _ _ _ (show 32 ≠ 30 by decide)]
            by_cases k18 : k = 18
            · subst k18
              rw [mu_at, if_pos rfl]
            · rw [mu_o _ _ k18, mu_r _ _ _ (show 32 ≠ 30 by decide), if_neg k18, if_neg k19]
              exact p2 k hk
        have q6 : (mu (mu (mu (mu D2 30 3 (nI e2)) 32 18 (nI d0)) 30 3 (nI e3)) 32 19 (nI d1)) 30 7 = nI L := by
          rw [mu_r _ _ _ (show 30 ≠ 32 by decide), mu_o _ _ (by decide), mu_r _ _ _ (show 30 ≠ 32 by decide), mu_o _ _ (by decide)]
          exact q2
        have j92 : J_X9_readAll_92 (vl (.inr (d1, e3))) (mu (mu (mu D2 30 3 (nI e2)) 32 18 (nI d0)) 30 3 (nI (ps (.inr (d1, e3) : Nat ⊕ (Nat × Nat))))) = b2 (F_X9_readBoilers (mu (mu (mu (mu D2 30 3 (nI e2)) 32 18 (nI d0)) 30 3 (nI e3)) 32 19 (nI d1))) fun r26 C27 => (if r26 = 0 then (some ((0 : Int32), C27)) else (b2 (F_X9_eat (116 : Int32) C27) fun r30 C31 => (if r30 = 0 then (if (C31 30 3) = (C31 30 2) then (some ((1 : Int32), C31)) else (some ((0 : Int32), C31))) else (b1 (iter (fun z => S_X9_readAll_127 z.1 z.2.1 z.2.2) fuel ((0 : Int32), (0 : Int32), C31)) (Sum.elim (u3 fun v39 v40 C41 => (if (C41 30 3) = (C41 30 2) then (some ((1 : Int32), C41)) else (some ((0 : Int32), C41)))) fun y => some y))))) := by
          show J_X9_readAll_92 (nI d1) (mu (mu (mu D2 30 3 (nI e2)) 32 18 (nI d0)) 30 3 (nI e3)) = _
          unfold J_X9_readAll_92
          rw [a32, gl_19, nm_s, gl_19, cl_19, mu_at, if_neg (nI_n9 (by omega))]
        rw [j92]
        generalize mu (mu (mu (mu D2 30 3 (nI e2)) 32 18 (nI d0)) 30 3 (nI e3)) 32 19 (nI d1) = D6 at h6 f6 p6 q6
        have mb := m_boilers h6
        have hsplit : pbind (pbind (boP x T e3) fun o e => .inr ((((L, d0), d1), o), e)) (fun h e => pbind (blP x T 4 1 (fun j => if j = 0 then h.2 else (0, 0)) e) fun b e => .inr ((h.1, b), e)) = (pbind (pbind (boP x T e3) (fun o e => blP x T 4 1 (fun j => if j = 0 then o else (0, 0)) e)) fun b e => .inr ((((L, d0), d1), b), e) : Nat ⊕ ((((Nat × Nat) × Nat) × (Nat × (Nat → Nat × Nat))) × Nat)) := by
          cases boP x T e3 with
          | inl e => rfl
          | inr o => rfl
        rw [hsplit]
        cases hb : pbind (boP x T e3) (fun o e => blP x T 4 1 (fun j => if j = 0 then o else (0, 0)) e) with
        | inl e =>
          rw [hb] at mb
          obtain ⟨C', g1, g2, g3⟩ := mb
          rw [g1, b2_s, if_pos rfl]
          exact ⟨C', f6.tr g2, rfl, g3⟩
        | inr b =>
          rw [hb] at mb
          obtain ⟨C', g1, g2, g3, g4, g5, g6, g7⟩ := mb
          obtain ⟨⟨n, bo⟩, e4⟩ := b
          rw [g1, b2_s, if_neg (by decide), m_eat g3, b2_s, pb_r, pb_r]
          have g3' : MS T x C' e4 := g3
          have g4' : C' 30 6 = nI n := g4
          have h5b : n ≤ 5 := by
            have r6e : r6 x T = .inr ((((L, d0), d1), (n, bo)), e4) := by
              unfold r6 r5 r4 r3 r2 r1
              rw [sg_t hs, pb_r, hL, pb_r, h3, pb_r, pb_r, h5, pb_r, pb_r, hsplit, hb]
              rfl
            exact (r6_v r6e).2.2.1
          have p7 : ∀ (t : Nat → Nat) (D : Mem), D 30 6 = nI n → D 30 7 = nI L → (∀ a, (a < 22 ∨ 30 ≤ a) → D 32 a = C' 32 a) → (∀ a, a < L → D 32 (22 + a) = nI (t a)) → D 30 6 = nI n ∧ D 30 7 = nI L ∧ ∀ k, (k < 22 ∨ (22 ≤ k ∧ k < 22 + L) ∨ (∃ i f, i < n ∧ f < 7 ∧ k = 30 + 7 * i + f)) → D 32 k = bpg ((((L, d0), d1), (n, bo)), t) k := fun t D d6 d7 dn dt => by
            refine ⟨d6, d7, fun k hk => ?_⟩
            rcases hk with hk | hk | ⟨i, f, hi, hf, rfl⟩
            · rw [dn k (Or.inl hk), g6 k (fun j hj => by omega), p6 k (by omega)]
              unfold bpg
              split
              · rfl
              · split
                · rfl
                · rfl
            · have e := dt (k - 22) (by omega)
              rw [show 22 + (k - 22) = k by omega] at e
              have e2 := bpg_t ((((L, d0), d1), (n, bo)), t) (j := k - 22) (by omega)
              rw [show 22 + (k - 22) = k by omega] at e2
              rw [e, e2]
            · rw [dn _ (Or.inr (by omega)), bpg_b _ (by omega) hf]
              by_cases f0 : f = 0
              · subst f0
                rw [if_pos rfl]
                exact (g7 i hi).1
              · rw [if_neg f0]
                by_cases f1 : f = 1
                · subst f1
                  rw [if_pos rfl]
                  exact (g7 i hi).2
                · rw [if_neg f1, g6 _ (fun j hj => by omega), p6 _ (by omega), if_neg (by omega), if_neg (by omega)]
                  unfold bgv
                  rw [if_neg (by omega), if_neg (by omega), if_neg (by omega), if_neg (by omega), if_neg (by omega), if_neg (by omega), if_neg (by omega), if_neg (by omega), if_neg (by omega)]
          have fin : ∀ (t : Nat → Nat) (e : Nat) (D : Mem), MS T x D e → D 30 6 = nI n → D 30 7 = nI L → (∀ a, (a < 22 ∨ 30 ≤ a) → D 32 a = C' 32 a) → (∀ a, a < L → D 32 (22 + a) = nI (t a)) → Fm C' D → ∃ C'', Fm C C'' ∧ match (match (.inr (((((L, d0), d1), (n, bo)), t), e) : Nat ⊕ (TC × Nat)) with
              | .inl e => (.inl e : Nat ⊕ TC)
              | .inr o => if o.2 < T then .inl o.2 else .inr o.1) with
            | .inl e => (if D 30 3 = D 30 2 then some ((1 : Int32), D) else some ((0 : Int32), D)) = some (0, C'') ∧ C'' 30 3 = nI e
            | .inr c => (if D 30 3 = D 30 2 then some ((1 : Int32), D) else some ((0 : Int32), D)) = some (1, C'') ∧ C'' 30 6 = nI c.1.2.1 ∧ C'' 30 7 = nI c.1.1.1.1 ∧ ∀ k, (k < 22 ∨ (22 ≤ k ∧ k < 22 + c.1.1.1.1) ∨ (∃ i f, i < c.1.2.1 ∧ f < 7 ∧ k = 30 + 7 * i + f)) → C'' 32 k = bpg c k := fun t e D hD d6 d7 dn dt df => by
            refine ⟨D, (f6.tr g2).tr df, ?_⟩
            rw [hD.2.2.2.2, hD.1]
            have hle := hD.2.2.2.1
            by_cases hc : e < T
            · simp only [if_pos hc]
              rw [if_neg (fun q => by have := (nI_eq (by omega) (by omega)).mp q; omega)]
              exact ⟨rfl, trivial⟩
            · simp only [if_neg hc]
              rw [if_pos (by rw [show e = T by omega])]
              exact ⟨rfl, p7 t D d6 d7 dn dt⟩
          have g5' : C' 30 7 = nI L := g5.trans q6
          unfold ttP
          by_cases ht : e4 < T ∧ x e4 = 116
          · have ht' : ((n, bo), e4).2 < T ∧ x ((n, bo), e4).2 = 116 := ht
            simp only [if_pos ht]
            rw [if_neg (by decide), sg_t ht, pb_r]
            have h8 : MS T x (mu C' 30 3 (nI (e4 + 1))) (e4 + 1) := g3'.mv (by omega)
            obtain ⟨o, e9, g9⟩ := m_tl (L := L) (by omega) L 0 0 (fun _ => 40) (mu C' 30 3 (nI (e4 + 1))) (e4 + 1) (999 - L) (by omega) (by decide) h8 (by rw [mu_o _ _ (by decide)]; exact g5') (fun a ha => absurd ha (Nat.not_lt_zero a))
            have e9' : iter (fun z => S_X9_readAll_127 z.1 z.2.1 z.2.2) fuel ((0 : Int32), (0 : Int32), mu C' 30 3 (nI (e4 + 1))) = some o := by
              rw [show fuel = L + 1 + (999 - L) by unfold fuel; omega]
              exact e9
            rw [e9', b1_s]
            cases hq : tmP x T L 0 0 (fun _ => 40) (e4 + 1) with
            | inl e =>
              rw [hq] at g9
              obtain ⟨C9, rfl, k2, k3⟩ := g9
              exact ⟨C9, ((f6.tr g2).tr (fm_n _ (Or.inl rfl) _)).tr k2, rfl, k3⟩
            | inr z =>
              rw [hq] at g9
              obtain ⟨v, w, C9, rfl, k2, k3, k4, k5, k6, k7⟩ := g9
              exact fin z.1 z.2 C9 k3 (by rw [k4, mu_o _ _ (by decide)]; exact g4') (by rw [k5, mu_o _ _ (by decide)]; exact g5') (fun a ha => by rw [k6 a ha, mu_r _ _ _ (show 32 ≠ 30 by decide)]) k7 ((fm_n _ (Or.inl rfl) _).tr k2)
          · simp only [if_neg ht]
            rw [if_pos trivial, pb_r]
            exact fin (fun _ => 40) e4 _ (g3'.mv g3'.2.2.2.1) (by rw [mu_o _ _ (by decide)]; exact g4') (by rw [mu_o _ _ (by decide)]; exact g5') (fun a _ => by rw [mu_r _ _ _ (show 32 ≠ 30 by decide)]) (fun a ha => by
              rw [mu_r _ _ _ (show 32 ≠ 30 by decide), g6 _ (fun j hj => by omega), p6 _ (by omega), if_neg (by omega), if_neg (by omega)]
              unfold bgv
              rw [if_neg (by omega), if_neg (by omega), if_neg (by omega), if_neg (by omega), if_neg (by omega), if_neg (by omega), if_neg (by omega), if_neg (by omega), if_pos (by omega)]
              rfl) (fm_n _ (Or.inl rfl) _)
end LOAD
