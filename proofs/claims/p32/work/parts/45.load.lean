/-! a text's cascade: loaded by both -/
def bgv (k : Nat) : Int32 := if k = 0 then 60 else if k = 1 then 3 else if k = 2 then 2 else if k = 3 then 70 else if k = 4 then 2 else if k = 5 then 2 else if k = 20 then 1 else if k = 21 then 1 else if 22 ≤ k ∧ k ≤ 29 then 40 else 0
/-- the page that a text tells -/
def bpg (c : TC) : Pg := fun k => if k = 18 then nI c.1.1.1.2 else if k = 19 then nI c.1.1.2 else if k < 22 then bgv k else if k < 30 then nI (c.2 (k - 22)) else if k < 65 then (if (k - 30) % 7 = 0 then nI (c.1.2.2 ((k - 30) / 7)).1 else if (k - 30) % 7 = 1 then nI (c.1.2.2 ((k - 30) / 7)).2 else 0) else if k = 65 then nI c.1.2.1 else if k = 66 then nI c.1.1.1.1 else 0
theorem bpg_n (c : TC) {k : Nat} (h : k < 22) (h1 : k ≠ 18) (h2 : k ≠ 19) : bpg c k = bgv k := by
  unfold bpg
  rw [if_neg h1, if_neg h2, if_pos h]
theorem bpg_t (c : TC) {j : Nat} (h : j < 8) : bpg c (22 + j) = nI (c.2 j) := by
  unfold bpg
  rw [if_neg (by omega), if_neg (by omega), if_neg (by omega), if_pos (by omega), show 22 + j - 22 = j by omega]
theorem bpg_b (c : TC) {i f : Nat} (hi : i < 5) (hf : f < 7) : bpg c (30 + 7 * i + f) = if f = 0 then nI (c.1.2.2 i).1 else if f = 1 then nI (c.1.2.2 i).2 else 0 := by
  have e1 : (30 + 7 * i + f - 30) % 7 = f := by omega
  have e2 : (30 + 7 * i + f - 30) / 7 = i := by omega
  unfold bpg
  rw [if_neg (by omega), if_neg (by omega), if_neg (by omega), if_neg (by omega), if_pos (by omega), e1, e2]
/-- a text's contents within bounds -/
def Ok (c : TC) : Prop := ((((2 ≤ c.1.1.1.1 ∧ c.1.1.1.1 ≤ 8) ∧ c.1.1.1.2 ≤ 99) ∧ c.1.1.2 ≤ 99) ∧ 1 ≤ c.1.2.1 ∧ c.1.2.1 ≤ 5 ∧ ∀ j, j < c.1.2.1 → (c.1.2.2 j).1 ≤ 30 ∧ (c.1.2.2 j).2 ≤ 1) ∧ ∀ a, a < c.1.1.1.1 → c.2 a ≤ 99
theorem rd_ok {x : Pg} {T : Nat} {c : TC} (h : rd x T = .inr c) : Ok c := by
  unfold rd at h
  cases h7 : r7 x T with
  | inl e => rw [h7] at h; cases h
  | inr o =>
    obtain ⟨o1, o2⟩ := o
    rw [h7] at h
    have g := r7_v h7
    by_cases q : o2 < T
    · simp only [if_pos q] at h; cases h
    · simp only [if_neg q] at h
      cases h
      exact ⟨g.1, g.2.2⟩
theorem bpg_wf {c : TC} (h : Ok c) (K : Nat) : WF c.1.2.1 c.1.1.1.1 K (bpg c) := by
  obtain ⟨⟨h4, hn1, hn5, hb⟩, ht⟩ := h
  refine ⟨fun j hj => ?_, ?_, ?_, ?_, ?_, ?_, fun i hi => ?_⟩
  · have := ht j hj
    rw [bpg_t c (by omega), ti _ (by omega)]
    omega
  · exact Or.inl rfl
  · show 0 ≤ (0 : Int32).toInt ∧ (0 : Int32).toInt < 12
    decide
  · show 1 ≤ (2 : Int32).toInt ∧ (2 : Int32).toInt ≤ 5
    decide
  · exact Or.inr rfl
  · exact Or.inr rfl
  · have hv := hb i hi
    have e : ∀ f, f < 7 → bpg c (30 + 7 * i + f) = if f = 0 then nI (c.1.2.2 i).1 else if f = 1 then nI (c.1.2.2 i).2 else 0 := fun f hf => bpg_b c (by omega) hf
    have e0 : bpg c (30 + 7 * i) = nI (c.1.2.2 i).1 := e 0 (by decide)
    have e1 : bpg c (30 + 7 * i + 1) = nI (c.1.2.2 i).2 := by rw [e 1 (by decide), if_neg (by decide), if_pos rfl]
    have z : ∀ f, 2 ≤ f → f < 7 → bpg c (30 + 7 * i + f) = 0 := fun f a b => by rw [e f b, if_neg (by omega), if_neg (by omega)]
    have t0 : (0 : Int32).toInt = 0 := rfl
    unfold Bo
    rw [e0, e1, z 2 (by decide) (by decide), z 3 (by decide) (by decide), z 4 (by decide) (by decide), z 6 (by decide) (by decide), ti _ (by omega), t0]
    refine ⟨by omega, ?_, Or.inl rfl, fun q => absurd q (by decide), fun _ => rfl, by omega, by omega⟩
    rcases (show (c.1.2.2 i).2 = 0 ∨ (c.1.2.2 i).2 = 1 by omega) with q | q
    · rw [q]; exact Or.inl rfl
    · rw [q]; exact Or.inr rfl
theorem cpl_perm (z : Pg) {l l' : List Nat} (h : ∀ a, a ∈ l ↔ a ∈ l') (t : Pg) : cpl z l t = cpl z l' t := by
  funext a
  by_cases q : a ∈ l
  · rw [cpl_hit z l t q, cpl_hit z l' t ((h a).mp q)]
  · rw [cpl_out z l t q, cpl_out z l' t (fun r => q ((h a).mpr r))]
section LOAD
variable {C : Mem}
theorem g_beginB (g : Pg) {i : Nat} {x0 x1 : Int32} (h0 : g (30 + 7 * i) = x0) (h1 : g (30 + 7 * i + 1) = x1) (hz : ∀ f, 2 ≤ f → f < 7 → g (30 + 7 * i + f) = 0) (q : Nat) (t : Pg) : F_X0_beginAs q i x0 x1 (sr C q t) = some (0, sr C q (cb7 g i t)) := by
  unfold F_X0_beginAs cb7
  simp only [nm_s, mu_sr]
  rw [← h0, ← h1]
  have e : ∀ f, 2 ≤ f → f < 7 → (0 : Int32) = g (30 + 7 * i + f) := fun f a b => (hz f a b).symm
  show some (0, sr C q (up (up (up (up (up (up (up t (30 + 7 * i) (g (30 + 7 * i))) (30 + 7 * i + 1) (g (30 + 7 * i + 1))) (30 + 7 * i + 2) 0) (30 + 7 * i + 3) 0) (30 + 7 * i + 4) 0) (30 + 7 * i + 5) 0) (30 + 7 * i + 6) 0)) = some (0, sr C q (up (up (up (up (up (up (up t (30 + 7 * i) (g (30 + 7 * i))) (30 + 7 * i + 1) (g (30 + 7 * i + 1))) (30 + 7 * i + 2) (g (30 + 7 * i + 2))) (30 + 7 * i + 3) (g (30 + 7 * i + 3))) (30 + 7 * i + 4) (g (30 + 7 * i + 4))) (30 + 7 * i + 5) (g (30 + 7 * i + 5))) (30 + 7 * i + 6) (g (30 + 7 * i + 6))))
  rw [hz 2 (by decide) (by decide), hz 3 (by decide) (by decide), hz 4 (by decide) (by decide), hz 5 (by decide) (by decide), hz 6 (by decide) (by decide)]
theorem kf_at : ∀ k : Nat, k < 6 → kFirst k = bgv k := by decide +kernel
theorem g_beginAs {c : TC} (hk : Ok c) (hA : A7 c C) : F_X5_beginAs 0 C = some (0, sr C 0 (cpg c.1.2.1 c.1.1.1.1 (bpg c) (C 0))) := by
  obtain ⟨⟨⟨⟨a2, a3⟩, a4⟩, a5, ab⟩, at7⟩ := hA
  obtain ⟨⟨h4, hn1, hn5, hb⟩, ht⟩ := hk
  have a2' : C 18 2 = nI c.1.1.1.1 := a2
  have e : ∀ (t : Pg) (r : Nat), r ≠ 0 → sr C 0 t r = C r := fun t r h => sr_ne C t h
  have g65 : bpg c 65 = nI c.1.2.1 := rfl
  have g66 : bpg c 66 = nI c.1.1.1.1 := rfl
  have hA : iter (fun z => S_X5_beginAs_18 0 z.1 z.2) fuel ((0 : Int32), sr C 0 (cpl (bpg c) [65] (C 0))) = some (nI c.1.2.1, sr C 0 (fe (cb7 (bpg c)) c.1.2.1 (cpl (bpg c) [65] (C 0)))) :=
    iter_emb (n := c.1.2.1) (t0 := cpl (bpg c) [65] (C 0)) (fun i t => (nI i, sr C 0 t)) (cb7 (bpg c)) (fun _ t => t 65 = nI c.1.2.1) (fun t => (nI c.1.2.1, sr C 0 t)) (by omega) (cpl_hit _ _ _ (by decide)) (fun i t hi ht => ⟨by
      show S_X5_beginAs_18 0 (nI i) (sr C 0 t) = _
      unfold S_X5_beginAs_18
      rw [sr_same, ht, if_neg (nI_ge hi (by omega)), gi_n (by omega) (by decide), gi_n (by omega) (by decide), gi_n (by omega) (by decide), nI_clamp (by omega), e t 20 (by decide), e t 21 (by decide), g_beginB (bpg c) (by rw [(ab i hi).1]; exact bpg_b c (i := i) (f := 0) (by omega) (by decide)) (by rw [(ab i hi).2]; exact bpg_b c (i := i) (f := 1) (by omega) (by decide)) (fun f f2 f7 => by rw [bpg_b c (by omega) f7, if_neg (by omega), if_neg (by omega)]), b2_s, nm_s, nI_1], by
      unfold cb7
      rw [cpl_out]
      · exact ht
      · simp only [List.mem_cons, List.not_mem_nil, or_false]
        omega⟩) (fun t ht => by
      show S_X5_beginAs_18 0 (nI c.1.2.1) (sr C 0 t) = _
      unfold S_X5_beginAs_18
      rw [sr_same, ht, if_pos (nI_le (Nat.le_refl _) (by omega))])
  have hB : ∀ t0 : Pg, iter (fun z => S_X5_beginAs_77 0 z.1 z.2) fuel ((0 : Int32), sr C 0 t0) = some (nI 6, sr C 0 (fe (fun j u => cp (bpg c) j u) 6 t0)) := fun t0 =>
    iter_emb (n := 6) (t0 := t0) (fun i t => (nI i, sr C 0 t)) (fun j u => cp (bpg c) j u) (fun _ _ => True) (fun t => (nI 6, sr C 0 t)) (by omega) trivial (fun i t hi _ => ⟨by
      show S_X5_beginAs_77 0 (nI i) (sr C 0 t) = _
      unfold S_X5_beginAs_77
      rw [if_neg (show ¬ (6 : Int32) ≤ nI i from nI_ge hi (by decide)), gi_n (by omega) (by decide), gi_n (by omega) (by decide), nI_clamp (by omega), nm_s, nm_s, nI_1, mu_sr, kf_at i hi, ← bpg_n c (show i < 22 by omega) (by omega) (by omega)]
      rfl, trivial⟩) (fun t _ => by
      show S_X5_beginAs_77 0 (nI 6) (sr C 0 t) = _
      unfold S_X5_beginAs_77
      rw [if_pos (by decide)])
  have hT : ∀ t0 : Pg, t0 66 = nI c.1.1.1.1 → iter (fun z => S_X7_beginAs_20 0 z.1 z.2) fuel ((0 : Int32), sr C 0 t0) = some (nI c.1.1.1.1, sr C 0 (fe (fun j u => cp (bpg c) (22 + j) u) c.1.1.1.1 t0)) := fun t0 h0 =>
    iter_emb (n := c.1.1.1.1) (t0 := t0) (fun i t => (nI i, sr C 0 t)) (fun j u => cp (bpg c) (22 + j) u) (fun _ t => t 66 = nI c.1.1.1.1) (fun t => (nI c.1.1.1.1, sr C 0 t)) (by omega) h0 (fun i t hi ht => ⟨by
      show S_X7_beginAs_20 0 (nI i) (sr C 0 t) = _
      unfold S_X7_beginAs_20
      rw [sr_same, ht, if_neg (nI_ge hi (by omega)), gi_n (by omega) (by decide), gi_n (by omega) (by decide), nI_clamp (by omega), nm_s, nm_s, nI_1, e t 22 (by decide), mu_sr, at7 i hi, ← bpg_t c (by omega)]
      rfl, by rw [cp_at, if_neg (by omega)]; exact ht⟩) (fun t ht => by
      show S_X7_beginAs_20 0 (nI c.1.1.1.1) (sr C 0 t) = _
      unfold S_X7_beginAs_20
      rw [sr_same, ht, if_pos (nI_le (Nat.le_refl _) (by omega))])
  have z : ∀ k, 6 ≤ k → k < 18 → bpg c k = 0 := fun k h1 h2 => by
    rw [bpg_n c (by omega) (by omega) (by omega)]
    unfold bgv
    rw [if_neg (by omega), if_neg (by omega), if_neg (by omega), if_neg (by omega), if_neg (by omega), if_neg (by omega), if_neg (by omega), if_neg (by omega), if_neg (by omega)]
  have hend : ∀ (n t : Pg), n = t → F_X3_beginAsNew 0 (sr C 0 n) = some (0, sr C 0 (cpl (bpg c) [11, 12, 8, 9, 10] t)) := fun n t h => by
    subst h
    unfold F_X3_beginAsNew F_X3_end
    simp only [nm_s, mu_sr, b2_s]
    show some (0, sr C 0 (up (up (up (up (up n 11 0) 12 0) 8 0) 9 0) 10 0)) = some (0, sr C 0 (up (up (up (up (up n 11 (bpg c 11)) 12 (bpg c 12)) 8 (bpg c 8)) 9 (bpg c 9)) 10 (bpg c 10)))
    rw [z 11 (by decide) (by decide), z 12 (by decide) (by decide), z 8 (by decide) (by decide), z 9 (by decide) (by decide), z 10 (by decide) (by decide)]
  have h5n : (if (5 : Int32) < nI c.1.2.1 then (5 : Int32) else nI c.1.2.1) = nI c.1.2.1 := by
    rw [if_neg (show ¬ (5 : Int32) < nI c.1.2.1 from nI_nlt hn5 (by decide))]
  have h8n : (if (if (8 : Int32) < 8 then (8 : Int32) else 8) < nI c.1.1.1.1 then (if (8 : Int32) < 8 then (8 : Int32) else 8) else nI c.1.1.1.1) = nI c.1.1.1.1 := by
    rw [if_neg (show ¬ (8 : Int32) < 8 by decide), if_neg (show ¬ (8 : Int32) < nI c.1.1.1.1 from nI_nlt h4.1.1.2 (by decide))]
  have hfl : ∀ (f : Nat) (d : Int32) (t : Pg), bpg c (18 + f) = d → bpg c (20 + f) = 1 → F_X1_beginAs 0 f d (sr C 0 t) = some (0, sr C 0 (cpl (bpg c) [18 + f, 20 + f] t)) := fun f d t h1 h2 => by
    unfold F_X1_beginAs
    simp only [nm_s, mu_sr]
    rw [← h1]
    show some (0, sr C 0 (up (up t (18 + f) (bpg c (18 + f))) (20 + f) 1)) = some (0, sr C 0 (up (up t (18 + f) (bpg c (18 + f))) (20 + f) (bpg c (20 + f))))
    rw [h2]
  have hta : ∀ t : Pg, F_X7_beginAs 0 (nI c.1.1.1.1) (sr C 0 t) = some (0, sr C 0 (cpl (bpg c) [13, 14, 15, 16, 17] (fe (fun j u => cp (bpg c) (22 + j) u) c.1.1.1.1 (cpl (bpg c) [66] t)))) := fun t => by
    unfold F_X7_beginAs
    rw [h8n, nm_s, mu_sr]
    have h66 : up t 66 (nI c.1.1.1.1) = cpl (bpg c) [66] t := rfl
    rw [h66, hT _ (cpl_hit _ _ _ (by decide)), b1_s, u2_s]
    simp only [nm_s, mu_sr]
    generalize fe (fun j u => cp (bpg c) (22 + j) u) c.1.1.1.1 (cpl (bpg c) [66] t) = n
    show some (0, sr C 0 (up (up (up (up (up n 13 0) 14 0) 15 0) 16 0) 17 0)) = some (0, sr C 0 (up (up (up (up (up n 13 (bpg c 13)) 14 (bpg c 14)) 15 (bpg c 15)) 16 (bpg c 16)) 17 (bpg c 17)))
    rw [z 13 (by decide) (by decide), z 14 (by decide) (by decide), z 15 (by decide) (by decide), z 16 (by decide) (by decide), z 17 (by decide) (by decide)]
  unfold F_X5_beginAs
  rw [a5, h5n, nm_s, mu_s]
  have h65 : up (C 0) 65 (nI c.1.2.1) = cpl (bpg c) [65] (C 0) := rfl
  rw [h65, hA, b1_s, u2_s, e _ 18 (by decide), a3, hfl 0 (nI c.1.1.1.2) _ rfl rfl, b2_s, e _ 18 (by decide), a4, hfl 1 (nI c.1.1.2) _ rfl rfl, b2_s, hB, b1_s, u2_s, e _ 18 (by decide), a2', hta, b2_s, hend _ _ rfl, b2_s, nm_s, nm_s, mu_sr, mu_sr]
  unfold cpg
  rw [show cpl (bpg c) [18 + 1, 20 + 1] (cpl (bpg c) [18 + 0, 20 + 0] (fe (cb7 (bpg c)) c.1.2.1 (cpl (bpg c) [65] (C 0)))) = cpl (bpg c) [18, 20, 19, 21] (fe (cb7 (bpg c)) c.1.2.1 (cpl (bpg c) [65] (C 0))) from rfl, cpl_perm (bpg c) (l := [8, 9, 10, 11, 12, 6, 7]) (l' := [11, 12, 8, 9, 10, 6, 7]) (fun a => by simp only [List.mem_cons, List.not_mem_nil, or_false]; omega)]
  generalize cpl (bpg c) [13, 14, 15, 16, 17] _ = n
  show some (0, sr C 0 (up (up (cpl (bpg c) [11, 12, 8, 9, 10] n) 6 0) 7 0)) = some (0, sr C 0 (up (up (cpl (bpg c) [11, 12, 8, 9, 10] n) 6 (bpg c 6)) 7 (bpg c 7)))
  rw [z 6 (by decide) (by decide), z 7 (by decide) (by decide)]
/-! the model's reading, whole -/
theorem bl_5 {x : Pg} {T p : Nat} : pbind (boP x T p) (fun o e => blP x T 4 1 (fun j => if j = 0 then o else (0, 0)) e) = if p < T ∧ x p = 98 then blP x T 5 0 (fun _ => (0, 0)) p else .inl p := by
  by_cases hs : p < T ∧ x p = 98
  · rw [if_pos hs]
    show _ = (if p < T ∧ x p = 98 then pbind (boP x T p) (fun o e => blP x T 4 (0 + 1) (fun j => if j = 0 then o else (0, 0)) e) else _)
    rw [if_pos hs]
  · rw [if_neg hs]
    unfold boP
    rw [sg_f hs]
    rfl
end LOAD

