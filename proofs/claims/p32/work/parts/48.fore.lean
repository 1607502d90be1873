/-! forecasts -/
section FORE
variable {C : Mem} {K N Y : Nat}
theorem t_c {q q0 : Nat} (hq : q0 ≠ q) (c65 : C q0 65 = nI N) (c66 : C q0 66 = nI Y) (n5 : N ≤ 5) (y8 : Y ≤ 8) (wf : WF N Y K (C q0)) : ∃ y, F_X5_copyFrom q q0 C = some (0, sr C q y) ∧ Sv N Y K y (C q0) :=
  ⟨cpg N Y (C q0) (C q), g_copyFrom hq c65 c66 n5 y8 wf.2.1 wf.2.2.2.2.1 wf.2.2.2.2.2.1, (cpg_65 _ _ _ _).trans c65, (cpg_66 _ _ _ _).trans c66, wf.ag (cpg_a _ _ _ _), cpg_a _ _ _ _⟩
theorem Agree.of {y z : Pg} (n5 : N ≤ 5) (y8 : Y ≤ 8) (h : ∀ k, k < 65 → y k = z k) : Agree N Y y z := ⟨fun k hk => h k (by omega), fun j hj => h _ (by omega), fun i f hi hf => h _ (by omega)⟩
theorem g_tick1 {y : Pg} (hN : y 65 = nI N) (hY : y 66 = nI Y) (h5 : N ≤ 5) (h1 : 1 ≤ Y) (h8 : Y ≤ 8) (q : Nat) {d : Nat} (hd : d < 1000) (hK : K + 1 < 1000000) (hW : WF N Y K y) : F_X5_passTicks q (1 : Int32) (nI d) (sr C q y) = some (0, sr C q (tk N Y d y)) := g_passTicks (m := 1) hN hY h5 h1 h8 q hd (by decide) hK hW
/-- the trial's page, class and model -/
def Tr (N Y K : Nat) (y : Pg) : Prop := y 65 = nI N ∧ y 66 = nI Y ∧ WF N Y K y
theorem Tr.tk {y : Pg} (h1 : 1 ≤ Y) (h8 : Y ≤ 8) (h5 : N ≤ 5) (h : Tr N Y K y) (hK : K < 1000000) (d : Nat) : Tr N Y (K + 1) (tk N Y d y) := ⟨(tk_hi d y h1 h8 h5 (by decide)).trans h.1, (tk_hi d y h1 h8 h5 (by decide)).trans h.2.1, h.2.2.k_tk h1 h8 hK d⟩
def ahf (N Y d : Nat) (_ : Nat) (p : Int32 × Pg) : Int32 × Pg := (if avg Y (tk N Y d p.2) < p.1 then avg Y (tk N Y d p.2) else p.1, tk N Y d p.2)
def ahd (N Y d m : Nat) (y : Pg) : Int32 × Pg := fe (ahf N Y d) m (99, y)
theorem ahd_c {y z : Pg} (h1 : 1 ≤ Y) (h : Agree N Y y z) (d m : Nat) : (ahd N Y d m y).1 = (ahd N Y d m z).1 ∧ Agree N Y (ahd N Y d m y).2 (ahd N Y d m z).2 :=
  fe_rel (f := ahf N Y d) (g := ahf N Y d) (t := (99, y)) (u := (99, z)) (R := fun (_ : Nat) (p q : Int32 × Pg) => p.1 = q.1 ∧ Agree N Y p.2 q.2) ⟨rfl, h⟩ fun i p q _ hR => by
    have g := hR.2.k_tk h1 d
    refine ⟨?_, g⟩
    show (if avg Y (tk N Y d p.2) < p.1 then avg Y (tk N Y d p.2) else p.1) = (if avg Y (tk N Y d q.2) < q.1 then avg Y (tk N Y d q.2) else q.1)
    rw [avg_c g, hR.1]
theorem c_ahd {y : Pg} (h1 : 1 ≤ Y) (h8 : Y ≤ 8) (h5 : N ≤ 5) (h : Tr N Y K y) {d m : Nat} (hd : d < 1000) (hm : m < 1000) (hK : K + m < 1000000) : iter (fun w => S_X8_ahead_30 (nI m) (nI d) w.1 w.2.1 w.2.2) fuel ((99 : Int32), (0 : Int32), sr C 1 y) = some ((ahd N Y d m y).1, nI m, sr C 1 (ahd N Y d m y).2) ∧ Tr N Y (K + m) (ahd N Y d m y).2 := by
  have hs : ∀ (i : Nat) (p : Int32 × Pg), i < m → Tr N Y (K + i) p.2 → S_X8_ahead_30 (nI m) (nI d) p.1 (nI i) (sr C 1 p.2) = some (.inl ((ahf N Y d i p).1, nI (i + 1), sr C 1 (ahf N Y d i p).2)) ∧ Tr N Y (K + (i + 1)) (ahf N Y d i p).2 := fun i p hi hp => by
    have ht := hp.tk h1 h8 h5 (by omega) d
    refine ⟨?_, ht⟩
    unfold S_X8_ahead_30
    rw [if_neg (nI_ge hi (by omega)), g_tick1 hp.1 hp.2.1 h5 h1 h8 1 hd (by omega) hp.2.2, b2_s, f_mean (by rw [sr_same]; exact ht.2.1) h1 h8, b2_s, nm_s, nm_s, nI_1, sr_same]
    rfl
  exact ⟨iter_emb (n := m) (t0 := (99, y)) (fun i p => (p.1, nI i, sr C 1 p.2)) (ahf N Y d) (fun i p => Tr N Y (K + i) p.2) (fun p => (p.1, nI m, sr C 1 p.2)) hm h (fun i p hi hp => hs i p hi hp) (fun p _ => by
      show S_X8_ahead_30 (nI m) (nI d) p.1 (nI m) (sr C 1 p.2) = _
      unfold S_X8_ahead_30
      rw [if_pos (nI_le (Nat.le_refl m) (by omega))]), fe_inv (f := ahf N Y d) (I := fun i p => Tr N Y (K + i) p.2) h fun i p hi hp => (hs i p hi hp).2⟩
/-! until it is warm -/
def waf (N Y d : Nat) (x : Int32) : Nat → Nat → Pg → Int32
  | 0, i, t => if avg Y t < x then -9 else nI i
  | k + 1, i, t => if avg Y t < x then waf N Y d x k (i + 1) (tk N Y d t) else nI i
theorem waf_c (h1 : 1 ≤ Y) (d : Nat) (x : Int32) : ∀ (k i : Nat) (y z : Pg), Agree N Y y z → waf N Y d x k i y = waf N Y d x k i z
  | 0, i, y, z, h => by
    unfold waf
    rw [avg_c h]
  | k + 1, i, y, z, h => by
    unfold waf
    rw [avg_c h, waf_c h1 d x k (i + 1) _ _ (h.k_tk h1 d)]
theorem c_warm (h1 : 1 ≤ Y) (h8 : Y ≤ 8) (h5 : N ≤ 5) {d : Nat} (hd : d < 1000) (x : Int32) (hK : K < 900000) : ∀ (k i : Nat) (t : Pg) (m : Nat), i + k = 200 → Tr N Y (K + i) t → ∃ o t', iter (fun w => S_X8_warmAfter_26 x (nI d) w.1 w.2) (k + 1 + m) (nI i, sr C 1 t) = some o ∧ Sum.elim (u2 fun (_ : Int32) C18 => b2 (F_X7_mean 1 C18) fun r28 C29 => (if r28 < x then some (Sum.inl (-9 : Int32), C29) else some (Sum.inl (200 : Int32), C29) : Option (Rs × Mem))) (fun y => some y) o = some (.inl (waf N Y d x k i t), sr C 1 t')
  | 0, i, t, m, hi, hT => by
    refine ⟨.inl (nI i, sr C 1 t), t, ?_, ?_⟩
    · rw [show 0 + 1 + m = m + 1 by omega]
      refine iter_e _ ?_ _
      show S_X8_warmAfter_26 x (nI d) (nI i) (sr C 1 t) = _
      unfold S_X8_warmAfter_26
      rw [if_pos (show (200 : Int32) ≤ nI i from nI_le (show 200 ≤ i by omega) (by omega))]
    · rw [el_l, u2_s, f_mean (by rw [sr_same]; exact hT.2.1) h1 h8, b2_s, sr_same]
      unfold waf
      have : i = 200 := by omega
      subst this
      split <;> rfl
  | k + 1, i, t, m, hi, hT => by
    have hs : S_X8_warmAfter_26 x (nI d) (nI i) (sr C 1 t) = if avg Y t < x then some (.inl (nI (i + 1), sr C 1 (tk N Y d t))) else some (.inr (.inr (.inl (nI i), sr C 1 t))) := by
      unfold S_X8_warmAfter_26
      rw [if_neg (show ¬ (200 : Int32) ≤ nI i from nI_ge (show i < 200 by omega) (by decide)), f_mean (by rw [sr_same]; exact hT.2.1) h1 h8, b2_s, sr_same, g_tick1 hT.1 hT.2.1 h5 h1 h8 1 hd (by omega) hT.2.2, b2_s, nm_s, nI_1]
    rw [show k + 1 + 1 + m = (k + 1 + m) + 1 by omega]
    unfold waf
    by_cases c : avg Y t < x
    · rw [if_pos c] at hs
      obtain ⟨o, t', e1, e2⟩ := c_warm h1 h8 h5 hd x hK k (i + 1) (tk N Y d t) m (by omega) (hT.tk h1 h8 h5 (by omega) d)
      rw [if_pos c]
      exact ⟨o, t', by rw [iter_s _ hs]; exact e1, e2⟩
    · rw [if_neg c] at hs
      rw [if_neg c]
      exact ⟨_, t, iter_e _ hs _, rfl⟩
end FORE

