/-! draws that it bears, the cheapest purge, simulations -/
section BEAR
variable {C : Mem} {K N Y : Nat}
def hof (N Y d : Nat) (x : Int32) : Nat → Pg → Bool
  | 0, _ => true
  | k + 1, t => if tk N Y d t (22 + (Y - 1)) < x then false else hof N Y d x k (tk N Y d t)
theorem hof_c (h1 : 1 ≤ Y) (d : Nat) (x : Int32) : ∀ (k : Nat) (y z : Pg), Agree N Y y z → hof N Y d x k y = hof N Y d x k z
  | 0, y, z, h => rfl
  | k + 1, y, z, h => by
    have g := h.k_tk h1 d
    unfold hof
    rw [g.2.1 (Y - 1) (by omega), hof_c h1 d x k _ _ g]
theorem c_stays (h1 : 1 ≤ Y) (h8 : Y ≤ 8) (h5 : N ≤ 5) {d n : Nat} (hd : d < 1000) (hn : n < 1000) (x : Int32) (hK : K + n < 900000) : ∀ (k i : Nat) (t : Pg) (m : Nat), i + k = n → Tr N Y (K + i) t → ∃ o t', iter (fun w => S_X8_staysHot_14 (nI n) (nI d) x w.1 w.2) (k + 1 + m) (nI i, sr C 1 t) = some o ∧ Sum.elim (u2 fun (_ : Int32) C8 => (some ((1 : Int32), C8) : Option (Int32 × Mem))) (fun y => some y) o = some ((if hof N Y d x k t then 1 else 0), sr C 1 t')
  | 0, i, t, m, hi, hT => by
    refine ⟨.inl (nI i, sr C 1 t), t, ?_, rfl⟩
    rw [show 0 + 1 + m = m + 1 by omega]
    refine iter_e _ ?_ _
    show S_X8_staysHot_14 (nI n) (nI d) x (nI i) (sr C 1 t) = _
    unfold S_X8_staysHot_14
    rw [if_pos (nI_le (show n ≤ i by omega) (by omega))]
  | k + 1, i, t, m, hi, hT => by
    have hT' := hT.tk h1 h8 h5 (by omega) d
    have hs : S_X8_staysHot_14 (nI n) (nI d) x (nI i) (sr C 1 t) = if x ≤ tk N Y d t (22 + (Y - 1)) then some (.inl (nI (i + 1), sr C 1 (tk N Y d t))) else some (.inr (.inr (0, sr C 1 (tk N Y d t)))) := by
      unfold S_X8_staysHot_14
      rw [if_neg (nI_ge (show i < n by omega) (by omega)), g_tick1 hT.1 hT.2.1 h5 h1 h8 1 hd (by omega) hT.2.2, b2_s, g_highest hT'.2.1 h1 h8, b2_s, nm_s, nI_1]
    rw [show k + 1 + 1 + m = (k + 1 + m) + 1 by omega]
    unfold hof
    by_cases c : tk N Y d t (22 + (Y - 1)) < x
    · rw [if_neg (fa_of_lt c).2.1] at hs
      rw [if_pos c]
      exact ⟨_, tk N Y d t, iter_e _ hs _, rfl⟩
    · rw [if_pos (fa_of_nlt c)] at hs
      obtain ⟨o, t', e1, e2⟩ := c_stays h1 h8 h5 hd hn x hK k (i + 1) (tk N Y d t) m (by omega) hT'
      rw [if_neg c]
      exact ⟨o, t', by rw [iter_s _ hs]; exact e1, e2⟩
/-- of the draws below k, the greatest that it bears -/
def brf (N Y n : Nat) (x : Int32) (y : Pg) : Nat → Int32
  | 0 => -9
  | k + 1 => if hof N Y k x n y then nI k else brf N Y n x y k
theorem brf_c (h1 : 1 ≤ Y) (n : Nat) (x : Int32) {y z : Pg} (h : Agree N Y y z) : ∀ k, brf N Y n x y k = brf N Y n x z k
  | 0 => rfl
  | k + 1 => by
    unfold brf
    rw [hof_c h1 k x n y z h, brf_c h1 n x h k]
theorem c_bear (h1 : 1 ≤ Y) (h8 : Y ≤ 8) (h5 : N ≤ 5) {n : Nat} (hn : n < 1000) (x : Int32) (hK : K + n < 900000) (c65 : C 0 65 = nI N) (c66 : C 0 66 = nI Y) (wf : WF N Y K (C 0)) : ∀ (k : Nat) (t : Pg) (m : Nat), k ≤ 6 → ∃ o t', iter (fun w => S_X8_bearable_17 (nI n) x w.1 w.2) (k + 1 + m) (nI k - 1, sr C 1 t) = some o ∧ Sum.elim (u2 fun (_ : Int32) C15 => (some (Sum.inl (-9 : Int32), C15) : Option (Rs × Mem))) (fun y => some y) o = some (.inl (brf N Y n x (C 0) k), sr C 1 t')
  | 0, t, m, hk => by
    refine ⟨.inl (nI 0 - 1, sr C 1 t), t, ?_, rfl⟩
    rw [show 0 + 1 + m = m + 1 by omega]
    refine iter_e _ ?_ _
    show S_X8_bearable_17 (nI n) x (nI 0 - 1) (sr C 1 t) = _
    unfold S_X8_bearable_17
    rw [if_pos (by decide)]
  | k + 1, t, m, hk => by
    rw [nI_pred, show k + 1 + 1 + m = (k + 1 + m) + 1 by omega]
    obtain ⟨y1, ey, s65, s66, sw, sa⟩ := t_c (C := sr C 1 t) (K := K) (q := 1) (q0 := 0) (by decide) (by rw [sr_ne _ _ (show 0 ≠ 1 by decide)]; exact c65) (by rw [sr_ne _ _ (show 0 ≠ 1 by decide)]; exact c66) h5 h8 (by rw [sr_ne _ _ (show 0 ≠ 1 by decide)]; exact wf)
    rw [sr_ne _ _ (show 0 ≠ 1 by decide)] at sa
    rw [sr_sr] at ey
    obtain ⟨o, t', eo, ep⟩ := c_stays (C := C) h1 h8 h5 (d := k) (n := n) (by omega) hn x hK n 0 y1 (999 - n) (by omega) (⟨s65, s66, sw⟩ : Tr N Y (K + 0) y1)
    have eo' : iter (fun z => S_X8_staysHot_14 (nI n) (nI k) x z.1 z.2) fuel ((0 : Int32), sr C 1 y1) = some o := by
      rw [show fuel = n + 1 + (999 - n) by unfold fuel; omega]
      exact eo
    have hst : F_X8_staysHot (nI n) (nI k) x (sr C 1 t) = some ((if hof N Y k x n (C 0) then 1 else 0), sr C 1 t') := by
      unfold F_X8_staysHot
      rw [ey, b2_s, eo', b1_s, ep, hof_c h1 k x n y1 (C 0) sa]
    have hs : S_X8_bearable_17 (nI n) x (nI k) (sr C 1 t) = if hof N Y k x n (C 0) then some (.inr (.inr (.inl (nI k), sr C 1 t'))) else some (.inl (nI k - 1, sr C 1 t')) := by
      unfold S_X8_bearable_17
      rw [if_neg (nI_pos (by omega)), hst, b2_s]
      cases hof N Y k x n (C 0) with
      | true => rw [if_pos rfl, if_neg (by decide), if_pos rfl]
      | false => rw [if_pos (show (if false = true then (1 : Int32) else 0) = 0 by decide), if_neg (by decide), nm_s, Int32.sub_eq_add_neg]
    unfold brf
    cases hc : hof N Y k x n (C 0) with
    | true =>
      rw [hc, if_pos rfl] at hs
      rw [if_pos rfl]
      exact ⟨_, t', iter_e _ hs _, rfl⟩
    | false =>
      rw [hc, if_neg (by decide)] at hs
      obtain ⟨o2, t2, e1, e2⟩ := c_bear h1 h8 h5 hn x hK c65 c66 wf k t' m (by omega)
      rw [if_neg (by decide)]
      exact ⟨o2, t2, by rw [iter_s _ hs]; exact e1, e2⟩
/-! the cheapest purge -/
theorem fuS_b {y : Pg} (hK : K < 1000000) (h5 : N ≤ 5) (h : WF N Y K y) : 0 ≤ (fuS N y).toInt ∧ (fuS N y).toInt ≤ 150 * K := by
  have key : ∀ n, n ≤ N → 0 ≤ (sm (fun i => y (30 + 7 * i + 6)) n).toInt ∧ (sm (fun i => y (30 + 7 * i + 6)) n).toInt ≤ 30 * K * n := fun n => by
    induction n with
    | zero => intro _; exact ⟨by show 0 ≤ (0 : Int32).toInt; decide, by show (0 : Int32).toInt ≤ _; have : (0 : Int32).toInt = 0 := rfl; omega⟩
    | succ n ih =>
      intro hn
      have a := ih (by omega)
      have b := (h.2.2.2.2.2.2 n (by omega)).2.2.2.2.2.2
      have c : (30 * (K : Int) * ((n : Nat) : Int)) ≤ 30 * K * 5 := Int.mul_le_mul_of_nonneg_left (by omega) (by omega)
      have e : (sm (fun i => y (30 + 7 * i + 6)) n + y (30 + 7 * n + 6)).toInt = (sm (fun i => y (30 + 7 * i + 6)) n).toInt + (y (30 + 7 * n + 6)).toInt := i_add (by omega) (by omega)
      show 0 ≤ (sm (fun i => y (30 + 7 * i + 6)) n + y (30 + 7 * n + 6)).toInt ∧ (sm (fun i => y (30 + 7 * i + 6)) n + y (30 + 7 * n + 6)).toInt ≤ 30 * K * ((n + 1 : Nat) : Int)
      rw [e]
      have e2 : 30 * (K : Int) * ((n + 1 : Nat) : Int) = 30 * K * n + 30 * K := by
        rw [Int.natCast_add, Int.mul_add]
        omega
      omega
  have k := key N (Nat.le_refl N)
  have c : (30 * (K : Int) * ((N : Nat) : Int)) ≤ 30 * K * 5 := Int.mul_le_mul_of_nonneg_left (by omega) (by omega)
  unfold fuS
  omega
def cpf (N Y d m : Nat) (y : Pg) (i : Nat) : Int32 := fuS N (tkn N Y d m (up y 2 (nI (i + 1))))
def cpC (N Y d m : Nat) (y : Pg) (i : Nat) (p : Int32 × Int32) : Int32 × Int32 := if p.1 = -9 then (nI (i + 1), cpf N Y d m y i) else if p.2 ≤ cpf N Y d m y i then p else (nI (i + 1), cpf N Y d m y i)
def cpM (N Y d m : Nat) (y : Pg) (i : Nat) (p : Int32 × Int32) : Int32 × Int32 := if p.1 = 0 then (nI (i + 1), cpf N Y d m y i) else if p.2 ≤ cpf N Y d m y i then p else (nI (i + 1), cpf N Y d m y i)
theorem nI_ne9 {n : Nat} (h : n < 1000) : nI n ≠ -9 := by
  intro e
  have h1 := congrArg Int32.toInt e
  rw [ti n (by omega)] at h1
  have h2 : (-9 : Int32).toInt = -9 := rfl
  omega
theorem WF.p2 {y : Pg} (h : WF N Y K y) {i : Nat} (hi : i < 5) : WF N Y K (up y 2 (nI (i + 1))) := by
  obtain ⟨g1, g2, g3, g4, g5, g6, g7⟩ := h
  refine ⟨fun j hj => by rw [up_ne _ _ (by omega)]; exact g1 j hj, by rw [up_ne _ _ (by decide)]; exact g2, by rw [up_ne _ _ (by decide)]; exact g3, ?_, by rw [up_ne _ _ (by decide)]; exact g5, by rw [up_ne _ _ (by decide)]; exact g6, fun k hk => (g7 k hk).cg fun f hf => up_ne _ _ (by omega)⟩
  rw [up_same, ti _ (by omega)]
  omega
theorem cpf_c (h1 : 1 ≤ Y) {y z : Pg} (h : Agree N Y y z) (d m i : Nat) : cpf N Y d m y i = cpf N Y d m z i := by
  have g : Agree N Y (up y 2 (nI (i + 1))) (up z 2 (nI (i + 1))) := h.put rfl
  exact fuS_c (g.k_tkn h1 d m)
theorem cp_same (h1 : 1 ≤ Y) {y z : Pg} {d m : Nat} (h : Agree N Y y z) : (fe (cpC N Y d m y) 5 (-9, 0)).1 = (fe (cpM N Y d m z) 5 (0, 0)).1 := by
  have key := fe_rel (f := cpC N Y d m y) (g := cpM N Y d m z) (t := (-9, 0)) (u := (0, 0)) (R := fun i p q => i = 0 ∧ p = (-9, 0) ∧ q = (0, 0) ∨ p = q ∧ q.1 ≠ 0 ∧ q.1 ≠ -9) (n := 5) (Or.inl ⟨rfl, rfl, rfl⟩) (fun i p q hi hR => by
    right
    have e := cpf_c h1 h d m i
    have hne : nI (i + 1) ≠ 0 := nI_ne0 (by omega) (by omega)
    have hn9 : nI (i + 1) ≠ -9 := nI_ne9 (by omega)
    rcases hR with ⟨-, rfl, rfl⟩ | ⟨rfl, hq, hq9⟩
    · have c : cpC N Y d m y i (-9, 0) = (nI (i + 1), cpf N Y d m y i) := if_pos rfl
      have c2 : cpM N Y d m z i (0, 0) = (nI (i + 1), cpf N Y d m z i) := if_pos rfl
      rw [c, c2, e]
      exact ⟨rfl, hne, hn9⟩
    · have c : cpC N Y d m y i p = if p.2 ≤ cpf N Y d m y i then p else (nI (i + 1), cpf N Y d m y i) := if_neg hq9
      have c2 : cpM N Y d m z i p = if p.2 ≤ cpf N Y d m z i then p else (nI (i + 1), cpf N Y d m z i) := if_neg hq
      rw [c, c2, e]
      refine ⟨rfl, ?_⟩
      split
      · exact ⟨hq, hq9⟩
      · exact ⟨hne, hn9⟩)
  rcases key with ⟨h, -⟩ | ⟨h, -⟩
  · exact absurd h (by decide)
  · rw [h]
theorem iter_ex0 {σ ρ τ π : Type} {step : σ → Option (σ ⊕ ρ)} {e : Nat → τ → π → σ} {f : Nat → τ → τ} {t : τ} {p : π} : ∀ (n : Nat), (∀ i t p, i < n → ∃ p', step (e i t p) = some (.inl (e (i + 1) (f i t) p'))) → ∃ p', ∀ m, iter step (n + m) (e 0 t p) = iter step m (e n (fe f n t) p')
  | 0, _ => ⟨p, fun m => by rw [Nat.zero_add]; rfl⟩
  | n + 1, h => by
    obtain ⟨q, hq⟩ := iter_ex0 (t := t) (p := p) n fun i t p hi => h i t p (by omega)
    obtain ⟨q', hq'⟩ := h n (fe f n t) q (Nat.lt_succ_self n)
    refine ⟨q', fun m => ?_⟩
    rw [show n + 1 + m = n + (m + 1) by omega, hq]
    exact iter_s _ hq' m
theorem iter_ex {σ ρ τ π : Type} {step : σ → Option (σ ⊕ ρ)} (e : Nat → τ → π → σ) (f : Nat → τ → τ) (r : τ → π → ρ) {n : Nat} (hn : n < 1000) (t : τ) (p : π) (hs : ∀ i t p, i < n → ∃ p', step (e i t p) = some (.inl (e (i + 1) (f i t) p'))) (he : ∀ t p, step (e n t p) = some (.inr (r t p))) : ∃ p', iter step fuel (e 0 t p) = some (r (fe f n t) p') := by
  obtain ⟨q, hq⟩ := iter_ex0 (t := t) (p := p) n hs
  refine ⟨q, ?_⟩
  rw [show fuel = n + ((999 - n) + 1) by unfold fuel; omega, hq]
  exact iter_e _ (he _ _) _
theorem c_cheap (h1 : 1 ≤ Y) (h8 : Y ≤ 8) (h5 : N ≤ 5) {d n : Nat} (hd : d < 1000) (hn : n < 1000) (hK : K + n < 900000) (c65 : C 0 65 = nI N) (c66 : C 0 66 = nI Y) (wf : WF N Y K (C 0)) : ∃ t' w1 w2, iter (fun z => S_X8_cheapestPurge_18 (nI n) (nI d) z.1 z.2.1 z.2.2.1 z.2.2.2) fuel ((-9 : Int32), (0 : Int32), (1 : Int32), C) = some ((fe (cpC N Y d n (C 0)) 5 (-9, 0)).1, w1, w2, sr C 1 t') := by
  have hs : ∀ (i : Nat) (b l : Int32) (t : Pg), i < 5 → ∃ t', S_X8_cheapestPurge_18 (nI n) (nI d) b l (nI (i + 1)) (sr C 1 t) = some (.inl ((cpC N Y d n (C 0) i (b, l)).1, (cpC N Y d n (C 0) i (b, l)).2, nI (i + 1 + 1), sr C 1 t')) := fun i b l t hi => by
    obtain ⟨y1, ey, s65, s66, sw, sa⟩ := t_c (C := sr C 1 t) (K := K) (q := 1) (q0 := 0) (by decide) (by rw [sr_ne _ _ (show 0 ≠ 1 by decide)]; exact c65) (by rw [sr_ne _ _ (show 0 ≠ 1 by decide)]; exact c66) h5 h8 (by rw [sr_ne _ _ (show 0 ≠ 1 by decide)]; exact wf)
    rw [sr_ne _ _ (show 0 ≠ 1 by decide)] at sa
    rw [sr_sr] at ey
    refine ⟨tkn N Y d n (up y1 2 (nI (i + 1))), ?_⟩
    have e : cpf N Y d n (C 0) i = cpf N Y d n y1 i := cpf_c h1 sa.sy d n i
    have u65 : (up y1 2 (nI (i + 1))) 65 = nI N := by rw [up_ne _ _ (by decide)]; exact s65
    have u66 : (up y1 2 (nI (i + 1))) 66 = nI Y := by rw [up_ne _ _ (by decide)]; exact s66
    unfold S_X8_cheapestPurge_18 cpC
    rw [if_neg (show ¬ kMost ((2 : Int32)).toNatClampNeg < nI (i + 1) from nI_nlt (show i + 1 ≤ 5 by omega) (by decide)), ey, b2_s, nm_s, cl_2, mu_sr, g_passTicks u65 u66 h5 h1 h8 1 hd hn (by omega) (sw.p2 hi), b2_s, f_fuel (by rw [sr_same, tkn_hi d n _ h1 h8 h5 (by decide)]; exact u65) h5, b2_s, sr_same, e]
    show (if b = -9 then _ else if l ≤ cpf N Y d n y1 i then _ else _) = _
    by_cases cb : b = -9
    · rw [if_pos cb, if_pos cb, nm_s, nI_1]
      rfl
    · rw [if_neg cb, if_neg cb]
      by_cases c : l ≤ cpf N Y d n y1 i
      · rw [if_pos c, if_pos c, nm_s, nI_1]
      · rw [if_neg c, if_neg c, nm_s, nI_1]
        rfl
  obtain ⟨t', e⟩ := iter_ex (step := fun z => S_X8_cheapestPurge_18 (nI n) (nI d) z.1 z.2.1 z.2.2.1 z.2.2.2) (fun i (p : Int32 × Int32) (t : Pg) => (p.1, p.2, nI (i + 1), sr C 1 t)) (cpC N Y d n (C 0)) (fun p t => (p.1, p.2, nI 6, sr C 1 t)) (n := 5) (by decide) (-9, 0) (C 1) (fun i p t hi => hs i p.1 p.2 t hi) (fun p t => by
    show S_X8_cheapestPurge_18 (nI n) (nI d) p.1 p.2 (nI 6) (sr C 1 t) = _
    unfold S_X8_cheapestPurge_18
    rw [if_pos (by decide)])
  rw [sr_self] at e
  exact ⟨t', _, _, e⟩
end BEAR

