/-! one tick: the accounts of heat, the order of the layers -/
section HEAT
variable {N Y K : Nat} {y t u : Pg}
theorem sm_up (g : Nat → Int32) (v : Int32) : ∀ n k : Nat, k < n → sm (fun j => if j = k then v else g j) n = sm g n + (v - g k)
  | 0, _, h => absurd h (Nat.not_lt_zero _)
  | n + 1, k, h => by
    show sm (fun j => if j = k then v else g j) n + (if n = k then v else g n) = sm g n + g n + (v - g k)
    by_cases e : n = k
    · subst e
      rw [if_pos rfl, sm_cong (g := g) (fun i hi => if_neg (by omega))]
      grind
    · rw [if_neg e, sm_up g v n k (by omega)]
      grind
def lay (Y : Nat) (t : Pg) : Int32 := sm (fun j => t (22 + j)) Y
theorem lay_up {k : Nat} (hk : k < Y) (v : Int32) : lay Y (up t (22 + k) v) = lay Y t + (v - t (22 + k)) := by
  unfold lay
  rw [← sm_up (fun j => t (22 + j)) v Y k hk]
  exact sm_cong fun j hj => by
    show up t (22 + k) v (22 + j) = if j = k then v else t (22 + j)
    unfold up
    by_cases e : j = k
    · rw [if_pos (by omega), if_pos e]
    · rw [if_neg (by omega), if_neg e]
theorem lay_o {k : Nat} (hk : k < 22 ∨ 22 + Y ≤ k) (v : Int32) : lay Y (up t k v) = lay Y t := sm_cong fun j hj => up_ne _ _ (by omega)
/-- what stays through a tick -/
def En (Y : Nat) (t : Pg) : Int32 := lay Y t + t 16 + t 15 - t 13 - t 14
theorem En_cg (h8 : Y ≤ 8) (h : ∀ a, (13 ≤ a ∧ a ≤ 16) ∨ (22 ≤ a ∧ a < 30) → t a = u a) : En Y t = En Y u := by
  unfold En lay
  rw [h 13 (by decide), h 14 (by decide), h 15 (by decide), h 16 (by decide), sm_cong (g := fun j => u (22 + j)) (fun j hj => h _ (by omega))]
theorem En_lay {k : Nat} (hk : k < Y) (v : Int32) : En Y (inc t (22 + k) v) = En Y t + v := by
  unfold En inc
  rw [lay_up hk, up_ne _ _ (by omega), up_ne _ _ (by omega), up_ne _ _ (by omega), up_ne _ _ (by omega)]
  grind
theorem En_16 (v : Int32) : En Y (inc t 16 v) = En Y t + v := by
  unfold En inc
  rw [lay_o (by omega), up_same, up_ne _ _ (by decide), up_ne _ _ (by decide), up_ne _ _ (by decide)]
  grind
theorem En_15 (v : Int32) : En Y (inc t 15 v) = En Y t + v := by
  unfold En inc
  rw [lay_o (by omega), up_same, up_ne _ _ (by decide), up_ne _ _ (by decide), up_ne _ _ (by decide)]
  grind
theorem En_13 (v : Int32) : En Y (inc t 13 v) = En Y t - v := by
  unfold En inc
  rw [lay_o (by omega), up_same, up_ne _ _ (by decide), up_ne _ _ (by decide), up_ne _ _ (by decide)]
  grind
theorem En_14 (v : Int32) : En Y (inc t 14 v) = En Y t - v := by
  unfold En inc
  rw [lay_o (by omega), up_same, up_ne _ _ (by decide), up_ne _ _ (by decide), up_ne _ _ (by decide)]
  grind
theorem En_ht1 (h1 : 1 ≤ Y) : En Y (ht1 Y t) = En Y t := by
  unfold ht1
  split
  · rw [En_13, En_16]
    grind
  · rw [En_13, En_lay (lo_spec Y h1 t).1]
    grind
theorem En_htn (h1 : 1 ≤ Y) (n : Nat) : En Y (htn Y n t) = En Y t := fe_inv (I := fun _ (u : Pg) => En Y u = En Y t) rfl fun i u _ e => (En_ht1 h1).trans e
theorem En_wka (h1 : 1 ≤ Y) (h8 : Y ≤ 8) : En Y (wka N Y t) = En Y t := fe_inv (I := fun _ (u : Pg) => En Y u = En Y t) rfl fun i u _ e => by
  show En Y (htn Y _ (wkP u i)) = _
  rw [En_htn h1, ← e]
  exact En_cg h8 fun a ha => wkP_out (by omega)
theorem En_clf {j : Nat} (hj : j < Y) : En Y (clf j t) = En Y t := by
  unfold clf
  split
  · rfl
  · rw [En_16, En_lay hj]
    grind
theorem ins_sum (v : Int32) : ∀ (p : Nat) (t : Pg), p < Y → lay Y (ins v p t).2 - (ins v p t).2 (22 + (ins v p t).1) = lay Y t - t (22 + p)
  | 0, _, _ => rfl
  | p + 1, t, h => by
    unfold ins
    split
    · rfl
    · rw [ins_sum v p _ (by omega), lay_up h, up_ne _ _ (by omega)]
      grind
theorem lay_srf {i : Nat} (hi : i + 1 < Y) : lay Y (srf i t) = lay Y t := by
  have hl := ins_le (t (22 + (i + 1))) (i + 1) t
  have hs := ins_sum (t (22 + (i + 1))) (i + 1) t hi
  unfold srf
  rw [lay_up (by omega)]
  grind
theorem ins_lo (v : Int32) {k : Nat} (hk : k < 22) : ∀ (p : Nat) (t : Pg), (ins v p t).2 k = t k
  | 0, _ => rfl
  | p + 1, t => by
    unfold ins
    split
    · rfl
    · rw [ins_lo v hk p, up_ne _ _ (by omega)]
theorem srf_lo (i : Nat) {k : Nat} (hk : k < 22) : srf i t k = t k := by
  unfold srf
  rw [up_ne _ _ (by omega), ins_lo _ hk]
theorem En_srf {i : Nat} (hi : i + 1 < Y) : En Y (srf i t) = En Y t := by
  unfold En
  rw [lay_srf hi, srf_lo i (by decide), srf_lo i (by decide), srf_lo i (by decide), srf_lo i (by decide)]
theorem En_stl : En Y (stl Y t) = En Y t := by
  unfold stl
  have e1 : En Y (fe clf Y t) = En Y t := fe_inv (I := fun _ (u : Pg) => En Y u = En Y t) rfl fun i u hi e => (En_clf hi).trans e
  exact (fe_inv (f := srf) (I := fun _ (u : Pg) => En Y u = En Y (fe clf Y t)) (n := Y - 1) rfl fun i u hi e => (En_srf (by omega)).trans e).trans e1
/-! draws -/
theorem shf_sum (h1 : 1 ≤ Y) : ∀ n : Nat, n ≤ Y - 1 → lay Y (fe (shf Y) n t) - (fe (shf Y) n t) (22 + (Y - 1 - n)) = lay Y t - t (22 + (Y - 1))
  | 0, _ => rfl
  | n + 1, h => by
    have ih := shf_sum h1 n (by omega)
    show lay Y (shf Y n (fe (shf Y) n t)) - shf Y n (fe (shf Y) n t) (22 + (Y - 1 - (n + 1))) = _
    generalize fe (shf Y) n t = w at ih ⊢
    unfold shf
    rw [lay_up (show Y - 1 - n < Y by omega), up_ne _ _ (by omega), show Y - 1 - n - 1 = Y - 1 - (n + 1) by omega]
    grind
theorem shf_lo (i : Nat) {k : Nat} (hk : k < 22) : shf Y i t k = t k := up_ne _ _ (by omega)
theorem shn_lo (n : Nat) {k : Nat} (hk : k < 22) : fe (shf Y) n t k = t k := fe_inv (I := fun _ (u : Pg) => u k = t k) rfl fun i u _ e => (shf_lo i hk).trans e
theorem En_dr1 (h1 : 1 ≤ Y) : En Y (dr1 Y t) = En Y t - t (22 + (Y - 1)) := by
  have hs := shf_sum (t := t) h1 (Y - 1) (Nat.le_refl _)
  rw [Nat.sub_self] at hs
  have e13 := shn_lo (Y := Y) (t := t) (Y - 1) (show 13 < 22 by decide)
  have e14 := shn_lo (Y := Y) (t := t) (Y - 1) (show 14 < 22 by decide)
  have e15 := shn_lo (Y := Y) (t := t) (Y - 1) (show 15 < 22 by decide)
  have e16 := shn_lo (Y := Y) (t := t) (Y - 1) (show 16 < 22 by decide)
  unfold dr1
  generalize fe (shf Y) (Y - 1) t = w at hs e13 e14 e15 e16 ⊢
  have k17 : ∀ v : Pg, En Y (inc v 17 1) = En Y v := fun v => by
    unfold En inc
    rw [lay_o (by omega), up_ne _ _ (by decide), up_ne _ _ (by decide), up_ne _ _ (by decide), up_ne _ _ (by decide)]
  rw [k17, En_14]
  unfold En
  rw [show (22 : Nat) = 22 + 0 from rfl, lay_up (show 0 < Y by omega), up_ne _ _ (by decide), up_ne _ _ (by decide), up_ne _ _ (by decide), up_ne _ _ (by decide), e13, e14, e15, e16]
  grind
theorem En_dl (h1 : 1 ≤ Y) (d : Nat) : En Y (dl Y d y) = En Y y := by
  have k : En Y (dlv Y d y).2 = En Y y - (dlv Y d y).1 := fe_inv (f := dlf Y) (I := fun _ (p : Int32 × Pg) => En Y p.2 = En Y y - p.1) (t := ((0 : Int32), y)) (by
      show En Y y = En Y y - 0
      grind) fun i p _ e => by
    show En Y (dr1 Y p.2) = En Y y - (p.1 + p.2 (22 + (Y - 1)))
    rw [En_dr1 h1, e]
    grind
  unfold dl
  rw [En_15, k]
  grind
theorem En_kb : En Y (kb y) = En Y y := by
  unfold kb
  split
  · unfold En
    rw [lay_o (by omega), up_ne _ _ (by decide), up_ne _ _ (by decide), up_ne _ _ (by decide), up_ne _ _ (by decide)]
  · rfl
/-- the control leaves what isn't a boiler's or the reason's -/
theorem ctl_lo {k : Nat} (h7 : k ≠ 7) (hk : k < 30) : ctl N Y y k = y k := by
  rcases ctl_c N Y y with ⟨b, -, -, e⟩ | ⟨b, -, -, e⟩ | ⟨r, e⟩
  · rw [e, stt_out _ (by omega), up_ne _ _ h7]
  · rw [e, lv_out _ (by omega), up_ne _ _ h7]
  · rw [e, up_ne _ _ h7]
theorem En_tk (h1 : 1 ≤ Y) (h8 : Y ≤ 8) (d : Nat) : En Y (tk N Y d y) = En Y y := by
  have e : En Y (tk N Y d y) = En Y (stl Y (wka N Y (ctl N Y (kb (dl Y d y))))) := En_cg h8 fun a ha => by
    unfold tk
    rw [inc_ne _ _ (by omega), klT_hi _ _ (by omega)]
  rw [e, En_stl, En_wka h1 h8, En_cg (u := kb (dl Y d y)) h8 fun a ha => ctl_lo (by omega) (by omega), En_kb, En_dl h1]
/-! given heat -/
theorem ht1_13 (t : Pg) : ht1 Y t 13 = t 13 + 1 := by
  unfold ht1
  split
  · rw [inc_same, inc_ne _ _ (by decide)]
  · rw [inc_same, inc_ne _ _ (by omega)]
theorem htn_13 (t : Pg) : ∀ n : Nat, htn Y n t 13 = t 13 + nI n
  | 0 => by show t 13 = t 13 + 0; rw [Int32.add_zero]
  | n + 1 => by rw [htn_s, ht1_13, htn_13 t n, ← nI_1, Int32.add_assoc]
theorem wkV_cg {i : Nat} (h : ∀ f, f < 7 → t (30 + 7 * i + f) = y (30 + 7 * i + f)) : wkV t i = wkV y i := by
  unfold wkV
  rw [h 2 (by decide), show t (30 + 7 * i) = y (30 + 7 * i) from h 0 (by decide)]
theorem wka_13 (h1 : 1 ≤ Y) (h8 : Y ≤ 8) (w : WF N Y K y) : wka N Y y 13 = y 13 + sm (fun i => wkV y i) N := by
  have key : ∀ n : Nat, n ≤ N → fe (wk1 Y) n y 13 = y 13 + sm (fun i => wkV y i) n ∧ ∀ i, n ≤ i → i < N → ∀ g, g < 7 → fe (wk1 Y) n y (30 + 7 * i + g) = y (30 + 7 * i + g) := by
    intro n
    induction n with
    | zero => exact fun _ => ⟨by show y 13 = y 13 + 0; rw [Int32.add_zero], fun _ _ _ _ _ => rfl⟩
    | succ n ih =>
      intro hn
      obtain ⟨k1, k2⟩ := ih (by omega)
      refine ⟨?_, fun i hi hiN g hg => ?_⟩
      · have hv := wkV_cg (fun g hg => k2 n (Nat.le_refl _) (by omega) g hg)
        obtain ⟨m, hm, em⟩ := wkV_n (w.2.2.2.2.2.2 n (by omega))
        rw [fe_s]
        show htn Y (wkV (fe (wk1 Y) n y) n).toNatClampNeg (wkP (fe (wk1 Y) n y) n) 13 = y 13 + (sm (fun i => wkV y i) n + wkV y n)
        rw [htn_13, wkP_out (by omega), k1, hv, em, nI_clamp (by omega), Int32.add_assoc]
      · rw [fe_s, wk1_out h1 (by omega) (by omega)]
        exact k2 i (by omega) hiN g hg
  exact (key N (Nat.le_refl _)).1
theorem clf_lo (j : Nat) {k : Nat} (hk : k < 22) (h16 : k ≠ 16) : clf j t k = t k := by
  unfold clf
  split
  · rfl
  · rw [inc_ne _ _ h16, inc_ne _ _ (by omega)]
theorem stl_lo {k : Nat} (hk : k < 22) (h16 : k ≠ 16) : stl Y t k = t k := by
  unfold stl
  have e1 : fe clf Y t k = t k := fe_inv (I := fun _ (u : Pg) => u k = t k) rfl fun i u hi e => (clf_lo i hk h16).trans e
  exact (fe_inv (f := srf) (I := fun _ (u : Pg) => u k = fe clf Y t k) (n := Y - 1) rfl fun i u hi e => (srf_lo i hk).trans e).trans e1
theorem wka_lo (h1 : 1 ≤ Y) {k : Nat} (hk : k < 22) (h13 : k ≠ 13) (h16 : k ≠ 16) : wka N Y t k = t k := fe_inv (I := fun _ (u : Pg) => u k = t k) rfl fun i u hi e => (wk1_out h1 (by omega) (by omega)).trans e
theorem dr1_lo {k : Nat} (hk : k < 22) (h14 : k ≠ 14) (h17 : k ≠ 17) : dr1 Y t k = t k := by
  unfold dr1
  rw [inc_ne _ _ h17, inc_ne _ _ h14, up_ne _ _ (by omega), shn_lo _ hk]
theorem dl_lo (d : Nat) {k : Nat} (hk : k < 22) (h14 : k ≠ 14) (h15 : k ≠ 15) (h17 : k ≠ 17) : dl Y d y k = y k := by
  unfold dl
  rw [inc_ne _ _ h15]
  exact fe_inv (f := dlf Y) (I := fun _ (p : Int32 × Pg) => p.2 k = y k) (t := ((0 : Int32), y)) rfl fun i p _ e => (dr1_lo hk h14 h17).trans e
theorem dl_14 (d : Nat) : dl Y d y 14 = y 14 + nI (10 * d) ∧ dl Y d y 17 = y 17 + nI d := by
  unfold dl
  rw [inc_ne _ _ (by decide), inc_ne _ _ (by decide)]
  exact fe_inv (f := dlf Y) (I := fun n (p : Int32 × Pg) => p.2 14 = y 14 + nI (10 * n) ∧ p.2 17 = y 17 + nI n) (t := ((0 : Int32), y)) ⟨(Int32.add_zero _).symm, (Int32.add_zero _).symm⟩ fun i p _ e => by
    refine ⟨?_, ?_⟩
    · show dr1 Y p.2 14 = _
      unfold dr1
      rw [inc_ne _ _ (by decide), inc_same, up_ne _ _ (by decide), shn_lo _ (by decide), e.1, show 10 * (i + 1) = 10 * i + 10 by omega, ← nI_add (10 * i) 10, Int32.add_assoc]
      rfl
    · show dr1 Y p.2 17 = _
      unfold dr1
      rw [inc_same, inc_ne _ _ (by decide), up_ne _ _ (by decide), shn_lo _ (by decide), e.2, ← nI_1, Int32.add_assoc]
/-! the order -/
def So (n : Nat) (t : Pg) : Prop := ∀ j, j < n → (t (22 + j)).toInt ≤ (t (22 + (j + 1))).toInt
theorem So_srf {i : Nat} (h : So i t) : So (i + 1) (srf i t) := by
  obtain ⟨p, e, hp, hlt, hle⟩ := srf_spec i t
  have mono : ∀ a b, a ≤ b → b ≤ i → (t (22 + a)).toInt ≤ (t (22 + b)).toInt := by
    intro a b hab hb
    induction b with
    | zero => rw [show a = 0 by omega]; exact Int.le_refl _
    | succ b ih =>
      by_cases c : a = b + 1
      · rw [c]; exact Int.le_refl _
      · exact Int.le_trans (ih (by omega) (by omega)) (h b (by omega))
  intro j hj
  rw [e]
  show (if 22 + j = 22 + p then t (22 + (i + 1)) else if 22 + p < 22 + j ∧ 22 + j ≤ 22 + (i + 1) then t (22 + j - 1) else t (22 + j)).toInt ≤ (if 22 + (j + 1) = 22 + p then t (22 + (i + 1)) else if 22 + p < 22 + (j + 1) ∧ 22 + (j + 1) ≤ 22 + (i + 1) then t (22 + (j + 1) - 1) else t (22 + (j + 1))).toInt
  rcases Nat.lt_trichotomy j p with c | c | c
  · rw [if_neg (by omega), if_neg (by omega)]
    by_cases c2 : j + 1 = p
    · rw [if_pos (by omega)]
      rcases hle with q | q
      · omega
      · rw [show p - 1 = j by omega] at q; exact q
    · rw [if_neg (by omega), if_neg (by omega)]
      exact h j (by omega)
  · subst c
    rw [if_pos rfl, if_neg (by omega), if_pos (by omega), show 22 + (j + 1) - 1 = 22 + j by omega]
    exact Int.le_of_lt (hlt j (Nat.le_refl _) (by omega))
  · rw [if_neg (by omega), if_pos (by omega), if_neg (by omega), if_pos (by omega), show 22 + (j + 1) - 1 = 22 + j by omega, show 22 + j - 1 = 22 + (j - 1) by omega]
    exact mono (j - 1) j (by omega) (by omega)
theorem So_stl : So (Y - 1) (stl Y t) := fe_inv (f := srf) (I := fun n (u : Pg) => So n u) (t := fe clf Y t) (n := Y - 1) (fun j hj => absurd hj (Nat.not_lt_zero _)) fun i u _ h => So_srf h
theorem So_tk (d : Nat) {j : Nat} (hj : j + 1 < Y) : (tk N Y d y (22 + j)).toInt ≤ (tk N Y d y (22 + (j + 1))).toInt := by
  unfold tk
  rw [inc_ne _ _ (by omega), inc_ne _ _ (by omega), klT_hi _ _ (by omega), klT_hi _ _ (by omega)]
  exact So_stl j (by omega)
/-! the places of the whole after a tick -/
theorem tk_13 (h1 : 1 ≤ Y) (h8 : Y ≤ 8) (d : Nat) (w : WF N Y K (wD N Y d y)) : tk N Y d y 13 = y 13 + sm (fun i => wkV (wD N Y d y) i) N := by
  unfold tk
  rw [inc_ne _ _ (by decide), klT_hi _ _ (by decide), stl_lo (by decide) (by decide)]
  show wka N Y (wD N Y d y) 13 = _
  rw [wka_13 h1 h8 w]
  unfold wD wC
  rw [ctl_lo (by decide) (by decide), kb_hi _ (by decide), dl_lo d (by decide) (by decide) (by decide) (by decide)]
theorem tk_14 (h1 : 1 ≤ Y) (d : Nat) : tk N Y d y 14 = y 14 + nI (10 * d) ∧ tk N Y d y 17 = y 17 + nI d := by
  unfold tk
  rw [inc_ne _ _ (by decide), inc_ne _ _ (by decide), klT_hi _ _ (by decide), klT_hi _ _ (by decide), stl_lo (by decide) (by decide), stl_lo (by decide) (by decide), wka_lo h1 (by decide) (by decide) (by decide), wka_lo h1 (by decide) (by decide) (by decide), ctl_lo (by decide) (by decide), ctl_lo (by decide) (by decide), kb_hi _ (by decide), kb_hi _ (by decide)]
  exact dl_14 d
end HEAT
