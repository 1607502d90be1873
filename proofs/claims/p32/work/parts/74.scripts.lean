/-! scripts -/
section SCRIPTS
variable {C : Mem} {N Y K : Nat} {y z : Pg}
theorem nn {x : Int32} {b : Nat} (h0 : 0 ≤ x.toInt) (h : x.toInt ≤ b) : ∃ k, k ≤ b ∧ x = nI k := by
  have := fb_rng x
  exact ⟨x.toInt.toNat, by omega, i_eq (by rw [ti _ (by omega)]; omega)⟩
theorem av_n (h1 : 1 ≤ Y) (h8 : Y ≤ 8) (w : Tm Y z) : ∃ q, q ≤ 99 ∧ avg Y z = nI q := by
  have key : ∀ n, n ≤ Y → ∃ S, S ≤ 99 * n ∧ sm (fun j => z (22 + j)) n = nI S := fun n => by
    induction n with
    | zero => intro _; exact ⟨0, by omega, rfl⟩
    | succ n ih =>
      intro hn
      obtain ⟨S, hS, e⟩ := ih (by omega)
      obtain ⟨k, hk, ek⟩ := nn (b := 99) (w n (by omega)).1 (w n (by omega)).2
      refine ⟨S + k, by omega, ?_⟩
      show sm (fun j => z (22 + j)) n + z (22 + n) = _
      rw [e, ek, nI_ad]
  obtain ⟨S, hS, e⟩ := key Y (Nat.le_refl Y)
  refine ⟨S / Y, Nat.div_le_of_le_mul (by rw [Nat.mul_comm]; exact hS), ?_⟩
  unfold avg
  rw [e, dv (by omega) (by omega) (by omega)]
theorem l64 {q : Nat} (hq : q < 2147483648) : (nI q).toInt64 = lN q := Int64.toInt_inj.mp (by rw [Int32.toInt_toInt64, ti q (by omega), L_int (by omega)])
theorem lN_ad (a b : Nat) : lN a + lN b = lN (a + b) := (Int64.ofNat_add a b).symm
theorem sc1 (h : Ob N Y K z C) (hK : K < 600000) {κ a n : Nat} (hκ : κ < 10) (ha : a < 10) (hn : n < 1000) {σ : Int64} (e : σ = lN (10000 * κ + 1000 * a + n)) : (∀ w, cmdf N Y κ a n z = some w → ∃ C', F_L_tryScript (1 : Int32) σ C = some (-9, C') ∧ Ob N Y K z C' ∧ Kt C C') ∧ (cmdf N Y κ a n z = none → ∃ C', F_L_tryScript (1 : Int32) σ C = some (0, C') ∧ Ob N Y K z C' ∧ Kt C C') := by
  have hp : 10000 * κ + 1000 * a + n < pw 1 := by
    show _ < 1 * 100000
    omega
  obtain ⟨t, et⟩ := to_c h hK (n := 1) (σ := 10000 * κ + 1000 * a + n) (by decide) (by decide) hp
  have et' : F_L_tryScript (1 : Int32) σ C = some (scf N Y (10000 * κ + 1000 * a + n) 1 0 z, sr C 1 t) := by
    rw [e]
    exact et
  have hk : Kt C (sr C 1 t) := kt_1 C t
  have ho : Ob N Y K z (sr C 1 t) := ⟨h.1, by rw [sr_ne _ _ (show 0 ≠ 1 by decide)]; exact h.2⟩
  have es : scf N Y (10000 * κ + 1000 * a + n) 1 0 z = (match cmdf N Y κ a n z with | none => nI 0 | some _ => -9) := by
    show (match cmdf N Y ((10000 * κ + 1000 * a + n) / 1 % 100000 / 10000) ((10000 * κ + 1000 * a + n) / 1 % 100000 / 1000 % 10) ((10000 * κ + 1000 * a + n) / 1 % 100000 % 1000) z with | none => nI 0 | some _ => -9) = _
    rw [show (10000 * κ + 1000 * a + n) / 1 % 100000 / 10000 = κ by omega, show (10000 * κ + 1000 * a + n) / 1 % 100000 / 1000 % 10 = a by omega, show (10000 * κ + 1000 * a + n) / 1 % 100000 % 1000 = n by omega]
  rw [es] at et'
  exact ⟨fun w q => ⟨_, by rw [et', q], ho, hk⟩, fun q => ⟨_, by rw [et', q]; rfl, ho, hk⟩⟩
/-! fuel grows, a little a tick -/
theorem fu_tk (h1 : 1 ≤ Y) (h8 : Y ≤ 8) (d : Nat) (w : WF N Y K y) {i : Nat} (hi : i < N) : ∃ q : Int32, tk N Y d y (30 + 7 * i + 6) = y (30 + 7 * i + 6) + q ∧ 0 ≤ q.toInt ∧ q.toInt ≤ 30 := by
  have v6 := (tk_b (y := y) h1 h8 d hi (f := 6) (by decide)).trans wk_6
  have hb := bo_i (N := N) (Y := Y) (y := y) h8 d i
  have x6 : wD N Y d y (30 + 7 * i + 6) = y (30 + 7 * i + 6) := by
    rcases hb with h | h | h
    · exact h.2.2.2.2.2
    · exact h.2.2.2.2.2
    · exact h.2.2.2.2
  have x0 : wD N Y d y (30 + 7 * i) = y (30 + 7 * i) := by
    rcases hb with h | h | h
    · exact h.2.2.2.1
    · exact h.2.2.2.1
    · exact h.2.2.1
  rw [x6, x0] at v6
  have b0 := (w.2.2.2.2.2.2 i hi).1
  refine ⟨_, v6, ?_, ?_⟩
  · split
    · exact b0.1
    · split <;> decide
  · split
    · exact b0.2
    · split <;> decide
theorem fu_mv {f : Nat} (hf : f < 2) (o : Bool) (i : Nat) : (mv N f o y).2 (30 + 7 * i + 6) = y (30 + 7 * i + 6) := by
  unfold mv
  cases o
  · exact fe_inv (f := mvf f) (I := fun _ (p : Int32 × Pg) => p.2 (30 + 7 * i + 6) = y (30 + 7 * i + 6)) (t := (0, up y (20 + f) 0)) (n := N) (up_ne _ _ (by omega)) fun j p _ hp => by
      unfold mvf
      split
      · by_cases e : j = i
        · subst e
          exact (lv_o 0 (by decide) (by decide)).trans hp
        · exact (lv_out 0 (by omega)).trans hp
      · exact hp
  · exact up_ne _ _ (by omega)
/-- t ticks on, at most: the fuel of each -/
def Fg (N t : Nat) (y z : Pg) : Prop := ∀ i, i < N → (y (30 + 7 * i + 6)).toInt ≤ (z (30 + 7 * i + 6)).toInt ∧ (z (30 + 7 * i + 6)).toInt ≤ (y (30 + 7 * i + 6)).toInt + 30 * t
theorem Fg.tk {t : Nat} (h1 : 1 ≤ Y) (h8 : Y ≤ 8) (hK : K < 1000000) (d : Nat) (w : WF N Y K z) (h : Fg N t y z) : Fg N (t + 1) y (tk N Y d z) := fun i hi => by
  obtain ⟨q, e, q0, q1⟩ := fu_tk h1 h8 d w hi
  have b := (w.2.2.2.2.2.2 i hi).2.2.2.2.2.2
  have hh := h i hi
  rw [e, i_add (by omega) (by omega)]
  omega
theorem smd_ok (h1 : 1 ≤ Y) (h8 : Y ≤ 8) (w : WF N Y K z) (x : Int64) (m : Nat) (hK : K + m < 1000000) : WF N Y (K + m) (smd N Y m x z).2 ∧ Fg N m z (smd N Y m x z).2 := by
  refine fe_inv (f := smp N Y) (I := fun i (p : Int64 × Pg) => WF N Y (K + i) p.2 ∧ Fg N i z p.2) (t := (x, z)) (n := m) ⟨w, fun i hi => by
    show (z (30 + 7 * i + 6)).toInt ≤ (z (30 + 7 * i + 6)).toInt ∧ (z (30 + 7 * i + 6)).toInt ≤ (z (30 + 7 * i + 6)).toInt + 30 * ((0 : Nat) : Int)
    omega⟩ fun i p hi hp => ?_
  show WF N Y (K + (i + 1)) (simf N Y (rnd (nx64 p.1)) p.2) ∧ Fg N (i + 1) z (simf N Y (rnd (nx64 p.1)) p.2)
  unfold simf
  generalize rnd (nx64 p.1) = r
  have hm : ∀ c : Prop, ∀ dc : Decidable c, WF N Y (K + i) (@ite _ c dc (mv N (r / 16 % 2) (decide (p.2 (20 + r / 16 % 2) = 0)) p.2).2 p.2) ∧ Fg N i z (@ite _ c dc (mv N (r / 16 % 2) (decide (p.2 (20 + r / 16 % 2) = 0)) p.2).2 p.2) := fun c dc => by
    by_cases q : c
    · rw [if_pos q]
      exact ⟨hp.1.k_mv h8 (by omega) _, fun j hj => by rw [fu_mv (by omega)]; exact hp.2 j hj⟩
    · rw [if_neg q]
      exact hp
  exact ⟨(hm _ _).1.k_tk h1 h8 (by omega) _, (hm _ _).2.tk h1 h8 (K := K + i) (by omega) _ (hm _ _).1⟩
theorem sm_rng {g : Nat → Int32} {b : Nat} (hb : b < 100000) : ∀ n, n ≤ 5 → (∀ i, i < n → 0 ≤ (g i).toInt ∧ (g i).toInt ≤ b) → 0 ≤ (sm g n).toInt ∧ (sm g n).toInt ≤ b * n
  | 0, _, _ => ⟨by show 0 ≤ (0 : Int32).toInt; decide, by show (0 : Int32).toInt ≤ _; have : (0 : Int32).toInt = 0 := rfl; omega⟩
  | n + 1, hn, h => by
    have a := sm_rng hb n (by omega) fun i hi => h i (by omega)
    have c := h n (by omega)
    have m : (b : Int) * (n : Int) ≤ b * 5 := Int.mul_le_mul_of_nonneg_left (by omega) (by omega)
    have e : (sm g n + g n).toInt = (sm g n).toInt + (g n).toInt := i_add (by omega) (by omega)
    show 0 ≤ (sm g n + g n).toInt ∧ (sm g n + g n).toInt ≤ b * ((n + 1 : Nat) : Int)
    rw [e]
    have e2 : (b : Int) * ((n + 1 : Nat) : Int) = b * n + b := by
      rw [Int.natCast_add, Int.mul_add]; omega
    omega
theorem smV_nn (h1 : 1 ≤ Y) (h8 : Y ≤ 8) (n5 : N ≤ 5) (w : WF N Y K z) (hK : K < 700000) (x : Int64) : ¬ smV N Y 20 x z < 0 := by
  obtain ⟨w', g⟩ := smd_ok h1 h8 w x 20 (by omega)
  obtain ⟨q, hq, eq⟩ := av_n h1 h8 w'.1
  unfold smV
  rw [eq]
  generalize (smd N Y 20 x z).2 = u at *
  have r := sm_rng (g := fun i => u (30 + 7 * i + 6) - z (30 + 7 * i + 6)) (b := 600) (by decide) N n5 fun i hi => by
    have gi := g i hi
    have r1 := fb_rng (u (30 + 7 * i + 6))
    have r2 := fb_rng (z (30 + 7 * i + 6))
    have e : (u (30 + 7 * i + 6) - z (30 + 7 * i + 6)).toInt = (u (30 + 7 * i + 6)).toInt - (z (30 + 7 * i + 6)).toInt := fb_subI (by omega) (by omega)
    show 0 ≤ (u (30 + 7 * i + 6) - z (30 + 7 * i + 6)).toInt ∧ _
    rw [e]
    omega
  rw [sm_sub] at r
  have hN : (600 : Int) * (N : Int) ≤ 3000 := by omega
  have e1 : (1000 : Int32).toInt = 1000 := rfl
  have e0 : (0 : Int32).toInt = 0 := rfl
  unfold fuS
  rw [fa_lt, i_add, fb_mulI, e1, ti q (by omega), e0]
  all_goals (try rw [fb_mulI])
  all_goals (try rw [e1])
  all_goals (try rw [ti q (by omega)])
  all_goals omega
end SCRIPTS
