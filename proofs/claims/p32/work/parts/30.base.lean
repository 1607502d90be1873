/-! pure mathematics of the memory's functions: regions, counting loops -/
abbrev Pg : Type := Nat → Int32
def sr (C : Mem) (q : Nat) (y : Pg) : Mem := fun a => if a = q then y else C a
theorem sr_same (C : Mem) (q : Nat) (y : Pg) : sr C q y q = y := if_pos rfl
theorem sr_ne (C : Mem) {q a : Nat} (y : Pg) (h : a ≠ q) : sr C q y a = C a := if_neg h
theorem sr_self (C : Mem) (q : Nat) : sr C q (C q) = C := by
  funext a
  unfold sr
  split
  · rename_i h; rw [h]
  · rfl
theorem sr_sr (C : Mem) (q : Nat) (y z : Pg) : sr (sr C q y) q z = sr C q z := by
  funext a
  unfold sr
  split <;> rfl
theorem sr_comm (C : Mem) {q r : Nat} (y z : Pg) (h : q ≠ r) : sr (sr C q y) r z = sr (sr C r z) q y := by
  funext a
  unfold sr
  by_cases h1 : a = r
  · by_cases h2 : a = q
    · exact absurd (h2.symm.trans h1) h
    · simp [h1, Ne.symm h]
  · simp [h1]
theorem mu_sr (C : Mem) (q k : Nat) (v : Int32) (y : Pg) : mu (sr C q y) q k v = sr C q (up y k v) := by
  funext a
  unfold mu sr
  split <;> rfl
theorem mu_s (C : Mem) (q k : Nat) (v : Int32) : mu C q k v = sr C q (up (C q) k v) := by
  funext a
  unfold mu sr
  split
  · rename_i h; rw [h]
  · rfl
theorem up_id (y : Pg) (k : Nat) : up y k (y k) = y := by
  funext j
  unfold up
  split
  · rename_i h; rw [h]
  · rfl
theorem up_id' {y : Pg} {k : Nat} {v : Int32} (h : v = y k) : up y k v = y := by rw [h, up_id]
theorem up_up (y : Pg) (k : Nat) (v w : Int32) : up (up y k v) k w = up y k w := by
  funext j
  unfold up
  split <;> rfl
theorem up_comm (y : Pg) {k j : Nat} (v w : Int32) (h : k ≠ j) : up (up y k v) j w = up (up y j w) k v := by
  funext a
  unfold up
  by_cases h1 : a = j
  · simp [h1, Ne.symm h]
  · simp [h1]
theorem gi_p {α : Type} {x : Int32} {n : Nat} {A : Option α} (h : vp_in x n) : gi x n A = A := if_pos h
theorem gi_n {α : Type} {j n : Nat} {A : Option α} (h : j < n) (hn : n < 2 ^ 31) : gi (nI j) n A = A := gi_p (vp_in_nI h hn)
theorem gz_p {α : Type} {y : Int32} {A : Option α} (h : y ≠ 0) : gz y A = A := if_neg h
theorem gzL_p {α : Type} {y : Int64} {A : Option α} (h : y ≠ 0) : gzL y A = A := if_neg h
theorem gb_p {α : Type} {v : Int32} {A : Option α} (h : v = 0 ∨ v = 1) : gb v A = A := if_pos h
theorem gn_p {α : Type} {f n : Nat} {A : Option α} (h : f < n) : gn f n A = A := if_pos h
theorem nm_s {α β : Type} (e : α) (k : α → Option β) : nm e k = k e := rfl
/-- a counting loop -/
def fe {τ : Type} (f : Nat → τ → τ) : Nat → τ → τ
  | 0, t => t
  | n + 1, t => f n (fe f n t)
theorem fe_0 {τ : Type} (f : Nat → τ → τ) (t : τ) : fe f 0 t = t := rfl
theorem fe_s {τ : Type} (f : Nat → τ → τ) (n : Nat) (t : τ) : fe f (n + 1) t = f n (fe f n t) := rfl
theorem fe_inv {τ : Type} {f : Nat → τ → τ} {I : Nat → τ → Prop} {t : τ} (h0 : I 0 t) : ∀ {n : Nat}, (∀ i t, i < n → I i t → I (i + 1) (f i t)) → I n (fe f n t)
  | 0, _ => h0
  | n + 1, h => h n _ (Nat.lt_succ_self n) (fe_inv h0 fun i t hi => h i t (by omega))
theorem fe_rel {τ υ : Type} {f : Nat → τ → τ} {g : Nat → υ → υ} {R : Nat → τ → υ → Prop} {t : τ} {u : υ} (h0 : R 0 t u) : ∀ {n : Nat}, (∀ i t u, i < n → R i t u → R (i + 1) (f i t) (g i u)) → R n (fe f n t) (fe g n u)
  | 0, _ => h0
  | n + 1, h => h n _ _ (Nat.lt_succ_self n) (fe_rel h0 fun i t u hi => h i t u (by omega))
theorem fe_cong {τ : Type} {f g : Nat → τ → τ} {t : τ} {n : Nat} (h : ∀ i t, i < n → f i t = g i t) : fe f n t = fe g n t :=
  fe_rel (R := fun _ a b => a = b) rfl (fun i a b hi e => by rw [e]; exact h i b hi)
theorem iter_s {σ ρ : Type} (step : σ → Option (σ ⊕ ρ)) {x y : σ} (h : step x = some (.inl y)) (n : Nat) : iter step (n + 1) x = iter step n y := by
  show (step x).bind _ = _
  rw [h]
  rfl
theorem iter_e {σ ρ : Type} (step : σ → Option (σ ⊕ ρ)) {x : σ} {r : ρ} (h : step x = some (.inr r)) (n : Nat) : iter step (n + 1) x = some r := by
  show (step x).bind _ = _
  rw [h]
  rfl
theorem iter_run {σ ρ τ : Type} {step : σ → Option (σ ⊕ ρ)} {e : Nat → τ → σ} {f : Nat → τ → τ} {I : Nat → τ → Prop} {t0 : τ} (h0 : I 0 t0) : ∀ (n : Nat), (∀ i t, i < n → I i t → step (e i t) = some (.inl (e (i + 1) (f i t))) ∧ I (i + 1) (f i t)) → ∀ m, iter step (n + m) (e 0 t0) = iter step m (e n (fe f n t0))
  | 0, _, m => by rw [Nat.zero_add]; rfl
  | n + 1, h, m => by
    rw [show n + 1 + m = n + (m + 1) by omega, iter_run h0 n (fun i t hi => h i t (by omega)) (m + 1)]
    exact iter_s step (h n _ (Nat.lt_succ_self n) (fe_inv h0 fun i t hi ht => (h i t (by omega) ht).2)).1 m
theorem iter_emb {σ ρ τ : Type} {step : σ → Option (σ ⊕ ρ)} (e : Nat → τ → σ) (f : Nat → τ → τ) (I : Nat → τ → Prop) (r : τ → ρ) {n : Nat} (hn : n < 1000) {t0 : τ} (h0 : I 0 t0) (hs : ∀ i t, i < n → I i t → step (e i t) = some (.inl (e (i + 1) (f i t))) ∧ I (i + 1) (f i t)) (he : ∀ t, I n t → step (e n t) = some (.inr (r t))) : iter step fuel (e 0 t0) = some (r (fe f n t0)) := by
  have hf : fuel = n + ((999 - n) + 1) := by unfold fuel; omega
  rw [hf, iter_run h0 n hs]
  exact iter_e step (he _ (fe_inv h0 fun i t hi ht => (hs i t hi ht).2)) _
/-- a counting loop that may end early -/
def fx {τ ρ : Type} (stop : Nat → τ → Bool) (f : Nat → τ → τ) (x : Nat → τ → ρ) (r : τ → ρ) : Nat → Nat → τ → ρ
  | 0, _, t => r t
  | k + 1, i, t => if stop i t then x i t else fx stop f x r k (i + 1) (f i t)
theorem iter_fx {σ ρ τ : Type} {step : σ → Option (σ ⊕ ρ)} (e : Nat → τ → σ) (stop : Nat → τ → Bool) (f : Nat → τ → τ) (x : Nat → τ → ρ) (r : τ → ρ) (I : Nat → τ → Prop) (n : Nat) (hs : ∀ i t, i < n → I i t → (stop i t = true → step (e i t) = some (.inr (x i t))) ∧ (stop i t = false → step (e i t) = some (.inl (e (i + 1) (f i t))) ∧ I (i + 1) (f i t))) (he : ∀ t, I n t → step (e n t) = some (.inr (r t))) : ∀ (k i : Nat) (t : τ) (m : Nat), i + k = n → I i t → iter step (k + 1 + m) (e i t) = some (fx stop f x r k i t)
  | 0, i, t, m, hi, hI => by
    have : i = n := by omega
    subst this
    rw [show 0 + 1 + m = m + 1 by omega, iter_e step (he t hI)]
    rfl
  | k + 1, i, t, m, hi, hI => by
    obtain ⟨h1, h2⟩ := hs i t (by omega) hI
    rw [show k + 1 + 1 + m = (k + 1 + m) + 1 by omega]
    cases hst : stop i t with
    | true =>
      rw [iter_e step (h1 hst)]
      simp [fx, hst]
    | false =>
      obtain ⟨h3, h4⟩ := h2 hst
      rw [iter_s step h3, iter_fx e stop f x r I n hs he k (i + 1) (f i t) m (by omega) h4]
      simp [fx, hst]
theorem iter_fx0 {σ ρ τ : Type} {step : σ → Option (σ ⊕ ρ)} (e : Nat → τ → σ) (stop : Nat → τ → Bool) (f : Nat → τ → τ) (x : Nat → τ → ρ) (r : τ → ρ) (I : Nat → τ → Prop) {n : Nat} (hn : n < 1000) {t0 : τ} (h0 : I 0 t0) (hs : ∀ i t, i < n → I i t → (stop i t = true → step (e i t) = some (.inr (x i t))) ∧ (stop i t = false → step (e i t) = some (.inl (e (i + 1) (f i t))) ∧ I (i + 1) (f i t))) (he : ∀ t, I n t → step (e n t) = some (.inr (r t))) : iter step fuel (e 0 t0) = some (fx stop f x r n 0 t0) := by
  have h := iter_fx e stop f x r I n hs he n 0 t0 (999 - n) (by omega) h0
  rw [show n + 1 + (999 - n) = fuel by unfold fuel; omega] at h
  exact h
/-! numbers -/
theorem n_lit (n : Nat) : (OfNat.ofNat n : Int32) = nI n := rfl
theorem ti (n : Nat) (h : n < 2 ^ 31) : (nI n).toInt = n := nI_toInt h
theorem i_add {x y : Int32} (h1 : -2147483648 ≤ x.toInt + y.toInt) (h2 : x.toInt + y.toInt < 2147483648) : (x + y).toInt = x.toInt + y.toInt := fb_addI h1 h2
theorem i_eq {x y : Int32} (h : x.toInt = y.toInt) : x = y := Int32.toInt_inj.mp h
theorem i_ne {x y : Int32} (h : x.toInt ≠ y.toInt) : x ≠ y := fun e => h (by rw [e])
/-- the sum of the first places -/
def sm (f : Nat → Int32) : Nat → Int32
  | 0 => 0
  | n + 1 => sm f n + f n
theorem sm_cong {f g : Nat → Int32} : ∀ {n : Nat}, (∀ i, i < n → f i = g i) → sm f n = sm g n
  | 0, _ => rfl
  | n + 1, h => by
    show sm f n + f n = sm g n + g n
    rw [sm_cong fun i hi => h i (by omega), h n (Nat.lt_succ_self n)]
theorem fe_sm (f : Nat → Int32) (v : Int32) : ∀ n : Nat, fe (fun i w => w + f i) n v = v + sm f n
  | 0 => by show v = v + 0; rw [Int32.add_zero]
  | n + 1 => by
    show fe _ n v + f n = v + (sm f n + f n)
    rw [fe_sm f v n, Int32.add_assoc]
/-- what of a page counts: the numbers, the layers that there are, the boilers that there are -/
def Agree (N Y : Nat) (y z : Pg) : Prop := (∀ k, k < 22 → y k = z k) ∧ (∀ j, j < Y → y (22 + j) = z (22 + j)) ∧ ∀ i f, i < N → f < 7 → y (30 + 7 * i + f) = z (30 + 7 * i + f)
theorem Agree.rf (N Y : Nat) (y : Pg) : Agree N Y y y := ⟨fun _ _ => rfl, fun _ _ => rfl, fun _ _ _ _ => rfl⟩
theorem Agree.sy {N Y : Nat} {y z : Pg} (h : Agree N Y y z) : Agree N Y z y := ⟨fun k hk => (h.1 k hk).symm, fun j hj => (h.2.1 j hj).symm, fun i f hi hf => (h.2.2 i f hi hf).symm⟩
theorem Agree.tr {N Y : Nat} {x y z : Pg} (h : Agree N Y x y) (g : Agree N Y y z) : Agree N Y x z := ⟨fun k hk => (h.1 k hk).trans (g.1 k hk), fun j hj => (h.2.1 j hj).trans (g.2.1 j hj), fun i f hi hf => (h.2.2 i f hi hf).trans (g.2.2 i f hi hf)⟩
theorem Agree.b0 {N Y : Nat} {y z : Pg} (h : Agree N Y y z) {i : Nat} (hi : i < N) : y (30 + 7 * i) = z (30 + 7 * i) := h.2.2 i 0 hi (by decide)
/-- the same write on both -/
theorem Agree.put {N Y : Nat} {y z : Pg} (h : Agree N Y y z) {k : Nat} {v w : Int32} (e : v = w) : Agree N Y (up y k v) (up z k w) := by
  subst e
  refine ⟨fun a ha => ?_, fun a ha => ?_, fun i f hi hf => ?_⟩
  · unfold up; split
    · rfl
    · exact h.1 a ha
  · unfold up; split
    · rfl
    · exact h.2.1 a ha
  · unfold up; split
    · rfl
    · exact h.2.2 i f hi hf
theorem u2_s {A B γ : Type} (f : A → B → γ) (a : A) (b : B) : u2 f (a, b) = f a b := rfl
theorem u3_s {A B D γ : Type} (f : A → B → D → γ) (a : A) (b : B) (d : D) : u3 f (a, b, d) = f a b d := rfl
theorem u4_s {A B D E γ : Type} (f : A → B → D → E → γ) (a : A) (b : B) (d : D) (e : E) : u4 f (a, b, d, e) = f a b d e := rfl
theorem u5_s {A B D E F γ : Type} (f : A → B → D → E → F → γ) (a : A) (b : B) (d : D) (e : E) (g : F) : u5 f (a, b, d, e, g) = f a b d e g := rfl
theorem nI_mul (a b : Nat) : nI a * nI b = nI (a * b) := (Int32.ofNat_mul a b).symm
theorem a2 (a : Nat) : nI a + (2 : Int32) = nI (a + 2) := nI_add a 2
theorem a3 (a : Nat) : nI a + (3 : Int32) = nI (a + 3) := nI_add a 3
theorem a4 (a : Nat) : nI a + (4 : Int32) = nI (a + 4) := nI_add a 4
theorem a5 (a : Nat) : nI a + (5 : Int32) = nI (a + 5) := nI_add a 5
theorem a6 (a : Nat) : nI a + (6 : Int32) = nI (a + 6) := nI_add a 6
theorem a22 (a : Nat) : (22 : Int32) + nI a = nI (22 + a) := nI_add 22 a
theorem a20 (a : Nat) : (20 : Int32) + nI a = nI (20 + a) := nI_add 20 a
theorem a18 (a : Nat) : (18 : Int32) + nI a = nI (18 + a) := nI_add 18 a
theorem s1 {a : Nat} (h : 0 < a) : nI a - (1 : Int32) = nI (a - 1) := by
  obtain ⟨b, rfl⟩ : ∃ b, a = b + 1 := ⟨a - 1, by omega⟩
  rw [nI_pred]
  rfl
theorem m1 {a : Nat} (h : 0 < a) : nI a + (-1 : Int32) = nI (a - 1) := by
  rw [← s1 h, Int32.sub_eq_add_neg]
theorem gl_0 {α : Type} (A : Option α) : gi (0 : Int32) 65 A = A := gi_n (j := 0) (by decide) (by decide)
theorem cl_0 : (0 : Int32).toNatClampNeg = 0 := rfl
theorem gl_1 {α : Type} (A : Option α) : gi (1 : Int32) 65 A = A := gi_n (j := 1) (by decide) (by decide)
theorem cl_1 : (1 : Int32).toNatClampNeg = 1 := rfl
theorem gl_2 {α : Type} (A : Option α) : gi (2 : Int32) 65 A = A := gi_n (j := 2) (by decide) (by decide)
theorem cl_2 : (2 : Int32).toNatClampNeg = 2 := rfl
theorem gl_3 {α : Type} (A : Option α) : gi (3 : Int32) 65 A = A := gi_n (j := 3) (by decide) (by decide)
theorem cl_3 : (3 : Int32).toNatClampNeg = 3 := rfl
theorem gl_4 {α : Type} (A : Option α) : gi (4 : Int32) 65 A = A := gi_n (j := 4) (by decide) (by decide)
theorem cl_4 : (4 : Int32).toNatClampNeg = 4 := rfl
theorem gl_5 {α : Type} (A : Option α) : gi (5 : Int32) 65 A = A := gi_n (j := 5) (by decide) (by decide)
theorem cl_5 : (5 : Int32).toNatClampNeg = 5 := rfl
theorem gl_6 {α : Type} (A : Option α) : gi (6 : Int32) 65 A = A := gi_n (j := 6) (by decide) (by decide)
theorem cl_6 : (6 : Int32).toNatClampNeg = 6 := rfl
theorem gl_7 {α : Type} (A : Option α) : gi (7 : Int32) 65 A = A := gi_n (j := 7) (by decide) (by decide)
theorem cl_7 : (7 : Int32).toNatClampNeg = 7 := rfl
theorem gl_8 {α : Type} (A : Option α) : gi (8 : Int32) 65 A = A := gi_n (j := 8) (by decide) (by decide)
theorem cl_8 : (8 : Int32).toNatClampNeg = 8 := rfl
theorem gl_9 {α : Type} (A : Option α) : gi (9 : Int32) 65 A = A := gi_n (j := 9) (by decide) (by decide)
theorem cl_9 : (9 : Int32).toNatClampNeg = 9 := rfl
theorem gl_10 {α : Type} (A : Option α) : gi (10 : Int32) 65 A = A := gi_n (j := 10) (by decide) (by decide)
theorem cl_10 : (10 : Int32).toNatClampNeg = 10 := rfl
theorem gl_11 {α : Type} (A : Option α) : gi (11 : Int32) 65 A = A := gi_n (j := 11) (by decide) (by decide)
theorem cl_11 : (11 : Int32).toNatClampNeg = 11 := rfl
theorem gl_12 {α : Type} (A : Option α) : gi (12 : Int32) 65 A = A := gi_n (j := 12) (by decide) (by decide)
theorem cl_12 : (12 : Int32).toNatClampNeg = 12 := rfl
theorem gl_13 {α : Type} (A : Option α) : gi (13 : Int32) 65 A = A := gi_n (j := 13) (by decide) (by decide)
theorem cl_13 : (13 : Int32).toNatClampNeg = 13 := rfl
theorem gl_14 {α : Type} (A : Option α) : gi (14 : Int32) 65 A = A := gi_n (j := 14) (by decide) (by decide)
theorem cl_14 : (14 : Int32).toNatClampNeg = 14 := rfl
theorem gl_15 {α : Type} (A : Option α) : gi (15 : Int32) 65 A = A := gi_n (j := 15) (by decide) (by decide)
theorem cl_15 : (15 : Int32).toNatClampNeg = 15 := rfl
theorem gl_16 {α : Type} (A : Option α) : gi (16 : Int32) 65 A = A := gi_n (j := 16) (by decide) (by decide)
theorem cl_16 : (16 : Int32).toNatClampNeg = 16 := rfl
theorem gl_17 {α : Type} (A : Option α) : gi (17 : Int32) 65 A = A := gi_n (j := 17) (by decide) (by decide)
theorem cl_17 : (17 : Int32).toNatClampNeg = 17 := rfl
theorem gl_18 {α : Type} (A : Option α) : gi (18 : Int32) 65 A = A := gi_n (j := 18) (by decide) (by decide)
theorem cl_18 : (18 : Int32).toNatClampNeg = 18 := rfl
theorem gl_19 {α : Type} (A : Option α) : gi (19 : Int32) 65 A = A := gi_n (j := 19) (by decide) (by decide)
theorem cl_19 : (19 : Int32).toNatClampNeg = 19 := rfl
theorem gl_20 {α : Type} (A : Option α) : gi (20 : Int32) 65 A = A := gi_n (j := 20) (by decide) (by decide)
theorem cl_20 : (20 : Int32).toNatClampNeg = 20 := rfl
theorem gl_21 {α : Type} (A : Option α) : gi (21 : Int32) 65 A = A := gi_n (j := 21) (by decide) (by decide)
theorem cl_21 : (21 : Int32).toNatClampNeg = 21 := rfl
theorem gl_22 {α : Type} (A : Option α) : gi (22 : Int32) 65 A = A := gi_n (j := 22) (by decide) (by decide)
theorem cl_22 : (22 : Int32).toNatClampNeg = 22 := rfl
theorem gl_30 {α : Type} (A : Option α) : gi (30 : Int32) 65 A = A := gi_n (j := 30) (by decide) (by decide)
theorem cl_30 : (30 : Int32).toNatClampNeg = 30 := rfl
theorem inc_0 (y : Pg) (k : Nat) : up y k (y k + (0 : Int32)) = y := by rw [Int32.add_zero, up_id]

