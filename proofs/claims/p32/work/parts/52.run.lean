/-! scripts: the runs -/
theorem L_int {a : Nat} (h : a < 4611686018427387904) : (lN a).toInt = a := lg_ofNat_toInt (by omega)
theorem L_div {a b : Nat} (ha : a < 4611686018427387904) (h0 : 0 < b) (hb : b < 4611686018427387904) : lN a / lN b = lN (a / b) := by
  apply Int64.toInt_inj.mp
  rw [lg_ldiv_nonneg (by rw [L_int ha]; omega) (by rw [L_int hb]; omega), L_int ha, L_int hb, L_int (Nat.lt_of_le_of_lt (Nat.div_le_self a b) ha)]
  first | rfl | exact (Int.natCast_ediv _ _).symm
theorem L_rem {a b : Nat} (ha : a < 4611686018427387904) (h0 : 0 < b) (hb : b < 4611686018427387904) : lN a - lN a / lN b * lN b = lN (a % b) := by
  rw [L_div ha h0 hb, lN_mul, lN_sub (Nat.div_mul_le_self a b)]
  exact congrArg lN (by have := Nat.div_add_mod' a b; omega)
theorem L_ne {a : Nat} (ha : a < 4611686018427387904) (h0 : 0 < a) : lN a ≠ 0 := fun e => by
  have := congrArg Int64.toInt e
  rw [L_int ha] at this
  have e0 : (0 : Int64).toInt = 0 := rfl
  omega
def pw : Nat → Nat
  | 0 => 1
  | k + 1 => pw k * 100000
def scf (N Y s : Nat) : Nat → Nat → Pg → Int32
  | 0, _, _ => -9
  | k + 1, i, t => match cmdf N Y (s / pw k % 100000 / 10000) (s / pw k % 100000 / 1000 % 10) (s / pw k % 100000 % 1000) t with
    | none => nI i
    | some t' => scf N Y s k (i + 1) t'
section RUN
variable {C : Mem} {K N Y : Nat}
theorem scf_c (h1 : 1 ≤ Y) (s : Nat) : ∀ (k i : Nat) (y z : Pg), Agree N Y y z → scf N Y s k i y = scf N Y s k i z
  | 0, _, _, _, _ => rfl
  | k + 1, i, y, z, h => by
    unfold scf
    rcases cmdf_c h1 h (s / pw k % 100000 / 10000) (s / pw k % 100000 / 1000 % 10) (s / pw k % 100000 % 1000) with ⟨e1, e2⟩ | ⟨y', z', e1, e2, g⟩
    · rw [e1, e2]
    · rw [e1, e2]
      exact scf_c h1 s k (i + 1) y' z' g
theorem num_g {g : Nat} (hg : g < 100000) : nI g / (10000 : Int32) = nI (g / 10000) ∧ nI g / (1000 : Int32) - nI g / (1000 : Int32) / (10 : Int32) * (10 : Int32) = nI (g / 1000 % 10) ∧ nI g - nI g / (1000 : Int32) * (1000 : Int32) = nI (g % 1000) := by
  refine ⟨pk_div (d := 10000) (by omega) (by decide) (by decide), ?_, pk_rem (d := 1000) (by omega) (by decide) (by decide)⟩
  rw [show nI g / (1000 : Int32) = nI (g / 1000) from pk_div (d := 1000) (by omega) (by decide) (by decide)]
  exact pk_rem (d := 10) (by omega) (by decide) (by decide)
theorem pw_s {k : Nat} (hk : k ≤ 2) : 0 < pw k ∧ pw k < 100000000000 := by
  rcases (show k = 0 ∨ k = 1 ∨ k = 2 by omega) with rfl | rfl | rfl <;> decide
theorem pw_d (k : Nat) : pw (k + 1) / 100000 = pw k := Nat.mul_div_cancel _ (by decide)
theorem c_place (C : Mem) {n : Nat} (h1 : 1 ≤ n) (h3 : n ≤ 3) : iter (fun w => S_X8_runScript_12 (nI n) w.1 w.2.1 w.2.2) fuel ((1 : Int64), (1 : Int32), C) = some (lN (pw (n - 1)), nI (n - 1 + 1), C) :=
  iter_emb (n := n - 1) (t0 := (lN 1 : Int64)) (fun i v => (v, nI (i + 1), C)) (fun _ v => v * 100000) (fun i v => v = lN (pw i)) (fun v => (lN (pw (n - 1)), nI (n - 1 + 1), C)) (by omega) rfl (fun i v hi hv => ⟨by
    show S_X8_runScript_12 (nI n) v (nI (i + 1)) C = _
    unfold S_X8_runScript_12
    rw [if_neg (nI_ge (show i + 1 < n by omega) (by omega)), nm_s, nm_s, nI_1], by rw [hv]; exact lN_mul (pw i) 100000⟩) (fun v hv => by
    show S_X8_runScript_12 (nI n) v (nI (n - 1 + 1)) C = _
    unfold S_X8_runScript_12
    rw [if_pos (nI_le (by omega) (by omega)), hv])
end RUN

