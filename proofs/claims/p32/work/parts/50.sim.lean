/-! simulations -/
theorem rr_n (x : Int64) : ∃ n : Nat, n < 2147483648 ∧ ((((x).toUInt64 >>> (((33 : Int32)).toInt64.toUInt64 &&& Int64.toUInt64 63)).toInt64)).toInt32 = nI n := by
  have hs : (((33 : Int32)).toInt64.toUInt64 &&& Int64.toUInt64 63) = 33 := by decide +kernel
  rw [hs]
  refine ⟨(x.toUInt64 >>> 33).toNat, ?_, ?_⟩
  · rw [UInt64.toNat_shiftRight]
    have h := x.toUInt64.toBitVec.isLt
    show x.toUInt64.toBitVec.toNat >>> ((33 : UInt64).toNat % 64) < 2147483648
    rw [show (33 : UInt64).toNat % 64 = 33 by decide, Nat.shiftRight_eq_div_pow]
    omega
  · generalize x.toUInt64 >>> 33 = u
    have e : u.toInt64 = lN u.toNat := by
      apply Int64.toBitVec_inj.1
      apply BitVec.eq_of_toNat_eq
      show u.toBitVec.toNat = (BitVec.ofNat 64 u.toBitVec.toNat).toNat
      rw [BitVec.toNat_ofNat, Nat.mod_eq_of_lt u.toBitVec.isLt]
    rw [e, lN_i]
section SIM
variable {C : Mem} {K N Y : Nat}
def simf (N Y n : Nat) (t : Pg) : Pg := tk N Y (n / 64 % 4) (if n % 16 = 0 then (mv N (n / 16 % 2) (decide (t (20 + n / 16 % 2) = 0)) t).2 else t)
theorem Tr.mv {y : Pg} (h8 : Y ≤ 8) (h5 : N ≤ 5) (h : Tr N Y K y) {f : Nat} (hf : f < 2) (o : Bool) : Tr N Y K (mv N f o y).2 := ⟨(mv_hi f o y hf h5 (by decide)).trans h.1, (mv_hi f o y hf h5 (by decide)).trans h.2.1, h.2.2.k_mv h8 hf o⟩
theorem simf_c {y z : Pg} (h1 : 1 ≤ Y) (h : Agree N Y y z) (n : Nat) : Agree N Y (simf N Y n y) (simf N Y n z) := by
  unfold simf
  refine Agree.k_tk h1 ?_ _
  rw [h.1 (20 + n / 16 % 2) (by omega)]
  split
  · exact (mv_c h _ _).2
  · exact h
def nx64 (x : Int64) : Int64 := x * 6364136223846793005 + 1442695040888963407
def rnd (x : Int64) : Nat := (((((x).toUInt64 >>> (((33 : Int32)).toInt64.toUInt64 &&& Int64.toUInt64 63)).toInt64)).toInt32).toInt.toNat
theorem rnd_n (x : Int64) : rnd x < 2147483648 ∧ ((((x).toUInt64 >>> (((33 : Int32)).toInt64.toUInt64 &&& Int64.toUInt64 63)).toInt64)).toInt32 = nI (rnd x) := by
  obtain ⟨n, hn, e⟩ := rr_n x
  have er : rnd x = n := by
    unfold rnd
    rw [e, ti n (by omega)]
    rfl
  rw [er]
  exact ⟨hn, e⟩
def smp (N Y : Nat) (_ : Nat) (p : Int64 × Pg) : Int64 × Pg := (nx64 p.1, simf N Y (rnd (nx64 p.1)) p.2)
def smd (N Y m : Nat) (x : Int64) (y : Pg) : Int64 × Pg := fe (smp N Y) m (x, y)
theorem smd_c {y z : Pg} (h1 : 1 ≤ Y) (h : Agree N Y y z) (m : Nat) (x : Int64) : Agree N Y (smd N Y m x y).2 (smd N Y m x z).2 :=
  (fe_rel (f := smp N Y) (g := smp N Y) (t := (x, y)) (u := (x, z)) (R := fun (_ : Nat) (p q : Int64 × Pg) => p.1 = q.1 ∧ Agree N Y p.2 q.2) ⟨rfl, h⟩ fun i p q _ hR => by
    refine ⟨?_, ?_⟩
    · show nx64 p.1 = nx64 q.1
      rw [hR.1]
    · show Agree N Y (simf N Y (rnd (nx64 p.1)) p.2) (simf N Y (rnd (nx64 q.1)) q.2)
      rw [hR.1]
      exact simf_c h1 hR.2 _).2
theorem sim_num {n : Nat} (hn : n < 2147483648) : nI n - nI n / (16 : Int32) * (16 : Int32) = nI (n % 16) ∧ nI n / (16 : Int32) - nI n / (16 : Int32) / (2 : Int32) * (2 : Int32) = nI (n / 16 % 2) ∧ nI n / (64 : Int32) - nI n / (64 : Int32) / (4 : Int32) * (4 : Int32) = nI (n / 64 % 4) := by
  refine ⟨pk_rem (d := 16) (by omega) (by decide) (by decide), ?_, ?_⟩
  · rw [show nI n / (16 : Int32) = nI (n / 16) from pk_div (d := 16) (by omega) (by decide) (by decide)]
    exact pk_rem (d := 2) (by omega) (by decide) (by decide)
  · rw [show nI n / (64 : Int32) = nI (n / 64) from pk_div (d := 64) (by omega) (by decide) (by decide)]
    exact pk_rem (d := 4) (by omega) (by decide) (by decide)
theorem Tr.ksim {y : Pg} (h1 : 1 ≤ Y) (h8 : Y ≤ 8) (h5 : N ≤ 5) (h : Tr N Y K y) (hK : K < 1000000) (n : Nat) : Tr N Y (K + 1) (simf N Y n y) := by
  unfold simf
  refine Tr.tk h1 h8 h5 ?_ hK _
  split
  · exact h.mv h8 h5 (by omega) _
  · exact h
end SIM
section SIM2
variable {C : Mem} {K N Y : Nat}
theorem c_sim (h1 : 1 ≤ Y) (h8 : Y ≤ 8) (h5 : N ≤ 5) {m : Nat} (hm : m < 1000) (hK : K + m < 900000) (x : Int64) {y : Pg} (h : Tr N Y K y) : iter (fun w => S_X8_simulate_24 (nI m) w.1 w.2.1 w.2.2) fuel (x, (0 : Int32), sr C 1 y) = some ((smd N Y m x y).1, nI m, sr C 1 (smd N Y m x y).2) ∧ Tr N Y (K + m) (smd N Y m x y).2 := by
  have hs : ∀ (i : Nat) (p : Int64 × Pg), i < m → Tr N Y (K + i) p.2 → S_X8_simulate_24 (nI m) p.1 (nI i) (sr C 1 p.2) = some (.inl ((smp N Y i p).1, nI (i + 1), sr C 1 (smp N Y i p).2)) ∧ Tr N Y (K + (i + 1)) (smp N Y i p).2 := fun i p hi hp => by
    refine ⟨?_, hp.ksim h1 h8 h5 (by omega) _⟩
    obtain ⟨hn, er⟩ := rnd_n (nx64 p.1)
    have sn := sim_num hn
    have j97 : ∀ t : Pg, Tr N Y (K + i) t → J_X8_simulate_97 (nI i) (nx64 p.1) (nI (rnd (nx64 p.1))) (sr C 1 t) = some (.inl (nx64 p.1, nI (i + 1), sr C 1 (tk N Y (rnd (nx64 p.1) / 64 % 4) t))) := fun t ht => by
      unfold J_X8_simulate_97
      rw [sn.2.2, g_tick1 ht.1 ht.2.1 h5 h1 h8 1 (by omega) (by omega) ht.2.2, b2_s, nm_s, nI_1]
    unfold S_X8_simulate_24
    rw [if_neg (nI_ge hi (by omega)), show (p.1 * (6364136223846793005 : Int64)) + (1442695040888963407 : Int64) = nx64 p.1 from rfl, nm_s, er, nm_s, sn.1]
    unfold smp simf
    by_cases hc : rnd (nx64 p.1) % 16 = 0
    · rw [if_pos (by rw [hc]; rfl), nm_s, sn.2.1, f_flueOf, b2_s]
      have hf : (if nI (rnd (nx64 p.1) / 16 % 2) = 0 then 0 else 1 : Nat) = rnd (nx64 p.1) / 16 % 2 := by
        rcases (show rnd (nx64 p.1) / 16 % 2 = 0 ∨ rnd (nx64 p.1) / 16 % 2 = 1 by omega) with q | q <;> rw [q] <;> decide
      rw [hf, gn_p (by omega), sr_same]
      by_cases ho : p.2 (20 + rnd (nx64 p.1) / 16 % 2) = 0
      · have gm := g_moveFlue (C := C) hp.1 h5 1 (f := rnd (nx64 p.1) / 16 % 2) (by omega) true
        have gm' : F_X5_moveFlue 1 (nI (rnd (nx64 p.1) / 16 % 2)) 1 (sr C 1 p.2) = some ((mv N (rnd (nx64 p.1) / 16 % 2) true p.2).1, sr C 1 (mv N (rnd (nx64 p.1) / 16 % 2) true p.2).2) := gm
        rw [if_pos ho, gm', b2_s, j97 _ (hp.mv h8 h5 (f := rnd (nx64 p.1) / 16 % 2) (by omega) true)]
        simp only [if_pos hc, ho, decide_true]
      · have gm := g_moveFlue (C := C) hp.1 h5 1 (f := rnd (nx64 p.1) / 16 % 2) (by omega) false
        have gm' : F_X5_moveFlue 1 (nI (rnd (nx64 p.1) / 16 % 2)) 0 (sr C 1 p.2) = some ((mv N (rnd (nx64 p.1) / 16 % 2) false p.2).1, sr C 1 (mv N (rnd (nx64 p.1) / 16 % 2) false p.2).2) := gm
        rw [if_neg ho, gm', b2_s, j97 _ (hp.mv h8 h5 (f := rnd (nx64 p.1) / 16 % 2) (by omega) false)]
        simp only [if_pos hc, ho, decide_false]
    · rw [if_neg (nI_ne0 (by omega) (by omega)), j97 _ hp]
      simp only [if_neg hc]
  exact ⟨iter_emb (n := m) (t0 := (x, y)) (fun i p => (p.1, nI i, sr C 1 p.2)) (smp N Y) (fun i p => Tr N Y (K + i) p.2) (fun p => (p.1, nI m, sr C 1 p.2)) hm h (fun i p hi hp => hs i p hi hp) (fun p _ => by
      show S_X8_simulate_24 (nI m) p.1 (nI m) (sr C 1 p.2) = _
      unfold S_X8_simulate_24
      rw [if_pos (nI_le (Nat.le_refl m) (by omega))]), fe_inv (f := smp N Y) (I := fun i p => Tr N Y (K + i) p.2) h fun i p hi hp => (hs i p hi hp).2⟩
theorem WF.ksim {y : Pg} (h1 : 1 ≤ Y) (h8 : Y ≤ 8) (h : WF N Y K y) (hK : K < 1000000) (n : Nat) : WF N Y (K + 1) (simf N Y n y) := by
  unfold simf
  refine WF.k_tk h1 h8 hK ?_ _
  split
  · exact h.k_mv h8 (by omega) _
  · exact h
end SIM2

