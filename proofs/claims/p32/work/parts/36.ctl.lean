/-! the control, the tick -/
/-- a boiler, a page that can be, after K ticks at most -/
def Bo (K : Nat) (y : Pg) (i : Nat) : Prop := (0 ≤ (y (30 + 7 * i)).toInt ∧ (y (30 + 7 * i)).toInt ≤ 30) ∧ (y (30 + 7 * i + 1) = 0 ∨ y (30 + 7 * i + 1) = 1) ∧ (y (30 + 7 * i + 2) = 0 ∨ y (30 + 7 * i + 2) = 1 ∨ y (30 + 7 * i + 2) = 2 ∨ y (30 + 7 * i + 2) = 3 ∨ y (30 + 7 * i + 2) = 4) ∧ (y (30 + 7 * i + 2) = 1 → 1 ≤ (y (30 + 7 * i + 3)).toInt ∧ (y (30 + 7 * i + 3)).toInt ≤ 5) ∧ (¬ y (30 + 7 * i + 2) = 1 → y (30 + 7 * i + 3) = 0) ∧ (0 ≤ (y (30 + 7 * i + 4)).toInt ∧ (y (30 + 7 * i + 4)).toInt ≤ K) ∧ 0 ≤ (y (30 + 7 * i + 6)).toInt ∧ (y (30 + 7 * i + 6)).toInt ≤ 30 * K
def WF (N Y K : Nat) (y : Pg) : Prop := Tm Y y ∧ (y 8 = 0 ∨ y 8 = 1) ∧ (0 ≤ (y 10).toInt ∧ (y 10).toInt < 12) ∧ (1 ≤ (y 2).toInt ∧ (y 2).toInt ≤ 5) ∧ (y 20 = 0 ∨ y 20 = 1) ∧ (y 21 = 0 ∨ y 21 = 1) ∧ ∀ i, i < N → Bo K y i
theorem Bo.cg {K : Nat} {y z : Pg} {i : Nat} (h : Bo K y i) (e : ∀ f, f < 7 → z (30 + 7 * i + f) = y (30 + 7 * i + f)) : Bo K z i := by
  have e0 : z (30 + 7 * i) = y (30 + 7 * i) := e 0 (by decide)
  unfold Bo
  rw [e0, e 1 (by decide), e 2 (by decide), e 3 (by decide), e 4 (by decide), e 6 (by decide)]
  exact h
theorem Bo.mo {K L : Nat} {y : Pg} {i : Nat} (h : Bo K y i) (hK : K ≤ L) : Bo L y i := by
  obtain ⟨h1, h2, h3, h4, h5, h6, h7⟩ := h
  exact ⟨h1, h2, h3, h4, h5, by omega, by omega⟩
theorem WF.mo {N Y K L : Nat} {y : Pg} (h : WF N Y K y) (hK : K ≤ L) : WF N Y L y := by
  obtain ⟨h1, h2, h3, h4, h5, h6, h7⟩ := h
  exact ⟨h1, h2, h3, h4, h5, h6, fun i hi => (h7 i hi).mo hK⟩
theorem WF.ag {N Y K : Nat} {y z : Pg} (h : WF N Y K y) (g : Agree N Y z y) : WF N Y K z := by
  obtain ⟨h1, h2, h3, h4, h5, h6, h7⟩ := h
  unfold WF
  rw [g.1 8 (by decide), g.1 10 (by decide), g.1 2 (by decide), g.1 20 (by decide), g.1 21 (by decide)]
  exact ⟨fun j hj => by rw [g.2.1 j hj]; exact h1 j hj, h2, h3, h4, h5, h6, fun i hi => (h7 i hi).cg fun f hf => g.2.2 i f hi hf⟩
def ctlG (y : Pg) : Int32 := if y 8 = 0 then y 0 else y 3
def rst (z : Pg) : Option Nat → Pg
  | none => z
  | some b => lv z b 3
def sta (N : Nat) (z : Pg) : Option Nat → Pg
  | none => up z 7 (wh N z)
  | some b => stt z b (z 2)
def ctl (N Y : Nat) (y : Pg) : Pg := if ctlG y - y 1 ≤ avg Y y then (if avg Y y ≤ ctlG y + y 1 then up y 7 0 else rst (up y 7 0) (rs N (up y 7 0))) else sta N (up y 7 0) (nx N (up y 7 0))
theorem avg_up (Y : Nat) (y : Pg) (v : Int32) : avg Y (up y 7 v) = avg Y y := by
  unfold avg
  rw [sm_cong fun j hj => up_ne y v (show 22 + j ≠ 7 by omega)]
theorem rs_2 {N : Nat} {y : Pg} {b : Nat} (h : rs N y = some b) : y (30 + 7 * b + 2) = 2 :=
  fe_inv (f := rsf y) (I := fun _ t => ∀ b, t = some b → y (30 + 7 * b + 2) = 2) (t := none) (fun b h => by cases h) (n := N) (fun i t _ ht b hb => by
    by_cases hm : y (30 + 7 * i + 2) = 2
    · cases t with
      | none => rw [rsf_0 hm] at hb; cases hb; exact hm
      | some c =>
        by_cases hl : y (30 + 7 * i + 4) < y (30 + 7 * c + 4)
        · rw [rsf_1 hl] at hb; exact ht b hb
        · rw [rsf_2 hm hl] at hb; cases hb; exact hm
    · rw [rsf_no hm] at hb
      exact ht b hb) b h
theorem nx_w {N : Nat} {y : Pg} {b : Nat} (h : nx N y = some b) : wt y b :=
  fe_inv (f := nxf N y) (I := fun _ t => ∀ b, t = some b → wt y b) (t := none) (fun b h => by cases h) (n := N) (fun i t _ ht b hb => by
    by_cases hm : may N y i = true
    · have hw : wt y i := by
        unfold may at hm
        simp at hm
        exact hm.1
      cases t with
      | none => rw [nxf_0 hm] at hb; cases hb; exact hw
      | some c =>
        by_cases hl : y (30 + 7 * i + 4) < y (30 + 7 * c + 4)
        · rw [nxf_1 hm hl] at hb; cases hb; exact hw
        · rw [nxf_2 hl] at hb; exact ht b hb
    · rw [nxf_no hm] at hb
      exact ht b hb) b h
section CTL
variable {C : Mem} {q r N Y K : Nat} {y : Pg}
theorem WF.u7 (h : WF N Y K y) (v : Int32) : WF N Y K (up y 7 v) := by
  obtain ⟨h1, h2, h3, h4, h5, h6, h7⟩ := h
  exact ⟨fun j hj => by rw [up_ne _ _ (by omega)]; exact h1 j hj, h2, h3, h4, h5, h6, fun i hi => (h7 i hi).cg fun f hf => up_ne _ _ (by omega)⟩
theorem g_has (hN : y 65 = nI N) (h5 : N ≤ 5) (q : Nat) (t : Option Nat) (ht : ∀ b, t = some b → b < N) : F_X5_hasBoiler q (enc t) (sr C q y) = some ((if t = none then 0 else 1), sr C q y) := by
  unfold F_X5_hasBoiler
  cases t with
  | none => rw [if_pos (by decide), if_pos rfl]
  | some b =>
    have hb := ht b rfl
    show (if nI b < 0 then _ else _) = _
    rw [if_neg (nI_pos (by omega)), sr_same, hN]
    show (if nI N ≤ nI b then _ else _) = _
    rw [if_neg (nI_ge hb (by omega)), if_neg (by simp)]
theorem g_control (hN : y 65 = nI N) (hY : y 66 = nI Y) (h5 : N ≤ 5) (h1 : 1 ≤ Y) (h8 : Y ≤ 8) (hK : K < 1000000) (hW : WF N Y K y) (q : Nat) : F_X5_control q (ctlG y) (sr C q y) = some (0, sr C q (ctl N Y y)) := by
  have hz65 : (sr C q (up y 7 0)) q 65 = nI N := by rw [sr_same, up_ne _ _ (by decide)]; exact hN
  have hz65' : (up y 7 0) 65 = nI N := by rw [up_ne _ _ (by decide)]; exact hN
  have hB := (hW.u7 0).2.2.2.2.2.2
  have hB0 : ∀ i, i < N → 0 ≤ (sr C q (up y 7 0)) q (30 + 7 * i + 4) := fun i hi => by
    rw [sr_same, fa_le]
    have a := (hB i hi).2.2.2.2.2.1
    have e : (0 : Int32).toInt = 0 := rfl
    omega
  unfold F_X5_control ctl
  rw [f_mean (by rw [sr_same]; exact hY) h1 h8, b2_s, nm_s, mu_sr, sr_same, cl_1, sr_same, up_ne y 0 (show (1 : Nat) ≠ 7 by decide)]
  split
  · split
    · rfl
    · rw [f_firstToRest hz65 h5 hB0, b2_s, sr_same, g_has hz65' h5 q _ (fun b h => rs_lt h), b2_s]
      cases hr : rs N (up y 7 0) with
      | none => rfl
      | some b =>
        have hb := rs_lt hr
        rw [if_neg (by simp)]
        show gi (nI b) 5 _ = _
        rw [gi_n (by omega) (by decide), show (enc (some b)).toNatClampNeg = b from nI_clamp (by omega), g_leave, b2_s]
        rfl
  · rw [f_firstToStart hz65 h5, b2_s, sr_same, g_has hz65' h5 q _ (fun b h => nx_lt h), b2_s]
    cases hr : nx N (up y 7 0) with
    | none =>
      rw [if_pos rfl, if_pos rfl, f_why hz65 h5, b2_s, nm_s, mu_sr, sr_same]
      rfl
    | some b =>
      have hb := nx_lt hr
      rw [if_neg (by simp)]
      show gi (nI b) 5 _ = _
      rw [gi_n (by omega) (by decide), show (enc (some b)).toNatClampNeg = b from nI_clamp (by omega), cl_2, sr_same, g_start, b2_s]
      rfl
end CTL

