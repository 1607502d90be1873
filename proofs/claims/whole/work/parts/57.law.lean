/-! the law: every call of every script -/
section LAW
variable {C : Mem} {K L : Nat} {xs : Nat → Int32} {v1 : Int32}

theorem k_0 (hI : Inv K C) (hK : K < 700000) (g1 : ∀ {α : Type} (A : Option α), gi (v1 + (1 : Int32)) L A = A) : ∃ C', K_L_0 xs L v1 C = some (.inl (v1 + 4, C')) ∧ Inv (K + 96) C' := by
  obtain ⟨c, C1, v, C2, h1, h2, h3, h4, h5⟩ := p_append hI (xs ((v1 + (1 : Int32))).toNatClampNeg)
  refine ⟨C2, ?_, h5⟩
  unfold K_L_0
  rw [g1, h1, b2_s, g1, h2, b2_s]
  exact law_ok h3 h4

theorem k_3 (hI : Inv K C) (hK : K < 700000)  : ∃ C', K_L_3 v1 C = some (.inl (v1 + 4, C')) ∧ Inv (K + 96) C' := by
  obtain ⟨c, C1, v, C2, h1, h2, h3, h4, h5⟩ := p_load hI
  refine ⟨C2, ?_, h5⟩
  unfold K_L_3
  rw [h1, b2_s, h2, b2_s]
  exact law_ok h3 h4

theorem k_4 (hI : Inv K C) (hK : K < 700000) (g1 : ∀ {α : Type} (A : Option α), gi (v1 + (1 : Int32)) L A = A) : ∃ C', K_L_4 xs L v1 C = some (.inl (v1 + 4, C')) ∧ Inv (K + 96) C' := by
  obtain ⟨c, C1, v, C2, h1, h2, h3, h4, h5⟩ := p_about hI (xs ((v1 + (1 : Int32))).toNatClampNeg)
  refine ⟨C2, ?_, h5⟩
  unfold K_L_4
  rw [g1, h1, b2_s, g1, h2, b2_s]
  exact law_ok h3 h4

theorem k_5 (hI : Inv K C) (hK : K < 700000) (g1 : ∀ {α : Type} (A : Option α), gi (v1 + (1 : Int32)) L A = A) (g2 : ∀ {α : Type} (A : Option α), gi (v1 + (2 : Int32)) L A = A) : ∃ C', K_L_5 xs L v1 C = some (.inl (v1 + 4, C')) ∧ Inv (K + 96) C' := by
  obtain ⟨c, C1, v, C2, h1, h2, h3, h4, h5⟩ := p_boiler hI (xs ((v1 + (1 : Int32))).toNatClampNeg) (xs ((v1 + (2 : Int32))).toNatClampNeg)
  refine ⟨C2, ?_, h5⟩
  unfold K_L_5
  rw [g1, g2, h1, b2_s, g1, g2, h2, b2_s]
  exact law_ok h3 h4

theorem k_6 (hI : Inv K C) (hK : K < 700000) (g1 : ∀ {α : Type} (A : Option α), gi (v1 + (1 : Int32)) L A = A) (g2 : ∀ {α : Type} (A : Option α), gi (v1 + (2 : Int32)) L A = A) : ∃ C', K_L_6 xs L v1 C = some (.inl (v1 + 4, C')) ∧ Inv (K + 96) C' := by
  obtain ⟨c, C1, v, C2, h1, h2, h3, h4, h5⟩ := p_flue hI (xs ((v1 + (1 : Int32))).toNatClampNeg) (xs ((v1 + (2 : Int32))).toNatClampNeg)
  refine ⟨C2, ?_, h5⟩
  unfold K_L_6
  rw [g1, g2, h1, b2_s, g1, g2, h2, b2_s]
  exact law_ok h3 h4

theorem k_7 (hI : Inv K C) (hK : K < 700000) (g1 : ∀ {α : Type} (A : Option α), gi (v1 + (1 : Int32)) L A = A) : ∃ C', K_L_7 xs L v1 C = some (.inl (v1 + 4, C')) ∧ Inv (K + 96) C' := by
  obtain ⟨c, C1, v, C2, h1, h2, h3, h4, h5⟩ := p_layer hI (xs ((v1 + (1 : Int32))).toNatClampNeg)
  refine ⟨C2, ?_, h5⟩
  unfold K_L_7
  rw [g1, h1, b2_s, g1, h2, b2_s]
  exact law_ok h3 h4

theorem k_8 (hI : Inv K C) (hK : K < 700000) (g1 : ∀ {α : Type} (A : Option α), gi (v1 + (1 : Int32)) L A = A) : ∃ C', K_L_8 xs L v1 C = some (.inl (v1 + 4, C')) ∧ Inv (K + 96) C' := by
  obtain ⟨c, C1, v, C2, h1, h2, h3, h4, h5⟩ := p_account hI (xs ((v1 + (1 : Int32))).toNatClampNeg)
  refine ⟨C2, ?_, h5⟩
  unfold K_L_8
  rw [g1, h1, b2_s, g1, h2, b2_s]
  exact law_ok h3 h4

theorem k_9 (hI : Inv K C) (hK : K < 700000) (g1 : ∀ {α : Type} (A : Option α), gi (v1 + (1 : Int32)) L A = A) (g2 : ∀ {α : Type} (A : Option α), gi (v1 + (2 : Int32)) L A = A) : ∃ C', K_L_9 xs L v1 C = some (.inl (v1 + 4, C')) ∧ Inv (K + 96) C' := by
  obtain ⟨c, C1, v, C2, h1, h2, h3, h4, h5⟩ := p_tick hI (by omega) (xs ((v1 + (1 : Int32))).toNatClampNeg) (xs ((v1 + (2 : Int32))).toNatClampNeg)
  refine ⟨C2, ?_, h5⟩
  unfold K_L_9
  rw [g1, g2, h1, b2_s, g1, g2, h2, b2_s]
  exact law_ok h3 h4

theorem k_10 (hI : Inv K C) (hK : K < 700000) (g1 : ∀ {α : Type} (A : Option α), gi (v1 + (1 : Int32)) L A = A) : ∃ C', K_L_10 xs L v1 C = some (.inl (v1 + 4, C')) ∧ Inv (K + 96) C' := by
  obtain ⟨c, C1, v, C2, h1, h2, h3, h4, h5⟩ := p_draw hI (xs ((v1 + (1 : Int32))).toNatClampNeg)
  refine ⟨C2, ?_, h5⟩
  unfold K_L_10
  rw [g1, h1, b2_s, g1, h2, b2_s]
  exact law_ok h3 h4

theorem k_11 (hI : Inv K C) (hK : K < 700000) (g1 : ∀ {α : Type} (A : Option α), gi (v1 + (1 : Int32)) L A = A) (g2 : ∀ {α : Type} (A : Option α), gi (v1 + (2 : Int32)) L A = A) : ∃ C', K_L_11 xs L v1 C = some (.inl (v1 + 4, C')) ∧ Inv (K + 96) C' := by
  obtain ⟨c, C1, v, C2, h1, h2, h3, h4, h5⟩ := p_set hI (xs ((v1 + (1 : Int32))).toNatClampNeg) (xs ((v1 + (2 : Int32))).toNatClampNeg)
  refine ⟨C2, ?_, h5⟩
  unfold K_L_11
  rw [g1, g2, h1, b2_s, g1, g2, h2, b2_s]
  exact law_ok h3 h4

theorem k_13 (hI : Inv K C) (hK : K < 700000) (g1 : ∀ {α : Type} (A : Option α), gi (v1 + (1 : Int32)) L A = A) (g2 : ∀ {α : Type} (A : Option α), gi (v1 + (2 : Int32)) L A = A) : ∃ C', K_L_13 xs L v1 C = some (.inl (v1 + 4, C')) ∧ Inv (K + 96) C' := by
  obtain ⟨c, C1, v, C2, h1, h2, h3, h4, h5⟩ := p_setDraft hI (xs ((v1 + (1 : Int32))).toNatClampNeg) (xs ((v1 + (2 : Int32))).toNatClampNeg)
  refine ⟨C2, ?_, h5⟩
  unfold K_L_13
  rw [g1, g2, h1, b2_s, g1, g2, h2, b2_s]
  exact law_ok h3 h4

theorem k_14 (hI : Inv K C) (hK : K < 700000) (g1 : ∀ {α : Type} (A : Option α), gi (v1 + (1 : Int32)) L A = A) : ∃ C', K_L_14 xs L v1 C = some (.inl (v1 + 4, C')) ∧ Inv (K + 96) C' := by
  obtain ⟨c, C1, v, C2, h1, h2, h3, h4, h5⟩ := p_lock hI (xs ((v1 + (1 : Int32))).toNatClampNeg)
  refine ⟨C2, ?_, h5⟩
  unfold K_L_14
  rw [g1, h1, b2_s, g1, h2, b2_s]
  exact law_ok h3 h4

theorem k_15 (hI : Inv K C) (hK : K < 700000) (g1 : ∀ {α : Type} (A : Option α), gi (v1 + (1 : Int32)) L A = A) : ∃ C', K_L_15 xs L v1 C = some (.inl (v1 + 4, C')) ∧ Inv (K + 96) C' := by
  obtain ⟨c, C1, v, C2, h1, h2, h3, h4, h5⟩ := p_unlock hI (xs ((v1 + (1 : Int32))).toNatClampNeg)
  refine ⟨C2, ?_, h5⟩
  unfold K_L_15
  rw [g1, h1, b2_s, g1, h2, b2_s]
  exact law_ok h3 h4

theorem k_16 (hI : Inv K C) (hK : K < 700000) (g1 : ∀ {α : Type} (A : Option α), gi (v1 + (1 : Int32)) L A = A) : ∃ C', K_L_16 xs L v1 C = some (.inl (v1 + 4, C')) ∧ Inv (K + 96) C' := by
  obtain ⟨c, C1, v, C2, h1, h2, h3, h4, h5⟩ := p_putOff hI (xs ((v1 + (1 : Int32))).toNatClampNeg)
  refine ⟨C2, ?_, h5⟩
  unfold K_L_16
  rw [g1, h1, b2_s, g1, h2, b2_s]
  exact law_ok h3 h4

theorem k_17 (hI : Inv K C) (hK : K < 700000)  : ∃ C', K_L_17 v1 C = some (.inl (v1 + 4, C')) ∧ Inv (K + 96) C' := by
  obtain ⟨c, C1, v, C2, h1, h2, h3, h4, h5⟩ := p_undo hI
  refine ⟨C2, ?_, h5⟩
  unfold K_L_17
  rw [h1, b2_s, h2, b2_s]
  exact law_ok h3 h4

theorem k_19 (hI : Inv K C) (hK : K < 700000) (g1 : ∀ {α : Type} (A : Option α), gi (v1 + (1 : Int32)) L A = A) : ∃ C', K_L_19 xs L v1 C = some (.inl (v1 + 4, C')) ∧ Inv (K + 96) C' := by
  obtain ⟨c, C1, v, C2, h1, h2, h3, h4, h5⟩ := p_whyNot hI (xs ((v1 + (1 : Int32))).toNatClampNeg)
  refine ⟨C2, ?_, h5⟩
  unfold K_L_19
  rw [g1, h1, b2_s, g1, h2, b2_s]
  exact law_ok h3 h4

theorem k_21 (hI : Inv K C) (hK : K < 700000) (g1 : ∀ {α : Type} (A : Option α), gi (v1 + (1 : Int32)) L A = A) (g2 : ∀ {α : Type} (A : Option α), gi (v1 + (2 : Int32)) L A = A) (g3 : ∀ {α : Type} (A : Option α), gi (v1 + (3 : Int32)) L A = A) : ∃ C', K_L_21 xs L v1 C = some (.inl (v1 + 4, C')) ∧ Inv (K + 96) C' := by
  obtain ⟨c, C1, v, C2, h1, h2, h3, h4, h5⟩ := p_ahead hI (by omega) (xs ((v1 + (1 : Int32))).toNatClampNeg) (xs ((v1 + (2 : Int32))).toNatClampNeg) (xs ((v1 + (3 : Int32))).toNatClampNeg)
  refine ⟨C2, ?_, h5⟩
  unfold K_L_21
  rw [g1, g2, g3, h1, b2_s, g1, g2, g3, h2, b2_s]
  exact law_ok h3 h4

theorem k_22 (hI : Inv K C) (hK : K < 700000) (g1 : ∀ {α : Type} (A : Option α), gi (v1 + (1 : Int32)) L A = A) (g2 : ∀ {α : Type} (A : Option α), gi (v1 + (2 : Int32)) L A = A) : ∃ C', K_L_22 xs L v1 C = some (.inl (v1 + 4, C')) ∧ Inv (K + 96) C' := by
  obtain ⟨c, C1, v, C2, h1, h2, h3, h4, h5⟩ := p_warmAfter hI (by omega) (xs ((v1 + (1 : Int32))).toNatClampNeg) (xs ((v1 + (2 : Int32))).toNatClampNeg)
  refine ⟨C2, ?_, h5⟩
  unfold K_L_22
  rw [g1, g2, h1, b2_s, g1, g2, h2, b2_s]
  exact law_ok h3 h4

theorem k_23 (hI : Inv K C) (hK : K < 700000) (g1 : ∀ {α : Type} (A : Option α), gi (v1 + (1 : Int32)) L A = A) (g2 : ∀ {α : Type} (A : Option α), gi (v1 + (2 : Int32)) L A = A) : ∃ C', K_L_23 xs L v1 C = some (.inl (v1 + 4, C')) ∧ Inv (K + 96) C' := by
  obtain ⟨c, C1, v, C2, h1, h2, h3, h4, h5⟩ := p_bearable hI (by omega) (xs ((v1 + (1 : Int32))).toNatClampNeg) (xs ((v1 + (2 : Int32))).toNatClampNeg)
  refine ⟨C2, ?_, h5⟩
  unfold K_L_23
  rw [g1, g2, h1, b2_s, g1, g2, h2, b2_s]
  exact law_ok h3 h4

theorem k_24 (hI : Inv K C) (hK : K < 700000) (g1 : ∀ {α : Type} (A : Option α), gi (v1 + (1 : Int32)) L A = A) (g2 : ∀ {α : Type} (A : Option α), gi (v1 + (2 : Int32)) L A = A) : ∃ C', K_L_24 xs L v1 C = some (.inl (v1 + 4, C')) ∧ Inv (K + 96) C' := by
  obtain ⟨c, C1, v, C2, h1, h2, h3, h4, h5⟩ := p_cheapestPurge hI (by omega) (xs ((v1 + (1 : Int32))).toNatClampNeg) (xs ((v1 + (2 : Int32))).toNatClampNeg)
  refine ⟨C2, ?_, h5⟩
  unfold K_L_24
  rw [g1, g2, h1, b2_s, g1, g2, h2, b2_s]
  exact law_ok h3 h4

theorem k_25 (hI : Inv K C) (hK : K < 700000) (g1 : ∀ {α : Type} (A : Option α), gi (v1 + (1 : Int32)) L A = A) (g2 : ∀ {α : Type} (A : Option α), gi (v1 + (2 : Int32)) L A = A) (g3 : ∀ {α : Type} (A : Option α), gi (v1 + (3 : Int32)) L A = A) : ∃ C', K_L_25 xs L v1 C = some (.inl (v1 + 4, C')) ∧ Inv (K + 96) C' := by
  obtain ⟨c, C1, v, C2, h1, h2, h3, h4, h5⟩ := p_runScript hI (by omega) (xs ((v1 + (1 : Int32))).toNatClampNeg) ((((((xs ((v1 + (2 : Int32))).toNatClampNeg)).toInt64) <<< (((32 : Int32)).toInt64 &&& 63)) ||| ((((xs ((v1 + (3 : Int32))).toNatClampNeg)).toInt64) &&& (4294967295 : Int64))))
  refine ⟨C2, ?_, h5⟩
  unfold K_L_25
  rw [g1, g2, g3, h1, b2_s, g1, g2, g3, h2, b2_s]
  exact law_ok h3 h4

theorem k_26 (hI : Inv K C) (hK : K < 700000) (g1 : ∀ {α : Type} (A : Option α), gi (v1 + (1 : Int32)) L A = A) (g2 : ∀ {α : Type} (A : Option α), gi (v1 + (2 : Int32)) L A = A) (g3 : ∀ {α : Type} (A : Option α), gi (v1 + (3 : Int32)) L A = A) : ∃ C', K_L_26 xs L v1 C = some (.inl (v1 + 4, C')) ∧ Inv (K + 96) C' := by
  obtain ⟨c, C1, v, C2, h1, h2, h3, h4, h5⟩ := p_simulate hI (by omega) ((((((xs ((v1 + (1 : Int32))).toNatClampNeg)).toInt64) <<< (((32 : Int32)).toInt64 &&& 63)) ||| ((((xs ((v1 + (2 : Int32))).toNatClampNeg)).toInt64) &&& (4294967295 : Int64)))) (xs ((v1 + (3 : Int32))).toNatClampNeg)
  refine ⟨C2, ?_, h5⟩
  unfold K_L_26
  rw [g1, g2, g3, h1, b2_s, g1, g2, g3, h2, b2_s]
  exact law_ok h3 h4

theorem k_27 (hI : Inv K C) (hK : K < 700000) (g1 : ∀ {α : Type} (A : Option α), gi (v1 + (1 : Int32)) L A = A) : ∃ C', K_L_27 xs L v1 C = some (.inl (v1 + 4, C')) ∧ Inv (K + 96) C' := by
  obtain ⟨c, C1, v, C2, h1, h2, h3, h4, h5⟩ := p_save hI (xs ((v1 + (1 : Int32))).toNatClampNeg)
  refine ⟨C2, ?_, h5⟩
  unfold K_L_27
  rw [g1, h1, b2_s, g1, h2, b2_s]
  exact law_ok h3 h4

theorem k_28 (hI : Inv K C) (hK : K < 700000) (g1 : ∀ {α : Type} (A : Option α), gi (v1 + (1 : Int32)) L A = A) : ∃ C', K_L_28 xs L v1 C = some (.inl (v1 + 4, C')) ∧ Inv (K + 96) C' := by
  obtain ⟨c, C1, v, C2, h1, h2, h3, h4, h5⟩ := p_restore hI (xs ((v1 + (1 : Int32))).toNatClampNeg)
  refine ⟨C2, ?_, h5⟩
  unfold K_L_28
  rw [g1, h1, b2_s, g1, h2, b2_s]
  exact law_ok h3 h4

theorem k_12 (hI : Inv K C) (g1 : ∀ {α : Type} (A : Option α), gi (v1 + (1 : Int32)) L A = A) (g2 : ∀ {α : Type} (A : Option α), gi (v1 + (2 : Int32)) L A = A) : ∃ C', K_L_12 xs L v1 C = some (.inl (v1 + 4, C')) ∧ Inv (K + 96) C' := by
  have r0 : Res K (F_L_setFlue (xs ((v1 + (1 : Int32))).toNatClampNeg) 0 C) (F_X9_setFlue (xs ((v1 + (1 : Int32))).toNatClampNeg) 0) := p_setFlue hI (xs ((v1 + (1 : Int32))).toNatClampNeg) false
  have r1 : Res K (F_L_setFlue (xs ((v1 + (1 : Int32))).toNatClampNeg) 1 C) (F_X9_setFlue (xs ((v1 + (1 : Int32))).toNatClampNeg) 1) := p_setFlue hI (xs ((v1 + (1 : Int32))).toNatClampNeg) true
  unfold K_L_12
  rw [g1, g2]
  unfold J_L_law_811
  by_cases hz : (xs ((v1 + (2 : Int32))).toNatClampNeg) = 0
  · obtain ⟨c, C1, v, C2, h1, h2, h3, h4, h5⟩ := r0
    refine ⟨C2, ?_, h5⟩
    rw [if_pos hz, h1, b2_s, g1, g2, if_pos hz]
    unfold J_L_law_838
    rw [h2, b2_s]
    exact law_ok h3 h4
  · obtain ⟨c, C1, v, C2, h1, h2, h3, h4, h5⟩ := r1
    refine ⟨C2, ?_, h5⟩
    rw [if_neg hz, h1, b2_s, g1, g2, if_neg hz]
    unfold J_L_law_838
    rw [h2, b2_s]
    exact law_ok h3 h4

theorem k_20 (hI : Inv K C) (g1 : ∀ {α : Type} (A : Option α), gi (v1 + (1 : Int32)) L A = A) (g2 : ∀ {α : Type} (A : Option α), gi (v1 + (2 : Int32)) L A = A) : ∃ C', K_L_20 xs L v1 C = some (.inl (v1 + 4, C')) ∧ Inv (K + 96) C' := by
  have r0 : Res K (F_L_smallestSet (xs ((v1 + (1 : Int32))).toNatClampNeg) 0 C) (F_X9_smallestSet (xs ((v1 + (1 : Int32))).toNatClampNeg) 0) := p_smallestSet hI (xs ((v1 + (1 : Int32))).toNatClampNeg) 0
  have r1 : Res K (F_L_smallestSet (xs ((v1 + (1 : Int32))).toNatClampNeg) 1 C) (F_X9_smallestSet (xs ((v1 + (1 : Int32))).toNatClampNeg) 1) := p_smallestSet hI (xs ((v1 + (1 : Int32))).toNatClampNeg) 1
  unfold K_L_20
  rw [g1, g2]
  unfold J_L_law_1244
  by_cases hz : (xs ((v1 + (2 : Int32))).toNatClampNeg) = 0
  · obtain ⟨c, C1, v, C2, h1, h2, h3, h4, h5⟩ := r0
    refine ⟨C2, ?_, h5⟩
    rw [if_pos hz, h1, b2_s, g1, g2, if_pos hz]
    unfold J_L_law_1271
    rw [h2, b2_s]
    exact law_ok h3 h4
  · obtain ⟨c, C1, v, C2, h1, h2, h3, h4, h5⟩ := r1
    refine ⟨C2, ?_, h5⟩
    rw [if_neg hz, h1, b2_s, g1, g2, if_neg hz]
    unfold J_L_law_1271
    rw [h2, b2_s]
    exact law_ok h3 h4

theorem k_1 (hI : Inv K C) : ∃ C', K_L_1 v1 C = some (.inl (v1 + 4, C')) ∧ Inv (K + 96) C' := by
  obtain ⟨v, D, E, h1, h2, h3⟩ := p_clear hI
  refine ⟨E, ?_, h3⟩
  unfold K_L_1
  rw [h1, b2_s, h2, b2_s, if_pos rfl, nm_s]

theorem k_2 (hI : Inv K C) : ∃ C', K_L_2 v1 C = some (.inl (v1 + 4, C')) ∧ Inv (K + 96) C' := by
  obtain ⟨v, D, E, h1, h2, h3⟩ := p_error hI
  refine ⟨E, ?_, h3⟩
  unfold K_L_2
  rw [h1, b2_s, h2, b2_s, if_pos rfl, nm_s]

theorem k_18 (hI : Inv K C) (hK : K < 700000) : ∃ C', K_L_18 v1 C = some (.inl (v1 + 4, C')) ∧ Inv (K + 96) C' := by
  obtain ⟨v, E, h1, h2, h3⟩ := p_next hI (by omega)
  refine ⟨E, ?_, h3⟩
  unfold K_L_18
  rw [h1, b2_s, h2, b2_s, if_pos rfl, nm_s]

theorem law_step (hL : L ≤ 2048) {i : Nat} (hi : i < L / 4) (hI : Inv (96 * i) C) : ∃ C', S_L_law_23 xs L (nI (4 * i)) C = some (.inl (nI (4 * (i + 1)), C')) ∧ Inv (96 * (i + 1)) C' := by
  have hK : 96 * i < 700000 := by omega
  have g1 : ∀ {α : Type} (A : Option α), gi (nI (4 * i) + (1 : Int32)) L A = A := fun A => by rw [nI_1, gi_n (by omega) (by omega)]
  have g2 : ∀ {α : Type} (A : Option α), gi (nI (4 * i) + (2 : Int32)) L A = A := fun A => by rw [a2, gi_n (by omega) (by omega)]
  have g3 : ∀ {α : Type} (A : Option α), gi (nI (4 * i) + (3 : Int32)) L A = A := fun A => by rw [a3, gi_n (by omega) (by omega)]
  have e4 : nI (4 * (i + 1)) = nI (4 * i) + 4 := by rw [a4, show 4 * i + 4 = 4 * (i + 1) by omega]
  rw [e4, show 96 * (i + 1) = 96 * i + 96 by omega]
  unfold S_L_law_23
  rw [if_neg (show ¬ (Int32.ofNat L) - (4 : Int32) < nI (4 * i) from by
    show ¬ nI L - nI 4 < nI (4 * i)
    rw [pk_sub (show 4 ≤ L by omega)]
    exact nI_nlt (by omega) (by omega)), gi_n (show 4 * i < L by omega) (by omega), nm_s]
  by_cases c0 : xs (nI (4 * i)).toNatClampNeg &&& (31 : Int32) = (0 : Int32)
  · rw [if_pos c0]
    exact k_0 hI hK g1
  rw [if_neg c0]
  by_cases c1 : xs (nI (4 * i)).toNatClampNeg &&& (31 : Int32) = (1 : Int32)
  · rw [if_pos c1]
    exact k_1 hI
  rw [if_neg c1]
  by_cases c2 : xs (nI (4 * i)).toNatClampNeg &&& (31 : Int32) = (2 : Int32)
  · rw [if_pos c2]
    exact k_2 hI
  rw [if_neg c2]
  by_cases c3 : xs (nI (4 * i)).toNatClampNeg &&& (31 : Int32) = (3 : Int32)
  · rw [if_pos c3]
    exact k_3 hI hK
  rw [if_neg c3]
  by_cases c4 : xs (nI (4 * i)).toNatClampNeg &&& (31 : Int32) = (4 : Int32)
  · rw [if_pos c4]
    exact k_4 hI hK g1
  rw [if_neg c4]
  by_cases c5 : xs (nI (4 * i)).toNatClampNeg &&& (31 : Int32) = (5 : Int32)
  · rw [if_pos c5]
    exact k_5 hI hK g1 g2
  rw [if_neg c5]
  by_cases c6 : xs (nI (4 * i)).toNatClampNeg &&& (31 : Int32) = (6 : Int32)
  · rw [if_pos c6]
    exact k_6 hI hK g1 g2
  rw [if_neg c6]
  by_cases c7 : xs (nI (4 * i)).toNatClampNeg &&& (31 : Int32) = (7 : Int32)
  · rw [if_pos c7]
    exact k_7 hI hK g1
  rw [if_neg c7]
  by_cases c8 : xs (nI (4 * i)).toNatClampNeg &&& (31 : Int32) = (8 : Int32)
  · rw [if_pos c8]
    exact k_8 hI hK g1
  rw [if_neg c8]
  by_cases c9 : xs (nI (4 * i)).toNatClampNeg &&& (31 : Int32) = (9 : Int32)
  · rw [if_pos c9]
    exact k_9 hI hK g1 g2
  rw [if_neg c9]
  by_cases c10 : xs (nI (4 * i)).toNatClampNeg &&& (31 : Int32) = (10 : Int32)
  · rw [if_pos c10]
    exact k_10 hI hK g1
  rw [if_neg c10]
  by_cases c11 : xs (nI (4 * i)).toNatClampNeg &&& (31 : Int32) = (11 : Int32)
  · rw [if_pos c11]
    exact k_11 hI hK g1 g2
  rw [if_neg c11]
  by_cases c12 : xs (nI (4 * i)).toNatClampNeg &&& (31 : Int32) = (12 : Int32)
  · rw [if_pos c12]
    exact k_12 hI g1 g2
  rw [if_neg c12]
  by_cases c13 : xs (nI (4 * i)).toNatClampNeg &&& (31 : Int32) = (13 : Int32)
  · rw [if_pos c13]
    exact k_13 hI hK g1 g2
  rw [if_neg c13]
  by_cases c14 : xs (nI (4 * i)).toNatClampNeg &&& (31 : Int32) = (14 : Int32)
  · rw [if_pos c14]
    exact k_14 hI hK g1
  rw [if_neg c14]
  by_cases c15 : xs (nI (4 * i)).toNatClampNeg &&& (31 : Int32) = (15 : Int32)
  · rw [if_pos c15]
    exact k_15 hI hK g1
  rw [if_neg c15]
  by_cases c16 : xs (nI (4 * i)).toNatClampNeg &&& (31 : Int32) = (16 : Int32)
  · rw [if_pos c16]
    exact k_16 hI hK g1
  rw [if_neg c16]
  by_cases c17 : xs (nI (4 * i)).toNatClampNeg &&& (31 : Int32) = (17 : Int32)
  · rw [if_pos c17]
    exact k_17 hI hK
  rw [if_neg c17]
  by_cases c18 : xs (nI (4 * i)).toNatClampNeg &&& (31 : Int32) = (18 : Int32)
  · rw [if_pos c18]
    exact k_18 hI hK
  rw [if_neg c18]
  by_cases c19 : xs (nI (4 * i)).toNatClampNeg &&& (31 : Int32) = (19 : Int32)
  · rw [if_pos c19]
    exact k_19 hI hK g1
  rw [if_neg c19]
  by_cases c20 : xs (nI (4 * i)).toNatClampNeg &&& (31 : Int32) = (20 : Int32)
  · rw [if_pos c20]
    exact k_20 hI g1 g2
  rw [if_neg c20]
  by_cases c21 : xs (nI (4 * i)).toNatClampNeg &&& (31 : Int32) = (21 : Int32)
  · rw [if_pos c21]
    exact k_21 hI hK g1 g2 g3
  rw [if_neg c21]
  by_cases c22 : xs (nI (4 * i)).toNatClampNeg &&& (31 : Int32) = (22 : Int32)
  · rw [if_pos c22]
    exact k_22 hI hK g1 g2
  rw [if_neg c22]
  by_cases c23 : xs (nI (4 * i)).toNatClampNeg &&& (31 : Int32) = (23 : Int32)
  · rw [if_pos c23]
    exact k_23 hI hK g1 g2
  rw [if_neg c23]
  by_cases c24 : xs (nI (4 * i)).toNatClampNeg &&& (31 : Int32) = (24 : Int32)
  · rw [if_pos c24]
    exact k_24 hI hK g1 g2
  rw [if_neg c24]
  by_cases c25 : xs (nI (4 * i)).toNatClampNeg &&& (31 : Int32) = (25 : Int32)
  · rw [if_pos c25]
    exact k_25 hI hK g1 g2 g3
  rw [if_neg c25]
  by_cases c26 : xs (nI (4 * i)).toNatClampNeg &&& (31 : Int32) = (26 : Int32)
  · rw [if_pos c26]
    exact k_26 hI hK g1 g2 g3
  rw [if_neg c26]
  by_cases c27 : xs (nI (4 * i)).toNatClampNeg &&& (31 : Int32) = (27 : Int32)
  · rw [if_pos c27]
    exact k_27 hI hK g1
  rw [if_neg c27]
  by_cases c28 : xs (nI (4 * i)).toNatClampNeg &&& (31 : Int32) = (28 : Int32)
  · rw [if_pos c28]
    exact k_28 hI hK g1
  rw [if_neg c28]
  exact ⟨C, by rw [nm_s], hI.mo (by omega)⟩
theorem law_all (hL : L ≤ 2048) (hI : Inv 0 C) : ∃ D, F_L_law xs L C = some (1, D) := by
  have run : ∀ n, n ≤ L / 4 → ∃ D, Inv (96 * n) D ∧ ∀ m, iter (fun x => S_L_law_23 xs L x.1 x.2) (n + m) (nI 0, C) = iter (fun x => S_L_law_23 xs L x.1 x.2) m (nI (4 * n), D) := fun n => by
    induction n with
    | zero => intro _; exact ⟨C, hI, fun m => by rw [Nat.zero_add]⟩
    | succ n ih =>
      intro hn
      obtain ⟨D, hD, hq⟩ := ih (by omega)
      obtain ⟨E, he, hE⟩ := law_step (xs := xs) hL (show n < L / 4 by omega) hD
      refine ⟨E, hE, fun m => ?_⟩
      rw [show n + 1 + m = n + (m + 1) by omega, hq]
      exact iter_s _ he m
  obtain ⟨D, hD, hq⟩ := run (L / 4) (Nat.le_refl _)
  have hend : S_L_law_23 xs L (nI (4 * (L / 4))) D = some (.inr (nI (4 * (L / 4)), D)) := by
    unfold S_L_law_23
    rw [if_pos]
    show nI L - nI 4 < nI (4 * (L / 4))
    rw [fa_lt, pk_sub_toInt (by omega) (by decide), ti _ (by omega)]
    omega
  refine ⟨D, ?_⟩
  unfold F_L_law
  have e : iter (fun x => S_L_law_23 xs L x.1 x.2) fuel ((0 : Int32), C) = some (nI (4 * (L / 4)), D) := by
    rw [show fuel = L / 4 + ((999 - L / 4) + 1) by unfold fuel; omega]
    exact (hq _).trans (iter_e _ hend _)
  rw [e, b1_s, u2_s]
end LAW
/-! the start -/
def c0 : TC := ((((4, 50), 50), (1, fun _ => (10, 0))), fun _ => 40)
theorem ok_c0 : Ok c0 := ⟨⟨⟨⟨⟨by decide, by decide⟩, by decide⟩, by decide⟩, by decide, by decide, fun _ _ => ⟨(by decide : (10 : Nat) ≤ 30), (by decide : (0 : Nat) ≤ 1)⟩⟩, fun _ _ => (by decide : (40 : Nat) ≤ 99)⟩
theorem a7_c0 : A7 c0 C0 := ⟨⟨⟨⟨rfl, rfl⟩, rfl⟩, rfl, fun j hj => by
  have hj' : j < 1 := hj
  have : j = 0 := by omega
  subst this
  exact ⟨rfl, rfl⟩⟩, fun a ha => by
  have ha' : a < 4 := ha
  show (if a < 8 then (40 : Int32) else 0) = nI 40
  rw [if_pos (by omega)]
  rfl⟩
theorem start_inv {y : Pg} (hy : ∀ k, k < 65 → y k = bgv k) : Inv 0 (mu (mu (mu (sr (sr C0 0 (cpg 1 4 (bpg c0) (C0 0))) 33 y) 33 18 50) 33 19 50) 33 30 10) := by
  have r : ∀ q, q ≠ 0 → q ≠ 33 → (mu (mu (mu (sr (sr C0 0 (cpg 1 4 (bpg c0) (C0 0))) 33 y) 33 18 50) 33 19 50) 33 30 10) q = C0 q := fun q a b => by rw [mu_r _ _ _ b, mu_r _ _ _ b, mu_r _ _ _ b, sr_ne _ _ b, sr_ne _ _ a]
  have r0 : (mu (mu (mu (sr (sr C0 0 (cpg 1 4 (bpg c0) (C0 0))) 33 y) 33 18 50) 33 19 50) 33 30 10) 0 = cpg 1 4 (bpg c0) (C0 0) := by rw [mu_r _ _ _ (show 0 ≠ 33 by decide), mu_r _ _ _ (show 0 ≠ 33 by decide), mu_r _ _ _ (show 0 ≠ 33 by decide), sr_ne _ _ (show 0 ≠ 33 by decide), sr_same]
  have r33 : ∀ k, (mu (mu (mu (sr (sr C0 0 (cpg 1 4 (bpg c0) (C0 0))) 33 y) 33 18 50) 33 19 50) 33 30 10) 33 k = if k = 30 then 10 else if k = 19 then 50 else if k = 18 then 50 else y k := fun k => by
    by_cases q1 : k = 30
    · subst q1; rw [mu_at, if_pos rfl]
    · rw [mu_o _ _ q1, if_neg q1]
      by_cases q2 : k = 19
      · subst q2; rw [mu_at, if_pos rfl]
      · rw [mu_o _ _ q2, if_neg q2]
        by_cases q3 : k = 18
        · subst q3; rw [mu_at, if_pos rfl]
        · rw [mu_o _ _ q3, if_neg q3, sr_same]
  generalize mu (mu (mu (sr (sr C0 0 (cpg 1 4 (bpg c0) (C0 0))) 33 y) 33 18 50) 33 19 50) 33 30 10 = C at r r0 r33
  have ya : Agree 1 4 (cpg 1 4 (bpg c0) (C0 0)) (bpg c0) := cpg_a _ _ _ _
  have za : Agree 1 4 (C 33) (bpg c0) := by
    refine ⟨fun k hk => ?_, fun j hj => ?_, fun i f hi hf => ?_⟩
    · rw [r33, if_neg (by omega)]
      by_cases q2 : k = 19
      · subst q2; rfl
      · rw [if_neg q2]
        by_cases q3 : k = 18
        · subst q3; rfl
        · rw [if_neg q3, hy k (by omega), bpg_n c0 hk q3 q2]
    · rw [r33, if_neg (by omega), if_neg (by omega), if_neg (by omega), hy _ (by omega), bpg_t c0 (by omega)]
      unfold bgv
      rw [if_neg (by omega), if_neg (by omega), if_neg (by omega), if_neg (by omega), if_neg (by omega), if_neg (by omega), if_neg (by omega), if_neg (by omega), if_pos (by omega)]
      rfl
    · have : i = 0 := by omega
      subst this
      rw [r33, bpg_b c0 (by decide) hf]
      by_cases q0 : f = 0
      · subst q0; rfl
      · rw [if_neg (by omega), if_neg (by omega), if_neg (by omega), if_neg q0, hy _ (by omega)]
        have hz : bgv (30 + 7 * 0 + f) = 0 := by
          unfold bgv
          rw [if_neg (by omega), if_neg (by omega), if_neg (by omega), if_neg (by omega), if_neg (by omega), if_neg (by omega), if_neg (by omega), if_neg (by omega), if_neg (by omega)]
        rw [hz]
        split <;> rfl
  refine ⟨1, 4, ⟨by decide, by decide, by decide, by decide, by rw [r 30 (by decide) (by decide)]; rfl, by rw [r 30 (by decide) (by decide)]; rfl⟩, ?_, ⟨0, by decide, by rw [r 18 (by decide) (by decide)]; rfl, by rw [r 30 (by decide) (by decide)]; rfl, fun k hk => absurd hk (Nat.not_lt_zero k)⟩, ⟨0, 0, by decide, by decide, by rw [r 23 (by decide) (by decide)]; rfl, by rw [r 23 (by decide) (by decide)]; rfl, by rw [r 30 (by decide) (by decide)]; rfl, fun j hj => absurd hj (Nat.not_lt_zero j)⟩, fun k hk => ⟨by rw [r 24 (by decide) (by decide), r 37 (by decide) (by decide)]; rfl, Or.inl (by rw [r 24 (by decide) (by decide)]; rfl), fun e => absurd e (by rw [r 24 (by decide) (by decide)]; show ¬ (0 : Int32) = 1; decide)⟩⟩
  rw [r0]
  exact ⟨cpg_65 _ _ _ _, cpg_66 _ _ _ _, (bpg_wf ok_c0 0).ag ya, ya.tr za.sy⟩
theorem whole_start {p : Program} {e : Env} {s : State} {m : MethodId} {below : List Frame} {meth : Method} {c : Code} (l : Launch) (hflags : l.flags = flags0) {b L : Nat} {xs : Nat → Int32} (hL : L ≤ 2048) (A0 : lw_At p s m meth c b L xs) : W p l e room_1 s m #[Value.ref b] below meth c s.heap [] 0 0 (lw_Z below #[Value.ref b] s) (entryFrame m ([Value.ref b] : List Value).toArray 7) := by
  obtain ⟨y, hM, hy⟩ := g_begin (sr C0 0 (cpg 1 4 (bpg c0) (C0 0))) (r := 33) rfl
  obtain ⟨D, hD⟩ := law_all (xs := xs) hL (start_inv hy)
  exact whole_of l hflags hL A0 (g_beginAs ok_c0 a7_c0) (fun r hr => sr_ne _ _ hr) hM (sr_ne _ _ (by decide)) hD
