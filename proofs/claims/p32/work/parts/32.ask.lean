/-! rooms, turns, reasons -/
def fiS (y : Pg) (i : Nat) : Nat := if y (30 + 7 * i + 1) = 0 then 0 else 1
theorem fiS_lt (y : Pg) (i : Nat) : fiS y i < 2 := by unfold fiS; split <;> decide
def rm (N : Nat) (y : Pg) (i : Nat) : Int32 := if y (20 + fiS y i) = 0 then 0 else if y (18 + fiS y i) < usS N (y (30 + 7 * i + 1)) y + y (30 + 7 * i) then 0 else 1
def wt (y : Pg) (i : Nat) : Prop := y (30 + 7 * i + 2) = 0 ∨ y (30 + 7 * i + 2) = 3
def wtD (y : Pg) (i : Nat) : Decidable (wt y i) := by unfold wt; infer_instance
def may (N : Nat) (y : Pg) (i : Nat) : Bool := @decide (wt y i) (wtD y i) && decide (rm N y i ≠ 0)
def enc : Option Nat → Int32
  | none => -9
  | some b => nI b
def nxf (N : Nat) (y : Pg) (i : Nat) (t : Option Nat) : Option Nat := if may N y i then (match t with
  | none => some i
  | some b => if y (30 + 7 * i + 4) < y (30 + 7 * b + 4) then some i else some b) else t
def nx (N : Nat) (y : Pg) : Option Nat := fe (nxf N y) N none
def rsf (y : Pg) (i : Nat) (t : Option Nat) : Option Nat := if y (30 + 7 * i + 2) = 2 then (match t with
  | none => some i
  | some b => if y (30 + 7 * i + 4) < y (30 + 7 * b + 4) then some b else some i) else t
theorem may_t {N : Nat} {y : Pg} {i : Nat} (hw : wt y i) (hr : ¬ rm N y i = 0) : may N y i = true := by unfold may; simp [hw, hr]
theorem may_w {N : Nat} {y : Pg} {i : Nat} (hw : ¬ wt y i) : ¬ may N y i = true := by unfold may; simp [hw]
theorem may_r {N : Nat} {y : Pg} {i : Nat} (hr : rm N y i = 0) : ¬ may N y i = true := by unfold may; simp [hr]
theorem nxf_no {N : Nat} {y : Pg} {i : Nat} (h : ¬ may N y i = true) (t : Option Nat) : nxf N y i t = t := if_neg h
theorem nxf_0 {N : Nat} {y : Pg} {i : Nat} (h : may N y i = true) : nxf N y i none = some i := if_pos h
theorem nxf_1 {N : Nat} {y : Pg} {i b : Nat} (h : may N y i = true) (hl : y (30 + 7 * i + 4) < y (30 + 7 * b + 4)) : nxf N y i (some b) = some i := (if_pos h).trans (if_pos hl)
theorem nxf_2 {N : Nat} {y : Pg} {i b : Nat} (hl : ¬ y (30 + 7 * i + 4) < y (30 + 7 * b + 4)) : nxf N y i (some b) = some b := by
  by_cases h : may N y i = true
  · exact (if_pos h).trans (if_neg hl)
  · exact if_neg h
theorem rsf_no {y : Pg} {i : Nat} (h : ¬ y (30 + 7 * i + 2) = 2) (t : Option Nat) : rsf y i t = t := if_neg h
theorem rsf_0 {y : Pg} {i : Nat} (h : y (30 + 7 * i + 2) = 2) : rsf y i none = some i := if_pos h
theorem rsf_1 {y : Pg} {i b : Nat} (hl : y (30 + 7 * i + 4) < y (30 + 7 * b + 4)) : rsf y i (some b) = some b := by
  by_cases h : y (30 + 7 * i + 2) = 2
  · exact (if_pos h).trans (if_pos hl)
  · exact if_neg h
theorem rsf_2 {y : Pg} {i b : Nat} (h : y (30 + 7 * i + 2) = 2) (hl : ¬ y (30 + 7 * i + 4) < y (30 + 7 * b + 4)) : rsf y i (some b) = some i := (if_pos h).trans (if_neg hl)
theorem nxf_lt {N : Nat} {y : Pg} {i : Nat} {t : Option Nat} (h : ∀ b, t = some b → b < i) (b : Nat) (hb : nxf N y i t = some b) : b < i + 1 := by
  by_cases hm : may N y i = true
  · cases t with
    | none => rw [nxf_0 hm] at hb; cases hb; omega
    | some c =>
      have := h c rfl
      by_cases hl : y (30 + 7 * i + 4) < y (30 + 7 * c + 4)
      · rw [nxf_1 hm hl] at hb; cases hb; omega
      · rw [nxf_2 hl] at hb; cases hb; omega
  · rw [nxf_no hm] at hb
    have := h b hb
    omega
theorem rsf_lt {y : Pg} {i : Nat} {t : Option Nat} (h : ∀ b, t = some b → b < i) (b : Nat) (hb : rsf y i t = some b) : b < i + 1 := by
  by_cases hm : y (30 + 7 * i + 2) = 2
  · cases t with
    | none => rw [rsf_0 hm] at hb; cases hb; omega
    | some c =>
      have := h c rfl
      by_cases hl : y (30 + 7 * i + 4) < y (30 + 7 * c + 4)
      · rw [rsf_1 hl] at hb; cases hb; omega
      · rw [rsf_2 hm hl] at hb; cases hb; omega
  · rw [rsf_no hm] at hb
    have := h b hb
    omega
def rs (N : Nat) (y : Pg) : Option Nat := fe (rsf y) N none
def whf (y : Pg) (i : Nat) (v : Int32) : Int32 := if @decide (wt y i) (wtD y i) then (if y (20 + fiS y i) = 0 then (if 2 < v then 2 else v) else (if 1 < v then 1 else v)) else v
def wh (N : Nat) (y : Pg) : Int32 := fe (whf y) N 3
theorem f_waits (C : Mem) (q i : Nat) : F_X0_waits q i C = some ((if @decide (wt (C q) i) (wtD (C q) i) then 1 else 0), C) := by
  unfold F_X0_waits
  by_cases h0 : C q (30 + 7 * i + 2) = 0
  · have hw : wt (C q) i := Or.inl h0
    rw [if_pos h0, if_pos (by simpa using hw)]
  · rw [if_neg h0]
    by_cases h3 : C q (30 + 7 * i + 2) = 3
    · have hw : wt (C q) i := Or.inr h3
      rw [if_pos h3, if_pos (by simpa using hw)]
    · have hw : ¬ wt (C q) i := fun z => z.elim h0 h3
      rw [if_neg h3, if_neg (by simpa using hw)]
theorem f_waits_t {C : Mem} {q i : Nat} (h : wt (C q) i) : F_X0_waits q i C = some (1, C) := by rw [f_waits, if_pos (by simpa using h)]
theorem f_waits_f {C : Mem} {q i : Nat} (h : ¬ wt (C q) i) : F_X0_waits q i C = some (0, C) := by rw [f_waits, if_neg (by simpa using h)]
theorem whf_t {y : Pg} {i : Nat} (h : wt y i) (v : Int32) : whf y i v = if y (20 + fiS y i) = 0 then (if 2 < v then 2 else v) else (if 1 < v then 1 else v) := by unfold whf; rw [if_pos (by simpa using h)]
theorem whf_f {y : Pg} {i : Nat} (h : ¬ wt y i) (v : Int32) : whf y i v = v := by unfold whf; rw [if_neg (by simpa using h)]
theorem f_flueOf (C : Mem) (q : Nat) (x : Int32) : F_X5_flueOf q x C = some ((if x = 0 then 0 else 1), C) := by
  unfold F_X5_flueOf
  split <;> rfl
theorem nx_lt {N : Nat} {y : Pg} {b : Nat} (h : nx N y = some b) : b < N :=
  fe_inv (I := fun i t => ∀ b, t = some b → b < i) (fun _ h => by cases h) (fun _ _ _ h => nxf_lt h) b h
theorem rs_lt {N : Nat} {y : Pg} {b : Nat} (h : rs N y = some b) : b < N :=
  fe_inv (I := fun i t => ∀ b, t = some b → b < i) (fun _ h => by cases h) (fun _ _ _ h => rsf_lt h) b h
theorem rm_01 (N : Nat) (y : Pg) (i : Nat) : rm N y i = 0 ∨ rm N y i = 1 := by
  unfold rm
  split
  · exact Or.inl rfl
  · split
    · exact Or.inl rfl
    · exact Or.inr rfl
section ASK
variable {C : Mem} {q r N Y : Nat}
theorem f_hasRoom (hN : C q 65 = nI N) (h5 : N ≤ 5) (i : Nat) : F_X5_hasRoomFor q q i C = some (rm N (C q) i, C) := by
  unfold F_X5_hasRoomFor rm
  rw [f_flueOf, b2_s]
  show gn (fiS (C q) i) 2 _ = _
  rw [gn_p (fiS_lt _ _)]
  by_cases h : C q (20 + fiS (C q) i) = 0
  · rw [if_pos h]
    show (if C q (20 + fiS (C q) i) = 0 then _ else _) = _
    rw [if_pos h]
  · rw [if_neg h]
    show (if C q (20 + fiS (C q) i) = 0 then _ else _) = _
    rw [if_neg h, f_useOf hN h5, b2_s]
    show (if C q (18 + fiS (C q) i) < _ then _ else _) = _
    split <;> rfl
theorem enc_ne {b : Nat} (h : b < 5) : enc (some b) ≠ -9 := by
  show nI b ≠ -9
  intro e
  have h1 := congrArg Int32.toInt e
  rw [ti b (by omega)] at h1
  have h2 : (-9 : Int32).toInt = -9 := rfl
  omega
theorem f_firstToStart (hN : C q 65 = nI N) (h5 : N ≤ 5) : F_X5_firstToStart q C = some (enc (nx N (C q)), C) := by
  let few : Option Nat → Int32 := fun t => match t with
    | none => 0
    | some b => C q (30 + 7 * b + 4)
  have h : iter (fun w => S_X5_firstToStart_7 q w.1 w.2.1 w.2.2.1 w.2.2.2) fuel ((-9 : Int32), (0 : Int32), (0 : Int32), C) = some (enc (fe (nxf N (C q)) N none), few (fe (nxf N (C q)) N none), nI N, C) :=
    iter_emb (n := N) (t0 := none) (fun i t => (enc t, few t, nI i, C)) (nxf N (C q)) (fun i t => ∀ b, t = some b → b < i) (fun t => (enc t, few t, nI N, C)) (by omega) (fun b h => by cases h) (fun i t hi hI => ⟨by
      show S_X5_firstToStart_7 q (enc t) (few t) (nI i) C = _
      unfold S_X5_firstToStart_7
      rw [hN, if_neg (nI_ge hi (by omega)), gi_n (show i < 5 by omega) (by decide), nI_clamp (show i < 2 ^ 31 by omega)]
      by_cases hw : wt (C q) i
      · rw [f_waits_t hw, b2_s, if_neg (by decide)]
        cases t with
        | none =>
          rw [if_pos (show enc none = -9 from rfl), f_hasRoom hN h5, b2_s]
          by_cases hr : rm N (C q) i = 0
          · rw [if_pos hr, nm_s, nI_1, nxf_no (may_r hr)]
          · rw [if_neg hr, nm_s, nm_s, nI_1, nxf_0 (may_t hw hr)]
            rfl
        | some b =>
          have hb := hI b rfl
          rw [if_neg (enc_ne (show b < 5 by omega))]
          by_cases hl : C q (30 + 7 * i + 4) < C q (30 + 7 * b + 4)
          · rw [if_neg (show ¬ few (some b) ≤ C q (30 + 7 * i + 4) from fun z => by rw [fa_lt] at hl; rw [fa_le] at z; have : (few (some b)).toInt = (C q (30 + 7 * b + 4)).toInt := rfl; omega), f_hasRoom hN h5, b2_s]
            by_cases hr : rm N (C q) i = 0
            · rw [if_pos hr, nm_s, nI_1, nxf_no (may_r hr)]
            · rw [if_neg hr, nm_s, nm_s, nI_1, nxf_1 (may_t hw hr) hl]
              rfl
          · rw [if_pos (show few (some b) ≤ C q (30 + 7 * i + 4) from fa_of_nlt hl), nm_s, nI_1, nxf_2 hl]
      · rw [f_waits_f hw, b2_s, if_pos rfl, nm_s, nI_1, nxf_no (may_w hw)], nxf_lt hI⟩) (fun t _ => by
      show S_X5_firstToStart_7 q (enc t) (few t) (nI N) C = _
      unfold S_X5_firstToStart_7
      rw [hN, if_pos (nI_le (Nat.le_refl N) (by omega))])
  unfold F_X5_firstToStart
  rw [h, b1_s, u4_s]
  rfl
theorem f_firstToRest (hN : C q 65 = nI N) (h5 : N ≤ 5) (hB : ∀ i, i < N → 0 ≤ C q (30 + 7 * i + 4)) : F_X5_firstToRest q C = some (enc (rs N (C q)), C) := by
  let few : Option Nat → Int32 := fun t => match t with
    | none => 0
    | some b => C q (30 + 7 * b + 4)
  have h : iter (fun w => S_X5_firstToRest_7 q w.1 w.2.1 w.2.2.1 w.2.2.2) fuel ((-9 : Int32), (0 : Int32), (0 : Int32), C) = some (enc (fe (rsf (C q)) N none), few (fe (rsf (C q)) N none), nI N, C) :=
    iter_emb (n := N) (t0 := none) (fun i t => (enc t, few t, nI i, C)) (rsf (C q)) (fun _ _ => True) (fun t => (enc t, few t, nI N, C)) (by omega) trivial (fun i t hi _ => ⟨by
      show S_X5_firstToRest_7 q (enc t) (few t) (nI i) C = _
      unfold S_X5_firstToRest_7
      rw [hN, if_neg (nI_ge hi (by omega)), gi_n (show i < 5 by omega) (by decide), nI_clamp (show i < 2 ^ 31 by omega)]
      by_cases hs : C q (30 + 7 * i + 2) = 2
      · rw [if_pos hs, gi_n (show i < 5 by omega) (by decide)]
        cases t with
        | none =>
          rw [if_neg (show ¬ C q (30 + 7 * i + 4) < few none from fun z => by have h1 := hB i hi; rw [fa_le] at h1; rw [fa_lt] at z; have : (few none).toInt = 0 := rfl; have : (0 : Int32).toInt = 0 := rfl; omega), gi_n (show i < 5 by omega) (by decide), nm_s, nm_s, nI_1, rsf_0 hs]
          rfl
        | some b =>
          by_cases hl : C q (30 + 7 * i + 4) < C q (30 + 7 * b + 4)
          · rw [if_pos (show C q (30 + 7 * i + 4) < few (some b) from hl), nm_s, nI_1, rsf_1 hl]
          · rw [if_neg (show ¬ C q (30 + 7 * i + 4) < few (some b) from hl), gi_n (show i < 5 by omega) (by decide), nm_s, nm_s, nI_1, rsf_2 hs hl]
            rfl
      · rw [if_neg hs, nm_s, nI_1, rsf_no hs], trivial⟩) (fun t _ => by
      show S_X5_firstToRest_7 q (enc t) (few t) (nI N) C = _
      unfold S_X5_firstToRest_7
      rw [hN, if_pos (nI_le (Nat.le_refl N) (by omega))])
  unfold F_X5_firstToRest
  rw [h, b1_s, u4_s]
  rfl
theorem f_why (hN : C q 65 = nI N) (h5 : N ≤ 5) : F_X5_whyNoneStarts q C = some (wh N (C q), C) := by
  have h : iter (fun w => S_X5_whyNoneStarts_4 q w.1 w.2.1 w.2.2) fuel ((3 : Int32), (0 : Int32), C) = some (fe (whf (C q)) N 3, nI N, C) :=
    iter_emb (n := N) (t0 := 3) (fun i v => (v, nI i, C)) (whf (C q)) (fun _ _ => True) (fun v => (v, nI N, C)) (by omega) trivial (fun i v hi _ => ⟨by
      show S_X5_whyNoneStarts_4 q v (nI i) C = _
      unfold S_X5_whyNoneStarts_4
      rw [hN, if_neg (nI_ge hi (by omega)), gi_n (show i < 5 by omega) (by decide), nI_clamp (show i < 2 ^ 31 by omega)]
      by_cases hw : wt (C q) i
      · rw [f_waits_t hw, b2_s, if_neg (by decide), whf_t hw, gi_n (show i < 5 by omega) (by decide), f_flueOf, b2_s]
        show gn (fiS (C q) i) 2 _ = _
        rw [gn_p (fiS_lt _ _)]
        show (if C q (20 + fiS (C q) i) = 0 then _ else _) = _
        by_cases ho : C q (20 + fiS (C q) i) = 0
        · rw [if_pos ho, if_pos ho, nm_s, nm_s, nI_1]
        · rw [if_neg ho, if_neg ho, nm_s, nm_s, nI_1]
      · rw [f_waits_f hw, b2_s, if_pos rfl, whf_f hw, nm_s, nI_1], trivial⟩) (fun v _ => by
      show S_X5_whyNoneStarts_4 q v (nI N) C = _
      unfold S_X5_whyNoneStarts_4
      rw [hN, if_pos (nI_le (Nat.le_refl N) (by omega))])
  unfold F_X5_whyNoneStarts
  rw [h, b1_s, u3_s]
  rfl
end ASK

