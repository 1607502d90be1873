/-! ticks: what each boiler did -/
section TBOIL
variable {C : Mem} {N Y K : Nat} {y z : Pg}
theorem nI_ad (a b : Nat) : nI a + nI b = nI (a + b) := (Int32.ofNat_add a b).symm
/-- the row of boiler i: state, starts, fired, fuel, from place 4 i on -/
def tq (F : Nat → Int32) (i : Nat) (bg w : Int32) (z : Pg) : Prop :=
  (F (4 * i) = 3 → bg = 0 → z (30 + 7 * i + 2) = 3) ∧ (F (4 * i) = 4 → z (30 + 7 * i + 2) = 4) ∧ (bg = 0 ∨ F (4 * i) = 0 ∨ F (4 * i) = 3) ∧
  (z (30 + 7 * i + 6) - F (4 * i + 3) = if w = 0 then (if z (30 + 7 * i + 2) = 3 then 1 else 0) else z (30 + 7 * i)) ∧
  (w = if F (4 * i) = 2 then (if z (30 + 7 * i + 2) = 2 then 1 else 0) else if F (4 * i) = 3 then (if bg = 0 then 0 else 1) else 0) ∧
  (w = 0 → z (30 + 7 * i + 4) = F (4 * i + 2)) ∧ (bg = 0 → z (30 + 7 * i + 5) = F (4 * i + 1))
variable {F : Nat → Int32} {i : Nat} {bg w v111 v113 v114 v115 v145 v149 v153 v156 : Int32}
theorem x4 {i : Nat} : (4 : Int32) * nI i = nI (4 * i) := nI_mul 4 i
theorem x41 {i : Nat} : nI (4 * i) + (1 : Int32) = nI (4 * i + 1) := nI_ad (4 * i) 1
theorem x42 {i : Nat} : nI (4 * i) + (2 : Int32) = nI (4 * i + 2) := nI_ad (4 * i) 2
theorem x43 {i : Nat} : nI (4 * i) + (3 : Int32) = nI (4 * i + 3) := nI_ad (4 * i) 3
theorem ti_653 (q : tq F i bg w z) (hi : i < 5) : J_L_ticks_653 F (nI i) bg (z (30 + 7 * i + 2)) v145 v149 v153 v156 C = some (.inl (v156, 1, v145, v149, v153, nI (i + 1), C)) := by
  unfold J_L_ticks_653
  rw [x4, gi_n (by omega) (by decide), nI_clamp (by omega), nm_s, nm_s, nI_1]
  by_cases c : F (4 * i) = 3
  · rw [if_pos c]
    by_cases b : bg = 0
    · rw [if_pos b, if_pos (q.1 c b)]
    · rw [if_neg b]
  · rw [if_neg c]
theorem ti_636 (q : tq F i bg w z) (hi : i < 5) : J_L_ticks_636 F (nI i) bg (z (30 + 7 * i + 2)) v145 v149 v153 v156 C = some (.inl (v156, 1, v145, v149, v153, nI (i + 1), C)) := by
  unfold J_L_ticks_636
  rw [x4, gi_n (by omega) (by decide), nI_clamp (by omega)]
  by_cases c : F (4 * i) = 4
  · rw [if_pos c, if_pos (q.2.1 c), ti_653 q hi]
  · rw [if_neg c, ti_653 q hi]
theorem ti_607 (q : tq F i bg w z) (hi : i < 5) {v171 : Int32} (e : z (30 + 7 * i + 6) - F (4 * i + 3) = v171) : J_L_ticks_607 F (nI i) bg (z (30 + 7 * i + 2)) v145 v149 v153 v156 (z (30 + 7 * i + 6)) v171 C = some (.inl (v156, 1, v145, v149, v153, nI (i + 1), C)) := by
  unfold J_L_ticks_607
  rw [x4, x43, nI_clamp (show 4 * i + 3 < 2147483648 by omega), if_pos e, gi_n (show 4 * i < 20 by omega) (by decide), gi_n (show 4 * i < 20 by omega) (by decide), nI_clamp (by omega), ti_636 q hi]
  by_cases b : bg = 0
  · rw [if_pos b]
  · rw [if_neg b]
    rcases q.2.2.1 with a | a | a
    · exact absurd a b
    · rw [if_pos a]
    · rw [if_pos a]
      by_cases c : F (4 * i) = 0
      · rw [if_pos c]
      · rw [if_neg c]
theorem ti_560 (h : Ob N Y K z C) (q : tq F i bg w z) (hN : i < N) (hi : i < 5) {v163 : Int32} (e : w = v163) : J_L_ticks_560 F (nI i) bg w (z (30 + 7 * i + 2)) v145 v149 v153 v156 C v163 = some (.inl (v156, 1, v145, v149, v153, nI (i + 1), C)) := by
  unfold J_L_ticks_560
  have q4 := q.2.2.2.1
  rw [if_pos e, tb_6 h hN, b2_s, x4, x43, gi_n (show 4 * i + 3 < 20 by omega) (by decide)]
  by_cases b : w = 0
  · rw [if_pos b] at q4 ⊢
    by_cases c : z (30 + 7 * i + 2) = 3
    · rw [if_pos c] at q4 ⊢
      exact ti_607 q hi q4
    · rw [if_neg c] at q4 ⊢
      exact ti_607 q hi q4
  · rw [if_neg b] at q4 ⊢
    rw [tb_0 h hN, b2_s]
    exact ti_607 q hi q4
theorem ti_520 (h : Ob N Y K z C) (q : tq F i bg w z) (hN : i < N) (hi : i < 5) : J_L_ticks_520 F (nI i) bg w (z (30 + 7 * i + 2)) v145 v149 v153 v156 C = some (.inl (v156, 1, v145, v149, v153, nI (i + 1), C)) := by
  unfold J_L_ticks_520
  have q5 := q.2.2.2.2.1
  rw [x4, gi_n (show 4 * i < 20 by omega) (by decide), gi_n (show 4 * i < 20 by omega) (by decide), nI_clamp (by omega)]
  by_cases a : F (4 * i) = 2
  · rw [if_pos a] at q5 ⊢
    by_cases b : z (30 + 7 * i + 2) = 2
    · rw [if_pos b] at q5 ⊢
      exact ti_560 h q hN hi q5
    · rw [if_neg b] at q5 ⊢
      rw [if_neg (show ¬ F (4 * i) = 3 by rw [a]; decide)]
      exact ti_560 h q hN hi q5
  · rw [if_neg a] at q5 ⊢
    by_cases c : F (4 * i) = 3
    · rw [if_pos c] at q5 ⊢
      by_cases b : bg = 0
      · rw [if_pos b] at q5 ⊢
        exact ti_560 h q hN hi q5
      · rw [if_neg b] at q5 ⊢
        exact ti_560 h q hN hi q5
    · rw [if_neg c] at q5 ⊢
      exact ti_560 h q hN hi q5
theorem ti_496 (h : Ob N Y K z C) (q : tq F i bg w z) (hN : i < N) (hi : i < 5) : J_L_ticks_496 F (nI i) bg w (z (30 + 7 * i + 2)) v145 v149 v153 v156 C = some (.inl (v156, 1, v145, v149, v153, nI (i + 1), C)) := by
  unfold J_L_ticks_496
  rw [ti_520 h q hN hi, tb_4 h hN, b2_s, x4, x42, gi_n (show 4 * i + 2 < 20 by omega) (by decide), nI_clamp (by omega), ti_520 h q hN hi]
  by_cases b : w = 0
  · rw [if_pos b, if_pos (q.2.2.2.2.2.1 b)]
  · rw [if_neg b]
theorem ti_469 (h : Ob N Y K z C) (q : tq F i bg w z) (hN : i < N) (hi : i < 5) (v155 : Int32) : J_L_ticks_469 F v111 (nI i) bg w (z (30 + 7 * i + 2)) v145 v149 C v153 v155 = some (.inl (v111 - v155, 1, v145, v149, v153, nI (i + 1), C)) := by
  unfold J_L_ticks_469
  rw [nm_s, ti_496 h q hN hi, tb_5 h hN, b2_s, x4, x41, gi_n (show 4 * i + 1 < 20 by omega) (by decide), nI_clamp (by omega), ti_496 h q hN hi]
  by_cases b : bg = 0
  · rw [if_pos b, if_pos (q.2.2.2.2.2.2 b)]
  · rw [if_neg b]
theorem ti_454 (h : Ob N Y K z C) (q : tq F i bg w z) (hN : i < N) (hi : i < 5) (hb : bg = 0 ∨ bg = 1) (v151 : Int32) : J_L_ticks_454 F v111 v115 (nI i) bg w (z (30 + 7 * i + 2)) v145 v149 v151 C = some (.inl (v111 - bg, 1, v145, v149, v115 + v151, nI (i + 1), C)) := by
  unfold J_L_ticks_454
  rw [nm_s, ti_469 h q hN hi, ti_469 h q hN hi]
  rcases hb with b | b
  · rw [if_pos b, b]
  · rw [if_neg (by rw [b]; decide), b]
theorem ti_433 (h : Ob N Y K z C) (q : tq F i bg w z) (hN : i < N) (hi : i < 5) (hb : bg = 0 ∨ bg = 1) (v148 : Int32) : J_L_ticks_433 F v111 v114 v115 (nI i) bg w (z (30 + 7 * i + 2)) C v145 v148 = some (.inl (v111 - bg, 1, v145, v114 + v148, v115 + (if w = 0 then 0 else z (30 + 7 * i)), nI (i + 1), C)) := by
  unfold J_L_ticks_433
  rw [nm_s, ti_454 h q hN hi hb, tb_0 h hN, b2_s, ti_454 h q hN hi hb]
  by_cases b : w = 0
  · rw [if_pos b, if_pos b]
  · rw [if_neg b, if_neg b]
theorem ti_406 (h : Ob N Y K z C) (q : tq F i bg w z) (hN : i < N) (hi : i < 5) (hb : bg = 0 ∨ bg = 1) (v144 : Int32) : J_L_ticks_406 F v111 v113 v114 v115 (nI i) bg w (z (30 + 7 * i + 2)) C v144 = some (.inl (v111 - bg, 1, v113 + v144, v114 + (if F (4 * i) = 2 ∧ z (30 + 7 * i + 2) = 3 then 1 else 0), v115 + (if w = 0 then 0 else z (30 + 7 * i)), nI (i + 1), C)) := by
  unfold J_L_ticks_406
  rw [nm_s, x4, gi_n (show 4 * i < 20 by omega) (by decide), nI_clamp (by omega), ti_433 h q hN hi hb, ti_433 h q hN hi hb]
  by_cases a : F (4 * i) = 2
  · rw [if_pos a]
    by_cases b : z (30 + 7 * i + 2) = 3
    · rw [if_pos b, if_pos (show F (4 * i) = 2 ∧ z (30 + 7 * i + 2) = 3 from ⟨a, b⟩)]
    · rw [if_neg b, if_neg (show ¬ (F (4 * i) = 2 ∧ z (30 + 7 * i + 2) = 3) from fun e => b e.2)]
  · rw [if_neg a, if_neg (show ¬ (F (4 * i) = 2 ∧ z (30 + 7 * i + 2) = 3) from fun e => a e.1)]
theorem ti_318 (h : Ob N Y K z C) (hN : i < N) (hi : i < 5) (hb : bg = if z (30 + 7 * i + 5) = F (4 * i + 1) + 1 then 1 else 0) (hw : w = if z (30 + 7 * i + 4) = F (4 * i + 2) + 1 then 1 else 0) (q : tq F i bg w z) : S_L_ticks_318 (nI N) F v111 1 v113 v114 v115 (nI i) C = some (.inl (v111 - bg, 1, v113 + bg, v114 + (if F (4 * i) = 2 ∧ z (30 + 7 * i + 2) = 3 then 1 else 0), v115 + (if w = 0 then 0 else z (30 + 7 * i)), nI (i + 1), C)) := by
  have n5 := h.1.1.2
  have hb' : bg = 0 ∨ bg = 1 := by
    rw [hb]
    split
    · exact Or.inr rfl
    · exact Or.inl rfl
  have e383 : J_L_ticks_383 F v111 v113 v114 v115 (nI i) bg C w = some (.inl (v111 - bg, 1, v113 + bg, v114 + (if F (4 * i) = 2 ∧ z (30 + 7 * i + 2) = 3 then 1 else 0), v115 + (if w = 0 then 0 else z (30 + 7 * i)), nI (i + 1), C)) := by
    unfold J_L_ticks_383
    rw [tb_2 h hN, b2_s, ti_406 h q hN hi hb', ti_406 h q hN hi hb']
    rcases hb' with b | b
    · rw [if_pos b, b]
    · rw [if_neg (by rw [b]; decide), b]
  have e355 : J_L_ticks_355 F v111 v113 v114 v115 (nI i) C bg = some (.inl (v111 - bg, 1, v113 + bg, v114 + (if F (4 * i) = 2 ∧ z (30 + 7 * i + 2) = 3 then 1 else 0), v115 + (if w = 0 then 0 else z (30 + 7 * i)), nI (i + 1), C)) := by
    unfold J_L_ticks_355
    rw [tb_4 h hN, b2_s, x4, x42, gi_n (show 4 * i + 2 < 20 by omega) (by decide), nI_clamp (by omega)]
    by_cases c : z (30 + 7 * i + 4) = F (4 * i + 2) + 1
    · rw [if_pos c] at hw ⊢
      subst hw
      exact e383
    · rw [if_neg c] at hw ⊢
      subst hw
      exact e383
  unfold S_L_ticks_318
  rw [if_neg (nI_ge hN (by omega)), if_neg (by decide), tb_5 h hN, b2_s, x4, x41, gi_n (show 4 * i + 1 < 20 by omega) (by decide), nI_clamp (by omega)]
  by_cases c : z (30 + 7 * i + 5) = F (4 * i + 1) + 1
  · rw [if_pos c] at hb ⊢
    subst hb
    exact e355
  · rw [if_neg c] at hb ⊢
    subst hb
    exact e355
end TBOIL
