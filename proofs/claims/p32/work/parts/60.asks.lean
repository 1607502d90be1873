/-! what the asking calls answer, by the page -/
section ASKS
variable {C : Mem} {z : Pg} {N Y K : Nat}
theorem ta_0 (h : Ob N Y K z C) : F_L_tryAbout (0 : Int32) C = some (z 0, C) := by
  obtain ⟨⟨⟨n1, n5⟩, y2, y8⟩, ⟨c65, c66, wf, ag⟩, sd⟩ := h
  show F_L_tryAbout (nI 0) C = _
  unfold F_L_tryAbout F_X8_about
  rw [rq, b2_s, if_pos (show (0 : Int32) ≤ nI 0 ∧ nI 0 ≤ 16 by decide), el_l]
  repeat (first | rw [if_pos (by decide)] | rw [if_neg (by decide)])
  rw [gi_n (show 0 < 6 by decide) (by decide), nI_clamp (by decide), ag.1 0 (by decide), b2_s, el_l]
theorem ta_1 (h : Ob N Y K z C) : F_L_tryAbout (1 : Int32) C = some (z 1, C) := by
  obtain ⟨⟨⟨n1, n5⟩, y2, y8⟩, ⟨c65, c66, wf, ag⟩, sd⟩ := h
  show F_L_tryAbout (nI 1) C = _
  unfold F_L_tryAbout F_X8_about
  rw [rq, b2_s, if_pos (show (0 : Int32) ≤ nI 1 ∧ nI 1 ≤ 16 by decide), el_l]
  repeat (first | rw [if_pos (by decide)] | rw [if_neg (by decide)])
  rw [gi_n (show 1 < 6 by decide) (by decide), nI_clamp (by decide), ag.1 1 (by decide), b2_s, el_l]
theorem ta_2 (h : Ob N Y K z C) : F_L_tryAbout (2 : Int32) C = some (z 2, C) := by
  obtain ⟨⟨⟨n1, n5⟩, y2, y8⟩, ⟨c65, c66, wf, ag⟩, sd⟩ := h
  show F_L_tryAbout (nI 2) C = _
  unfold F_L_tryAbout F_X8_about
  rw [rq, b2_s, if_pos (show (0 : Int32) ≤ nI 2 ∧ nI 2 ≤ 16 by decide), el_l]
  repeat (first | rw [if_pos (by decide)] | rw [if_neg (by decide)])
  rw [gi_n (show 2 < 6 by decide) (by decide), nI_clamp (by decide), ag.1 2 (by decide), b2_s, el_l]
theorem ta_3 (h : Ob N Y K z C) : F_L_tryAbout (3 : Int32) C = some (z 3, C) := by
  obtain ⟨⟨⟨n1, n5⟩, y2, y8⟩, ⟨c65, c66, wf, ag⟩, sd⟩ := h
  show F_L_tryAbout (nI 3) C = _
  unfold F_L_tryAbout F_X8_about
  rw [rq, b2_s, if_pos (show (0 : Int32) ≤ nI 3 ∧ nI 3 ≤ 16 by decide), el_l]
  repeat (first | rw [if_pos (by decide)] | rw [if_neg (by decide)])
  rw [gi_n (show 3 < 6 by decide) (by decide), nI_clamp (by decide), ag.1 3 (by decide), b2_s, el_l]
theorem ta_4 (h : Ob N Y K z C) : F_L_tryAbout (4 : Int32) C = some (z 4, C) := by
  obtain ⟨⟨⟨n1, n5⟩, y2, y8⟩, ⟨c65, c66, wf, ag⟩, sd⟩ := h
  show F_L_tryAbout (nI 4) C = _
  unfold F_L_tryAbout F_X8_about
  rw [rq, b2_s, if_pos (show (0 : Int32) ≤ nI 4 ∧ nI 4 ≤ 16 by decide), el_l]
  repeat (first | rw [if_pos (by decide)] | rw [if_neg (by decide)])
  rw [gi_n (show 4 < 6 by decide) (by decide), nI_clamp (by decide), ag.1 4 (by decide), b2_s, el_l]
theorem ta_5 (h : Ob N Y K z C) : F_L_tryAbout (5 : Int32) C = some (z 5, C) := by
  obtain ⟨⟨⟨n1, n5⟩, y2, y8⟩, ⟨c65, c66, wf, ag⟩, sd⟩ := h
  show F_L_tryAbout (nI 5) C = _
  unfold F_L_tryAbout F_X8_about
  rw [rq, b2_s, if_pos (show (0 : Int32) ≤ nI 5 ∧ nI 5 ≤ 16 by decide), el_l]
  repeat (first | rw [if_pos (by decide)] | rw [if_neg (by decide)])
  rw [gi_n (show 5 < 6 by decide) (by decide), nI_clamp (by decide), ag.1 5 (by decide), b2_s, el_l]
theorem ta_6 (h : Ob N Y K z C) : F_L_tryAbout (6 : Int32) C = some (nI N, C) := by
  obtain ⟨⟨⟨n1, n5⟩, y2, y8⟩, ⟨c65, c66, wf, ag⟩, sd⟩ := h
  show F_L_tryAbout (nI 6) C = _
  unfold F_L_tryAbout F_X8_about
  rw [rq, b2_s, if_pos (show (0 : Int32) ≤ nI 6 ∧ nI 6 ≤ 16 by decide), el_l]
  repeat (first | rw [if_pos (by decide)] | rw [if_neg (by decide)])
  rw [c65, b2_s, el_l]
theorem ta_7 (h : Ob N Y K z C) : F_L_tryAbout (7 : Int32) C = some (nI Y, C) := by
  obtain ⟨⟨⟨n1, n5⟩, y2, y8⟩, ⟨c65, c66, wf, ag⟩, sd⟩ := h
  show F_L_tryAbout (nI 7) C = _
  unfold F_L_tryAbout F_X8_about
  rw [rq, b2_s, if_pos (show (0 : Int32) ≤ nI 7 ∧ nI 7 ≤ 16 by decide), el_l]
  repeat (first | rw [if_pos (by decide)] | rw [if_neg (by decide)])
  rw [c66, b2_s, el_l]
theorem ta_8 (h : Ob N Y K z C) : F_L_tryAbout (8 : Int32) C = some (z 6, C) := by
  obtain ⟨⟨⟨n1, n5⟩, y2, y8⟩, ⟨c65, c66, wf, ag⟩, sd⟩ := h
  show F_L_tryAbout (nI 8) C = _
  unfold F_L_tryAbout F_X8_about
  rw [rq, b2_s, if_pos (show (0 : Int32) ≤ nI 8 ∧ nI 8 ≤ 16 by decide), el_l]
  repeat (first | rw [if_pos (by decide)] | rw [if_neg (by decide)])
  rw [ag.1 6 (by decide), b2_s, el_l]
theorem ta_9 (h : Ob N Y K z C) : F_L_tryAbout (9 : Int32) C = some (avg Y z, C) := by
  obtain ⟨⟨⟨n1, n5⟩, y2, y8⟩, ⟨c65, c66, wf, ag⟩, sd⟩ := h
  show F_L_tryAbout (nI 9) C = _
  unfold F_L_tryAbout F_X8_about
  rw [rq, b2_s, if_pos (show (0 : Int32) ≤ nI 9 ∧ nI 9 ≤ 16 by decide), el_l]
  repeat (first | rw [if_pos (by decide)] | rw [if_neg (by decide)])
  rw [f_mean c66 (by omega) y8, b2_s, b2_s, el_l, avg_c ag]
theorem ta_10 (h : Ob N Y K z C) : F_L_tryAbout (10 : Int32) C = some (z 7, C) := by
  obtain ⟨⟨⟨n1, n5⟩, y2, y8⟩, ⟨c65, c66, wf, ag⟩, sd⟩ := h
  show F_L_tryAbout (nI 10) C = _
  unfold F_L_tryAbout F_X8_about
  rw [rq, b2_s, if_pos (show (0 : Int32) ≤ nI 10 ∧ nI 10 ≤ 16 by decide), el_l]
  repeat (first | rw [if_pos (by decide)] | rw [if_neg (by decide)])
  rw [ag.1 7 (by decide), b2_s, el_l]
theorem ta_11 (h : Ob N Y K z C) : F_L_tryAbout (11 : Int32) C = some (z 8, C) := by
  obtain ⟨⟨⟨n1, n5⟩, y2, y8⟩, ⟨c65, c66, wf, ag⟩, sd⟩ := h
  show F_L_tryAbout (nI 11) C = _
  unfold F_L_tryAbout F_X8_about
  rw [rq, b2_s, if_pos (show (0 : Int32) ≤ nI 11 ∧ nI 11 ≤ 16 by decide), el_l]
  repeat (first | rw [if_pos (by decide)] | rw [if_neg (by decide)])
  rw [ag.1 8 (by decide)]
  rcases (wf.ag ag.sy).2.1 with q | q
  · rw [q, if_pos rfl, b2_s, el_l]
  · rw [q, if_neg (by decide), b2_s, el_l]
theorem ta_12 (h : Ob N Y K z C) : F_L_tryAbout (12 : Int32) C = some (z 9, C) := by
  obtain ⟨⟨⟨n1, n5⟩, y2, y8⟩, ⟨c65, c66, wf, ag⟩, sd⟩ := h
  show F_L_tryAbout (nI 12) C = _
  unfold F_L_tryAbout F_X8_about
  rw [rq, b2_s, if_pos (show (0 : Int32) ≤ nI 12 ∧ nI 12 ≤ 16 by decide), el_l]
  repeat (first | rw [if_pos (by decide)] | rw [if_neg (by decide)])
  rw [ag.1 9 (by decide), b2_s, el_l]
theorem ta_13 (h : Ob N Y K z C) : F_L_tryAbout (13 : Int32) C = some (z 10, C) := by
  obtain ⟨⟨⟨n1, n5⟩, y2, y8⟩, ⟨c65, c66, wf, ag⟩, sd⟩ := h
  show F_L_tryAbout (nI 13) C = _
  unfold F_L_tryAbout F_X8_about
  rw [rq, b2_s, if_pos (show (0 : Int32) ≤ nI 13 ∧ nI 13 ≤ 16 by decide), el_l]
  repeat (first | rw [if_pos (by decide)] | rw [if_neg (by decide)])
  rw [ag.1 10 (by decide), b2_s, el_l]
theorem ta_14 (h : Ob N Y K z C) : F_L_tryAbout (14 : Int32) C = some (z 11, C) := by
  obtain ⟨⟨⟨n1, n5⟩, y2, y8⟩, ⟨c65, c66, wf, ag⟩, sd⟩ := h
  show F_L_tryAbout (nI 14) C = _
  unfold F_L_tryAbout F_X8_about
  rw [rq, b2_s, if_pos (show (0 : Int32) ≤ nI 14 ∧ nI 14 ≤ 16 by decide), el_l]
  repeat (first | rw [if_pos (by decide)] | rw [if_neg (by decide)])
  rw [ag.1 11 (by decide), b2_s, el_l]
theorem ta_15 (h : Ob N Y K z C) : F_L_tryAbout (15 : Int32) C = some (z 12, C) := by
  obtain ⟨⟨⟨n1, n5⟩, y2, y8⟩, ⟨c65, c66, wf, ag⟩, sd⟩ := h
  show F_L_tryAbout (nI 15) C = _
  unfold F_L_tryAbout F_X8_about
  rw [rq, b2_s, if_pos (show (0 : Int32) ≤ nI 15 ∧ nI 15 ≤ 16 by decide), el_l]
  repeat (first | rw [if_pos (by decide)] | rw [if_neg (by decide)])
  rw [ag.1 12 (by decide), b2_s, el_l]
theorem ta_16 (h : Ob N Y K z C) : F_L_tryAbout (16 : Int32) C = some (cnS N 2 z, C) := by
  obtain ⟨⟨⟨n1, n5⟩, y2, y8⟩, ⟨c65, c66, wf, ag⟩, sd⟩ := h
  show F_L_tryAbout (nI 16) C = _
  unfold F_L_tryAbout F_X8_about
  rw [rq, b2_s, if_pos (show (0 : Int32) ≤ nI 16 ∧ nI 16 ≤ 16 by decide), el_l]
  repeat (first | rw [if_pos (by decide)] | rw [if_neg (by decide)])
  rw [f_countInState c65 n5, b2_s, b2_s, el_l, cnS_c ag]
theorem ta_no (C : Mem) : F_L_tryAbout (17 : Int32) C = some (-1002, C) := by
  unfold F_L_tryAbout F_X8_about
  rw [rq, b2_s, if_neg (show ¬ ((0 : Int32) ≤ 17 ∧ (17 : Int32) ≤ 16) by decide), el_r, b2_s, el_r, if_pos rfl]
def abV (N Y : Nat) (z : Pg) : Nat → Int32
  | 6 => nI N
  | 7 => nI Y
  | 8 => z 6
  | 9 => avg Y z
  | 10 => z 7
  | 11 => z 8
  | 12 => z 9
  | 13 => z 10
  | 14 => z 11
  | 15 => z 12
  | 16 => cnS N 2 z
  | k => z k
theorem ta (h : Ob N Y K z C) {k : Nat} (hk : k < 17) : F_L_tryAbout (nI k) C = some (abV N Y z k, C) := by
  rcases (show k = 0 ∨ k = 1 ∨ k = 2 ∨ k = 3 ∨ k = 4 ∨ k = 5 ∨ k = 6 ∨ k = 7 ∨ k = 8 ∨ k = 9 ∨ k = 10 ∨ k = 11 ∨ k = 12 ∨ k = 13 ∨ k = 14 ∨ k = 15 ∨ k = 16 by omega) with rfl | rfl | rfl | rfl | rfl | rfl | rfl | rfl | rfl | rfl | rfl | rfl | rfl | rfl | rfl | rfl | rfl
  · exact ta_0 (z := z) h
  · exact ta_1 (z := z) h
  · exact ta_2 (z := z) h
  · exact ta_3 (z := z) h
  · exact ta_4 (z := z) h
  · exact ta_5 (z := z) h
  · exact ta_6 (z := z) h
  · exact ta_7 (z := z) h
  · exact ta_8 (z := z) h
  · exact ta_9 (z := z) h
  · exact ta_10 (z := z) h
  · exact ta_11 (z := z) h
  · exact ta_12 (z := z) h
  · exact ta_13 (z := z) h
  · exact ta_14 (z := z) h
  · exact ta_15 (z := z) h
  · exact ta_16 (z := z) h
theorem tb_0 (h : Ob N Y K z C) {i : Nat} (hi : i < N) : F_L_tryBoiler (nI i) (0 : Int32) C = some (z (30 + 7 * i), C) := by
  obtain ⟨⟨⟨n1, n5⟩, y2, y8⟩, ⟨c65, c66, wf, ag⟩, sd⟩ := h
  show F_L_tryBoiler (nI i) (nI 0) C = _
  unfold F_L_tryBoiler F_X8_boiler
  rw [rqB c65 n1 n5, b2_s, if_pos (show 0 ≤ nI i ∧ nI i ≤ nI (N - 1) from ⟨nI_pos' (by omega), nI_le (by omega) (by omega)⟩), el_l, rq, b2_s, if_pos (show (0 : Int32) ≤ nI 0 ∧ nI 0 ≤ 7 by decide), el_l, gi_n (by omega) (by decide), nI_clamp (by omega)]
  repeat (first | rw [if_pos (by decide)] | rw [if_neg (by decide)])
  rw [ag.b0 hi, b2_s, el_l]
theorem tb_1 (h : Ob N Y K z C) {i : Nat} (hi : i < N) : F_L_tryBoiler (nI i) (1 : Int32) C = some (z (30 + 7 * i + 1), C) := by
  obtain ⟨⟨⟨n1, n5⟩, y2, y8⟩, ⟨c65, c66, wf, ag⟩, sd⟩ := h
  show F_L_tryBoiler (nI i) (nI 1) C = _
  unfold F_L_tryBoiler F_X8_boiler
  rw [rqB c65 n1 n5, b2_s, if_pos (show 0 ≤ nI i ∧ nI i ≤ nI (N - 1) from ⟨nI_pos' (by omega), nI_le (by omega) (by omega)⟩), el_l, rq, b2_s, if_pos (show (0 : Int32) ≤ nI 1 ∧ nI 1 ≤ 7 by decide), el_l, gi_n (by omega) (by decide), nI_clamp (by omega)]
  repeat (first | rw [if_pos (by decide)] | rw [if_neg (by decide)])
  rw [ag.b1 hi, b2_s, el_l]
theorem tb_2 (h : Ob N Y K z C) {i : Nat} (hi : i < N) : F_L_tryBoiler (nI i) (2 : Int32) C = some (z (30 + 7 * i + 2), C) := by
  obtain ⟨⟨⟨n1, n5⟩, y2, y8⟩, ⟨c65, c66, wf, ag⟩, sd⟩ := h
  show F_L_tryBoiler (nI i) (nI 2) C = _
  unfold F_L_tryBoiler F_X8_boiler
  rw [rqB c65 n1 n5, b2_s, if_pos (show 0 ≤ nI i ∧ nI i ≤ nI (N - 1) from ⟨nI_pos' (by omega), nI_le (by omega) (by omega)⟩), el_l, rq, b2_s, if_pos (show (0 : Int32) ≤ nI 2 ∧ nI 2 ≤ 7 by decide), el_l, gi_n (by omega) (by decide), nI_clamp (by omega)]
  repeat (first | rw [if_pos (by decide)] | rw [if_neg (by decide)])
  rw [ag.b2 hi, b2_s, el_l]
theorem tb_3 (h : Ob N Y K z C) {i : Nat} (hi : i < N) : F_L_tryBoiler (nI i) (3 : Int32) C = some (z (30 + 7 * i + 3), C) := by
  obtain ⟨⟨⟨n1, n5⟩, y2, y8⟩, ⟨c65, c66, wf, ag⟩, sd⟩ := h
  show F_L_tryBoiler (nI i) (nI 3) C = _
  unfold F_L_tryBoiler F_X8_boiler
  rw [rqB c65 n1 n5, b2_s, if_pos (show 0 ≤ nI i ∧ nI i ≤ nI (N - 1) from ⟨nI_pos' (by omega), nI_le (by omega) (by omega)⟩), el_l, rq, b2_s, if_pos (show (0 : Int32) ≤ nI 3 ∧ nI 3 ≤ 7 by decide), el_l, gi_n (by omega) (by decide), nI_clamp (by omega)]
  repeat (first | rw [if_pos (by decide)] | rw [if_neg (by decide)])
  rw [ag.b3 hi, b2_s, el_l]
theorem tb_4 (h : Ob N Y K z C) {i : Nat} (hi : i < N) : F_L_tryBoiler (nI i) (4 : Int32) C = some (z (30 + 7 * i + 4), C) := by
  obtain ⟨⟨⟨n1, n5⟩, y2, y8⟩, ⟨c65, c66, wf, ag⟩, sd⟩ := h
  show F_L_tryBoiler (nI i) (nI 4) C = _
  unfold F_L_tryBoiler F_X8_boiler
  rw [rqB c65 n1 n5, b2_s, if_pos (show 0 ≤ nI i ∧ nI i ≤ nI (N - 1) from ⟨nI_pos' (by omega), nI_le (by omega) (by omega)⟩), el_l, rq, b2_s, if_pos (show (0 : Int32) ≤ nI 4 ∧ nI 4 ≤ 7 by decide), el_l, gi_n (by omega) (by decide), nI_clamp (by omega)]
  repeat (first | rw [if_pos (by decide)] | rw [if_neg (by decide)])
  rw [ag.b4 hi, b2_s, el_l]
theorem tb_5 (h : Ob N Y K z C) {i : Nat} (hi : i < N) : F_L_tryBoiler (nI i) (5 : Int32) C = some (z (30 + 7 * i + 5), C) := by
  obtain ⟨⟨⟨n1, n5⟩, y2, y8⟩, ⟨c65, c66, wf, ag⟩, sd⟩ := h
  show F_L_tryBoiler (nI i) (nI 5) C = _
  unfold F_L_tryBoiler F_X8_boiler
  rw [rqB c65 n1 n5, b2_s, if_pos (show 0 ≤ nI i ∧ nI i ≤ nI (N - 1) from ⟨nI_pos' (by omega), nI_le (by omega) (by omega)⟩), el_l, rq, b2_s, if_pos (show (0 : Int32) ≤ nI 5 ∧ nI 5 ≤ 7 by decide), el_l, gi_n (by omega) (by decide), nI_clamp (by omega)]
  repeat (first | rw [if_pos (by decide)] | rw [if_neg (by decide)])
  rw [ag.b5 hi, b2_s, el_l]
theorem tb_6 (h : Ob N Y K z C) {i : Nat} (hi : i < N) : F_L_tryBoiler (nI i) (6 : Int32) C = some (z (30 + 7 * i + 6), C) := by
  obtain ⟨⟨⟨n1, n5⟩, y2, y8⟩, ⟨c65, c66, wf, ag⟩, sd⟩ := h
  show F_L_tryBoiler (nI i) (nI 6) C = _
  unfold F_L_tryBoiler F_X8_boiler
  rw [rqB c65 n1 n5, b2_s, if_pos (show 0 ≤ nI i ∧ nI i ≤ nI (N - 1) from ⟨nI_pos' (by omega), nI_le (by omega) (by omega)⟩), el_l, rq, b2_s, if_pos (show (0 : Int32) ≤ nI 6 ∧ nI 6 ≤ 7 by decide), el_l, gi_n (by omega) (by decide), nI_clamp (by omega)]
  repeat (first | rw [if_pos (by decide)] | rw [if_neg (by decide)])
  rw [ag.b6 hi, b2_s, el_l]
theorem tb_7 (h : Ob N Y K z C) {i : Nat} (hi : i < N) : F_L_tryBoiler (nI i) (7 : Int32) C = some (rm N z i, C) := by
  obtain ⟨⟨⟨n1, n5⟩, y2, y8⟩, ⟨c65, c66, wf, ag⟩, sd⟩ := h
  show F_L_tryBoiler (nI i) (nI 7) C = _
  unfold F_L_tryBoiler F_X8_boiler
  rw [rqB c65 n1 n5, b2_s, if_pos (show 0 ≤ nI i ∧ nI i ≤ nI (N - 1) from ⟨nI_pos' (by omega), nI_le (by omega) (by omega)⟩), el_l, rq, b2_s, if_pos (show (0 : Int32) ≤ nI 7 ∧ nI 7 ≤ 7 by decide), el_l, gi_n (by omega) (by decide), nI_clamp (by omega)]
  repeat (first | rw [if_pos (by decide)] | rw [if_neg (by decide)])
  rw [f_hasRoom c65 n5, b2_s, rm_c ag hi]
  rcases rm_01 N z i with q | q
  · rw [q, if_pos rfl, b2_s, el_l]
  · rw [q, if_neg (by decide), b2_s, el_l]
def boV (N : Nat) (z : Pg) (i : Nat) : Nat → Int32
  | 0 => z (30 + 7 * i)
  | 7 => rm N z i
  | k => z (30 + 7 * i + k)
theorem tb (h : Ob N Y K z C) {i : Nat} (hi : i < N) {k : Nat} (hk : k < 8) : F_L_tryBoiler (nI i) (nI k) C = some (boV N z i k, C) := by
  rcases (show k = 0 ∨ k = 1 ∨ k = 2 ∨ k = 3 ∨ k = 4 ∨ k = 5 ∨ k = 6 ∨ k = 7 by omega) with rfl | rfl | rfl | rfl | rfl | rfl | rfl | rfl
  · exact tb_0 (z := z) h hi
  · exact tb_1 (z := z) h hi
  · exact tb_2 (z := z) h hi
  · exact tb_3 (z := z) h hi
  · exact tb_4 (z := z) h hi
  · exact tb_5 (z := z) h hi
  · exact tb_6 (z := z) h hi
  · exact tb_7 (z := z) h hi
theorem tb_no1 (h : Ob N Y K z C) (w : Int32) : F_L_tryBoiler (nI N) w C = some (-1001, C) := by
  obtain ⟨⟨⟨n1, n5⟩, y2, y8⟩, ⟨c65, c66, wf, ag⟩, sd⟩ := h
  unfold F_L_tryBoiler F_X8_boiler
  rw [rqB c65 n1 n5, b2_s, if_neg (show ¬ ((0 : Int32) ≤ nI N ∧ nI N ≤ nI (N - 1)) from fun q => nI_ge (show N - 1 < N by omega) (by omega) q.2), el_r, b2_s, el_r, if_pos rfl]
theorem tb_no2 (h : Ob N Y K z C) : F_L_tryBoiler (0 : Int32) (8 : Int32) C = some (-1002, C) := by
  obtain ⟨⟨⟨n1, n5⟩, y2, y8⟩, ⟨c65, c66, wf, ag⟩, sd⟩ := h
  unfold F_L_tryBoiler F_X8_boiler
  rw [rqB c65 n1 n5, b2_s, if_pos (show (0 : Int32) ≤ 0 ∧ 0 ≤ nI (N - 1) from ⟨by decide, nI_pos' (by omega)⟩), el_l, rq, b2_s, if_neg (show ¬ ((0 : Int32) ≤ 8 ∧ (8 : Int32) ≤ 7) by decide), el_r, b2_s, el_r, if_neg (by decide), if_pos rfl]
theorem tf_0 (h : Ob N Y K z C) {f : Nat} (hf : f < 2) : F_L_tryFlue (nI f) (0 : Int32) C = some (z (18 + f), C) := by
  obtain ⟨⟨⟨n1, n5⟩, y2, y8⟩, ⟨c65, c66, wf, ag⟩, sd⟩ := h
  show F_L_tryFlue (nI f) (nI 0) C = _
  have hfl : (if nI f = 0 then 0 else 1 : Nat) = f := by rcases (show f = 0 ∨ f = 1 by omega) with rfl | rfl <;> decide
  unfold F_L_tryFlue F_X8_flue
  rw [rqF, b2_s, if_pos (show (0 : Int32) ≤ nI f ∧ nI f ≤ 1 from ⟨nI_pos' (by omega), nI_le (show f ≤ 1 by omega) (by decide)⟩), el_l, rq, b2_s, if_pos (show (0 : Int32) ≤ nI 0 ∧ nI 0 ≤ 3 by decide), el_l, f_flueOf, b2_s, hfl, gn_p (by omega)]
  repeat (first | rw [if_pos (by decide)] | rw [if_neg (by decide)])
  rw [ag.1 (18 + f) (by omega), b2_s, el_l]
theorem tf_1 (h : Ob N Y K z C) {f : Nat} (hf : f < 2) : F_L_tryFlue (nI f) (1 : Int32) C = some (usS N (nI f) z, C) := by
  obtain ⟨⟨⟨n1, n5⟩, y2, y8⟩, ⟨c65, c66, wf, ag⟩, sd⟩ := h
  show F_L_tryFlue (nI f) (nI 1) C = _
  have hfl : (if nI f = 0 then 0 else 1 : Nat) = f := by rcases (show f = 0 ∨ f = 1 by omega) with rfl | rfl <;> decide
  unfold F_L_tryFlue F_X8_flue
  rw [rqF, b2_s, if_pos (show (0 : Int32) ≤ nI f ∧ nI f ≤ 1 from ⟨nI_pos' (by omega), nI_le (show f ≤ 1 by omega) (by decide)⟩), el_l, rq, b2_s, if_pos (show (0 : Int32) ≤ nI 1 ∧ nI 1 ≤ 3 by decide), el_l, f_flueOf, b2_s, hfl, gn_p (by omega)]
  repeat (first | rw [if_pos (by decide)] | rw [if_neg (by decide)])
  rw [f_useOf c65 n5, b2_s, b2_s, el_l, usS_c ag]
theorem tf_2 (h : Ob N Y K z C) {f : Nat} (hf : f < 2) : F_L_tryFlue (nI f) (2 : Int32) C = some (z (20 + f), C) := by
  obtain ⟨⟨⟨n1, n5⟩, y2, y8⟩, ⟨c65, c66, wf, ag⟩, sd⟩ := h
  show F_L_tryFlue (nI f) (nI 2) C = _
  have hfl : (if nI f = 0 then 0 else 1 : Nat) = f := by rcases (show f = 0 ∨ f = 1 by omega) with rfl | rfl <;> decide
  unfold F_L_tryFlue F_X8_flue
  rw [rqF, b2_s, if_pos (show (0 : Int32) ≤ nI f ∧ nI f ≤ 1 from ⟨nI_pos' (by omega), nI_le (show f ≤ 1 by omega) (by decide)⟩), el_l, rq, b2_s, if_pos (show (0 : Int32) ≤ nI 2 ∧ nI 2 ≤ 3 by decide), el_l, f_flueOf, b2_s, hfl, gn_p (by omega)]
  repeat (first | rw [if_pos (by decide)] | rw [if_neg (by decide)])
  rw [ag.1 (20 + f) (by omega)]
  have hop : z (20 + f) = 0 ∨ z (20 + f) = 1 := by
    have w := wf.ag ag.sy
    rcases (show f = 0 ∨ f = 1 by omega) with rfl | rfl
    · exact w.2.2.2.2.1
    · exact w.2.2.2.2.2.1
  rcases hop with q | q
  · rw [q, if_pos rfl, b2_s, el_l]
  · rw [q, if_neg (by decide), b2_s, el_l]
theorem tf_3 (h : Ob N Y K z C) {f : Nat} (hf : f < 2) : F_L_tryFlue (nI f) (3 : Int32) C = some (cfS N (nI f) z, C) := by
  obtain ⟨⟨⟨n1, n5⟩, y2, y8⟩, ⟨c65, c66, wf, ag⟩, sd⟩ := h
  show F_L_tryFlue (nI f) (nI 3) C = _
  have hfl : (if nI f = 0 then 0 else 1 : Nat) = f := by rcases (show f = 0 ∨ f = 1 by omega) with rfl | rfl <;> decide
  unfold F_L_tryFlue F_X8_flue
  rw [rqF, b2_s, if_pos (show (0 : Int32) ≤ nI f ∧ nI f ≤ 1 from ⟨nI_pos' (by omega), nI_le (show f ≤ 1 by omega) (by decide)⟩), el_l, rq, b2_s, if_pos (show (0 : Int32) ≤ nI 3 ∧ nI 3 ≤ 3 by decide), el_l, f_flueOf, b2_s, hfl, gn_p (by omega)]
  repeat (first | rw [if_pos (by decide)] | rw [if_neg (by decide)])
  rw [f_countAtFlue c65 n5, b2_s, b2_s, el_l, cfS_c ag]
def flV (N : Nat) (z : Pg) (f : Nat) : Nat → Int32
  | 0 => z (18 + f)
  | 1 => usS N (nI f) z
  | 2 => z (20 + f)
  | _ => cfS N (nI f) z
theorem tf (h : Ob N Y K z C) {f : Nat} (hf : f < 2) {k : Nat} (hk : k < 4) : F_L_tryFlue (nI f) (nI k) C = some (flV N z f k, C) := by
  rcases (show k = 0 ∨ k = 1 ∨ k = 2 ∨ k = 3 by omega) with rfl | rfl | rfl | rfl
  · exact tf_0 (z := z) h hf
  · exact tf_1 (z := z) h hf
  · exact tf_2 (z := z) h hf
  · exact tf_3 (z := z) h hf
theorem tf_no1 (C : Mem) : F_L_tryFlue (2 : Int32) (4 : Int32) C = some (-1001, C) := by
  unfold F_L_tryFlue F_X8_flue
  rw [rqF, b2_s, if_neg (show ¬ ((0 : Int32) ≤ 2 ∧ (2 : Int32) ≤ 1) by decide), el_r, b2_s, el_r, if_pos rfl]
theorem tf_no2 (C : Mem) : F_L_tryFlue (0 : Int32) (4 : Int32) C = some (-1002, C) := by
  unfold F_L_tryFlue F_X8_flue
  rw [rqF, b2_s, if_pos (show (0 : Int32) ≤ 0 ∧ (0 : Int32) ≤ 1 by decide), el_l, rq, b2_s, if_neg (show ¬ ((0 : Int32) ≤ 4 ∧ (4 : Int32) ≤ 3) by decide), el_r, b2_s, el_r, if_neg (by decide), if_pos rfl]
theorem tl (h : Ob N Y K z C) {j : Nat} (hj : j < Y) : F_L_tryLayer (nI j) C = some (z (22 + j), C) := by
  obtain ⟨⟨⟨n1, n5⟩, y2, y8⟩, ⟨c65, c66, wf, ag⟩, sd⟩ := h
  unfold F_L_tryLayer F_X8_layer
  rw [c66, if_neg (nI_pos (by omega)), if_pos (nI_lt (by omega) (by omega)), gi_n (by omega) (by decide), nI_clamp (by omega), ag.2.1 j (by omega), b2_s, el_l]
theorem tl_no (h : Ob N Y K z C) : F_L_tryLayer (nI Y) C = some (-1001, C) := by
  obtain ⟨⟨⟨n1, n5⟩, y2, y8⟩, ⟨c65, c66, wf, ag⟩, sd⟩ := h
  unfold F_L_tryLayer F_X8_layer
  rw [c66, if_neg (nI_pos (by omega)), if_neg (nI_nlt (Nat.le_refl _) (by omega)), b2_s, el_r, if_pos rfl]
theorem tc_0 (h : Ob N Y K z C) : F_L_tryAccount (0 : Int32) C = some (z 13, C) := by
  obtain ⟨⟨⟨n1, n5⟩, y2, y8⟩, ⟨c65, c66, wf, ag⟩, sd⟩ := h
  show F_L_tryAccount (nI 0) C = _
  unfold F_L_tryAccount F_X8_account
  rw [rq, b2_s, if_pos (show (0 : Int32) ≤ nI 0 ∧ nI 0 ≤ 5 by decide), el_l]
  repeat (first | rw [if_pos (by decide)] | rw [if_neg (by decide)])
  rw [ag.1 13 (by decide), b2_s, el_l]
theorem tc_1 (h : Ob N Y K z C) : F_L_tryAccount (1 : Int32) C = some (z 14, C) := by
  obtain ⟨⟨⟨n1, n5⟩, y2, y8⟩, ⟨c65, c66, wf, ag⟩, sd⟩ := h
  show F_L_tryAccount (nI 1) C = _
  unfold F_L_tryAccount F_X8_account
  rw [rq, b2_s, if_pos (show (0 : Int32) ≤ nI 1 ∧ nI 1 ≤ 5 by decide), el_l]
  repeat (first | rw [if_pos (by decide)] | rw [if_neg (by decide)])
  rw [ag.1 14 (by decide), b2_s, el_l]
theorem tc_2 (h : Ob N Y K z C) : F_L_tryAccount (2 : Int32) C = some (z 15, C) := by
  obtain ⟨⟨⟨n1, n5⟩, y2, y8⟩, ⟨c65, c66, wf, ag⟩, sd⟩ := h
  show F_L_tryAccount (nI 2) C = _
  unfold F_L_tryAccount F_X8_account
  rw [rq, b2_s, if_pos (show (0 : Int32) ≤ nI 2 ∧ nI 2 ≤ 5 by decide), el_l]
  repeat (first | rw [if_pos (by decide)] | rw [if_neg (by decide)])
  rw [ag.1 15 (by decide), b2_s, el_l]
theorem tc_3 (h : Ob N Y K z C) : F_L_tryAccount (3 : Int32) C = some (z 16, C) := by
  obtain ⟨⟨⟨n1, n5⟩, y2, y8⟩, ⟨c65, c66, wf, ag⟩, sd⟩ := h
  show F_L_tryAccount (nI 3) C = _
  unfold F_L_tryAccount F_X8_account
  rw [rq, b2_s, if_pos (show (0 : Int32) ≤ nI 3 ∧ nI 3 ≤ 5 by decide), el_l]
  repeat (first | rw [if_pos (by decide)] | rw [if_neg (by decide)])
  rw [ag.1 16 (by decide), b2_s, el_l]
theorem tc_4 (h : Ob N Y K z C) : F_L_tryAccount (4 : Int32) C = some (fuS N z, C) := by
  obtain ⟨⟨⟨n1, n5⟩, y2, y8⟩, ⟨c65, c66, wf, ag⟩, sd⟩ := h
  show F_L_tryAccount (nI 4) C = _
  unfold F_L_tryAccount F_X8_account
  rw [rq, b2_s, if_pos (show (0 : Int32) ≤ nI 4 ∧ nI 4 ≤ 5 by decide), el_l]
  repeat (first | rw [if_pos (by decide)] | rw [if_neg (by decide)])
  rw [f_fuel c65 n5, b2_s, b2_s, el_l, fuS_c ag]
theorem tc_5 (h : Ob N Y K z C) : F_L_tryAccount (5 : Int32) C = some (z 17, C) := by
  obtain ⟨⟨⟨n1, n5⟩, y2, y8⟩, ⟨c65, c66, wf, ag⟩, sd⟩ := h
  show F_L_tryAccount (nI 5) C = _
  unfold F_L_tryAccount F_X8_account
  rw [rq, b2_s, if_pos (show (0 : Int32) ≤ nI 5 ∧ nI 5 ≤ 5 by decide), el_l]
  repeat (first | rw [if_pos (by decide)] | rw [if_neg (by decide)])
  rw [ag.1 17 (by decide), b2_s, el_l]
def acV (N : Nat) (z : Pg) : Nat → Int32
  | 4 => fuS N z
  | 5 => z 17
  | k => z (13 + k)
theorem tc (h : Ob N Y K z C) {k : Nat} (hk : k < 6) : F_L_tryAccount (nI k) C = some (acV N z k, C) := by
  rcases (show k = 0 ∨ k = 1 ∨ k = 2 ∨ k = 3 ∨ k = 4 ∨ k = 5 by omega) with rfl | rfl | rfl | rfl | rfl | rfl
  · exact tc_0 (z := z) h
  · exact tc_1 (z := z) h
  · exact tc_2 (z := z) h
  · exact tc_3 (z := z) h
  · exact tc_4 (z := z) h
  · exact tc_5 (z := z) h
theorem tc_no (C : Mem) : F_L_tryAccount (6 : Int32) C = some (-1002, C) := by
  unfold F_L_tryAccount F_X8_account
  rw [rq, b2_s, if_neg (show ¬ ((0 : Int32) ≤ 6 ∧ (6 : Int32) ≤ 5) by decide), el_r, b2_s, el_r, if_pos rfl]
theorem tn (h : Ob N Y K z C) : F_X8_next C = some (enc (nx N z), C) := by
  obtain ⟨⟨⟨n1, n5⟩, y2, y8⟩, ⟨c65, c66, wf, ag⟩, sd⟩ := h
  unfold F_X8_next
  rw [f_firstToStart c65 n5, b2_s, nx_c ag]
/-- why a boiler could not start -/
def whV (N : Nat) (z : Pg) (i : Nat) : Int32 := if z (30 + 7 * i + 2) = 4 then 2 else if z (30 + 7 * i + 2) = 0 ∨ z (30 + 7 * i + 2) = 3 then (if z (20 + fiS z i) = 0 then 3 else if rm N z i = 0 then 4 else 0) else 1
theorem tw (h : Ob N Y K z C) {i : Nat} (hi : i < N) : F_L_tryWhyNot (nI i) C = some (whV N z i, C) := by
  obtain ⟨⟨⟨n1, n5⟩, y2, y8⟩, ⟨c65, c66, wf, ag⟩, sd⟩ := h
  have eop : C 0 (20 + fiS (C 0) i) = z (20 + fiS z i) := by
    have := fiS_lt z i
    rw [fiS_c ag hi, ag.1 _ (by omega)]
  unfold F_L_tryWhyNot F_X8_whyNot whV
  rw [rqB c65 n1 n5, b2_s, if_pos (show 0 ≤ nI i ∧ nI i ≤ nI (N - 1) from ⟨nI_pos' (by omega), nI_le (by omega) (by omega)⟩), el_l, gi_n (by omega) (by decide), nI_clamp (by omega), ag.b2 hi]
  by_cases h4 : z (30 + 7 * i + 2) = 4
  · rw [if_pos h4, if_pos h4, b2_s, el_l]
  · rw [if_neg h4, if_neg h4]
    by_cases hw : wt (C 0) i
    · have hw' : z (30 + 7 * i + 2) = 0 ∨ z (30 + 7 * i + 2) = 3 := by
        rw [← ag.b2 hi]
        exact hw
      rw [f_waits_t hw, b2_s, if_neg (by decide), if_pos hw', f_flueOf, b2_s]
      show b2 (gn (fiS (C 0) i) 2 _) _ = _
      rw [gn_p (fiS_lt _ _)]
      show b2 (if C 0 (20 + fiS (C 0) i) = 0 then _ else _) _ = _
      rw [eop]
      by_cases ho : z (20 + fiS z i) = 0
      · rw [if_pos ho, if_pos ho, b2_s, el_l]
      · rw [if_neg ho, if_neg ho, f_hasRoom c65 n5, b2_s, rm_c ag hi]
        by_cases hr : rm N z i = 0
        · rw [if_pos hr, if_pos hr, b2_s, el_l]
        · rw [if_neg hr, if_neg hr, b2_s, el_l]
    · have hw' : ¬ (z (30 + 7 * i + 2) = 0 ∨ z (30 + 7 * i + 2) = 3) := by
        rw [← ag.b2 hi]
        exact hw
      rw [f_waits_f hw, b2_s, if_pos rfl, if_neg hw', b2_s, el_l]
theorem tw_no (h : Ob N Y K z C) : F_L_tryWhyNot (nI N) C = some (-1001, C) := by
  obtain ⟨⟨⟨n1, n5⟩, y2, y8⟩, ⟨c65, c66, wf, ag⟩, sd⟩ := h
  unfold F_L_tryWhyNot F_X8_whyNot
  rw [rqB c65 n1 n5, b2_s, if_neg (show ¬ ((0 : Int32) ≤ nI N ∧ nI N ≤ nI (N - 1)) from fun q => nI_ge (show N - 1 < N by omega) (by omega) q.2), el_r, b2_s, el_r, if_pos rfl]
end ASKS
