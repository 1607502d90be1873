/-! what there is: both answer the same -/
section ASKS
variable {C : Mem} {K : Nat}
theorem d33 (C : Mem) (v w : Int32) : (mu (mu C 40 0 v) 30 0 w) 33 = C 33 := by rw [mu_r _ _ _ (show 33 ≠ 30 by decide), mu_r _ _ _ (show 33 ≠ 40 by decide)]
theorem d30 (C : Mem) (v w : Int32) {k : Nat} (h : k ≠ 0) : (mu (mu C 40 0 v) 30 0 w) 30 k = C 30 k := by rw [mu_o _ _ h, mu_r _ _ _ (show 30 ≠ 40 by decide)]
theorem Agree.w {N Y : Nat} {y z : Pg} (h : Agree N Y y z) {k : Nat} (hk : k < 22) : z k = y k := (h.1 k hk).symm

theorem p_about (hI : Inv K C) (x : Int32) : Res K (F_L_about x C) (F_X9_about x) := by
  obtain ⟨N, Y, ⟨n1, n5, y2, y8, h4, h5⟩, ⟨c65, c66, wf, ag⟩, -, -, -⟩ := id hI
  by_cases hx : 0 ≤ x ∧ x ≤ 16
  case neg =>
    refine res_no hI (c := 1) (w := 0) (by decide) ?_ ?_
    · unfold F_L_about F_X8_about
      rw [rq, b2_s, if_neg hx, el_r, b2_s, el_r, if_pos rfl]
    · unfold F_X9_about
      rw [f_inL (b := 0) (c := 16) (by decide) (by decide), b2_s, if_neg hx, if_pos rfl]
      unfold J_X9_about_18
      rw [ref1, b2_s, if_neg (by decide)]
  have fin : ∀ k : Nat, k ≤ 16 → ∀ v : Int32, F_X8_about (nI k) C = some (.inl v, C) → (∀ D : Mem, D 30 4 = nI N → D 30 5 = nI Y → D 33 = C 33 → J_X9_about_18 (nI k) D 0 = some (v, mu D 30 0 0)) → Res K (F_L_about (nI k) C) (F_X9_about (nI k)) := fun k hk v h1 h2 => by
    refine res_ask hI (v := v) ?_ ?_
    · unfold F_L_about
      rw [h1, b2_s, el_l, nm_s]
    · unfold F_X9_about
      rw [f_inL (b := 0) (c := 16) (by decide) (by decide), b2_s, if_pos (show (0 : Int32) ≤ nI k ∧ nI k ≤ (16 : Int32) from ⟨nI_pos' (by omega), nI_le hk (by decide)⟩), if_neg (by decide)]
      exact h2 _ (by rw [mu_r _ _ _ (show 30 ≠ 40 by decide)]; exact h4) (by rw [mu_r _ _ _ (show 30 ≠ 40 by decide)]; exact h5) (mu_r _ _ _ (by decide))
  obtain ⟨k, -, hk, rfl⟩ := in_n (m := 0) (n := 16) rfl rfl hx
  rcases (show k = 0 ∨ k = 1 ∨ k = 2 ∨ k = 3 ∨ k = 4 ∨ k = 5 ∨ k = 6 ∨ k = 7 ∨ k = 8 ∨ k = 9 ∨ k = 10 ∨ k = 11 ∨ k = 12 ∨ k = 13 ∨ k = 14 ∨ k = 15 ∨ k = 16 by omega) with rfl | rfl | rfl | rfl | rfl | rfl | rfl | rfl | rfl | rfl | rfl | rfl | rfl | rfl | rfl | rfl | rfl
  · refine fin 0 (by decide) (C 33 0) ?_ ?_
    · unfold F_X8_about
      rw [rq, b2_s, if_pos (show (0 : Int32) ≤ nI 0 ∧ nI 0 ≤ 16 by decide), el_l]
      repeat (first | rw [if_pos (by decide)] | rw [if_neg (by decide)])
      rw [gi_n (show 0 < 6 by decide) (by decide), nI_clamp (by decide), ag.1 0 (by decide)]
    · intro D e4 e5 e33
      unfold J_X9_about_18
      rw [ref0, b2_s]
      repeat (first | rw [if_pos (by decide)] | rw [if_neg (by decide)])
      rw [show alen 33 = 65 from rfl, gi_n (show 0 < 65 by decide) (by decide), nI_clamp (by decide)]
      rw [mu_r _ _ _ (show 33 ≠ 30 by decide), e33]
  · refine fin 1 (by decide) (C 33 1) ?_ ?_
    · unfold F_X8_about
      rw [rq, b2_s, if_pos (show (0 : Int32) ≤ nI 1 ∧ nI 1 ≤ 16 by decide), el_l]
      repeat (first | rw [if_pos (by decide)] | rw [if_neg (by decide)])
      rw [gi_n (show 1 < 6 by decide) (by decide), nI_clamp (by decide), ag.1 1 (by decide)]
    · intro D e4 e5 e33
      unfold J_X9_about_18
      rw [ref0, b2_s]
      repeat (first | rw [if_pos (by decide)] | rw [if_neg (by decide)])
      rw [show alen 33 = 65 from rfl, gi_n (show 1 < 65 by decide) (by decide), nI_clamp (by decide)]
      rw [mu_r _ _ _ (show 33 ≠ 30 by decide), e33]
  · refine fin 2 (by decide) (C 33 2) ?_ ?_
    · unfold F_X8_about
      rw [rq, b2_s, if_pos (show (0 : Int32) ≤ nI 2 ∧ nI 2 ≤ 16 by decide), el_l]
      repeat (first | rw [if_pos (by decide)] | rw [if_neg (by decide)])
      rw [gi_n (show 2 < 6 by decide) (by decide), nI_clamp (by decide), ag.1 2 (by decide)]
    · intro D e4 e5 e33
      unfold J_X9_about_18
      rw [ref0, b2_s]
      repeat (first | rw [if_pos (by decide)] | rw [if_neg (by decide)])
      rw [show alen 33 = 65 from rfl, gi_n (show 2 < 65 by decide) (by decide), nI_clamp (by decide)]
      rw [mu_r _ _ _ (show 33 ≠ 30 by decide), e33]
  · refine fin 3 (by decide) (C 33 3) ?_ ?_
    · unfold F_X8_about
      rw [rq, b2_s, if_pos (show (0 : Int32) ≤ nI 3 ∧ nI 3 ≤ 16 by decide), el_l]
      repeat (first | rw [if_pos (by decide)] | rw [if_neg (by decide)])
      rw [gi_n (show 3 < 6 by decide) (by decide), nI_clamp (by decide), ag.1 3 (by decide)]
    · intro D e4 e5 e33
      unfold J_X9_about_18
      rw [ref0, b2_s]
      repeat (first | rw [if_pos (by decide)] | rw [if_neg (by decide)])
      rw [show alen 33 = 65 from rfl, gi_n (show 3 < 65 by decide) (by decide), nI_clamp (by decide)]
      rw [mu_r _ _ _ (show 33 ≠ 30 by decide), e33]
  · refine fin 4 (by decide) (C 33 4) ?_ ?_
    · unfold F_X8_about
      rw [rq, b2_s, if_pos (show (0 : Int32) ≤ nI 4 ∧ nI 4 ≤ 16 by decide), el_l]
      repeat (first | rw [if_pos (by decide)] | rw [if_neg (by decide)])
      rw [gi_n (show 4 < 6 by decide) (by decide), nI_clamp (by decide), ag.1 4 (by decide)]
    · intro D e4 e5 e33
      unfold J_X9_about_18
      rw [ref0, b2_s]
      repeat (first | rw [if_pos (by decide)] | rw [if_neg (by decide)])
      rw [show alen 33 = 65 from rfl, gi_n (show 4 < 65 by decide) (by decide), nI_clamp (by decide)]
      rw [mu_r _ _ _ (show 33 ≠ 30 by decide), e33]
  · refine fin 5 (by decide) (C 33 5) ?_ ?_
    · unfold F_X8_about
      rw [rq, b2_s, if_pos (show (0 : Int32) ≤ nI 5 ∧ nI 5 ≤ 16 by decide), el_l]
      repeat (first | rw [if_pos (by decide)] | rw [if_neg (by decide)])
      rw [gi_n (show 5 < 6 by decide) (by decide), nI_clamp (by decide), ag.1 5 (by decide)]
    · intro D e4 e5 e33
      unfold J_X9_about_18
      rw [ref0, b2_s]
      repeat (first | rw [if_pos (by decide)] | rw [if_neg (by decide)])
      rw [show alen 33 = 65 from rfl, gi_n (show 5 < 65 by decide) (by decide), nI_clamp (by decide)]
      rw [mu_r _ _ _ (show 33 ≠ 30 by decide), e33]
  · refine fin 6 (by decide) (nI N) ?_ ?_
    · unfold F_X8_about
      rw [rq, b2_s, if_pos (show (0 : Int32) ≤ nI 6 ∧ nI 6 ≤ 16 by decide), el_l]
      repeat (first | rw [if_pos (by decide)] | rw [if_neg (by decide)])
      rw [c65]
    · intro D e4 e5 e33
      unfold J_X9_about_18
      rw [ref0, b2_s]
      repeat (first | rw [if_pos (by decide)] | rw [if_neg (by decide)])
      rw [mu_o _ _ (by decide), e4]
  · refine fin 7 (by decide) (nI Y) ?_ ?_
    · unfold F_X8_about
      rw [rq, b2_s, if_pos (show (0 : Int32) ≤ nI 7 ∧ nI 7 ≤ 16 by decide), el_l]
      repeat (first | rw [if_pos (by decide)] | rw [if_neg (by decide)])
      rw [c66]
    · intro D e4 e5 e33
      unfold J_X9_about_18
      rw [ref0, b2_s]
      repeat (first | rw [if_pos (by decide)] | rw [if_neg (by decide)])
      rw [mu_o _ _ (by decide), e5]
  · refine fin 8 (by decide) (C 33 6) ?_ ?_
    · unfold F_X8_about
      rw [rq, b2_s, if_pos (show (0 : Int32) ≤ nI 8 ∧ nI 8 ≤ 16 by decide), el_l]
      repeat (first | rw [if_pos (by decide)] | rw [if_neg (by decide)])
      rw [ag.1 6 (by decide)]
    · intro D e4 e5 e33
      unfold J_X9_about_18
      rw [ref0, b2_s]
      repeat (first | rw [if_pos (by decide)] | rw [if_neg (by decide)])
      rw [show alen 33 = 65 from rfl, gl_6, cl_6]
      rw [mu_r _ _ _ (show 33 ≠ 30 by decide), e33]
  · refine fin 9 (by decide) (avg Y (C 33)) ?_ ?_
    · unfold F_X8_about
      rw [rq, b2_s, if_pos (show (0 : Int32) ≤ nI 9 ∧ nI 9 ≤ 16 by decide), el_l]
      repeat (first | rw [if_pos (by decide)] | rw [if_neg (by decide)])
      rw [f_mean c66 (by omega) y8, b2_s, avg_c ag]
    · intro D e4 e5 e33
      unfold J_X9_about_18
      rw [ref0, b2_s]
      repeat (first | rw [if_pos (by decide)] | rw [if_neg (by decide)])
      rw [f_meanOf (by rw [mu_o _ _ (by decide)]; exact e5) (by omega) y8 rfl, b2_s]
      rw [mu_r _ _ _ (show 33 ≠ 30 by decide), e33]
  · refine fin 10 (by decide) (C 33 7) ?_ ?_
    · unfold F_X8_about
      rw [rq, b2_s, if_pos (show (0 : Int32) ≤ nI 10 ∧ nI 10 ≤ 16 by decide), el_l]
      repeat (first | rw [if_pos (by decide)] | rw [if_neg (by decide)])
      rw [ag.1 7 (by decide)]
    · intro D e4 e5 e33
      unfold J_X9_about_18
      rw [ref0, b2_s]
      repeat (first | rw [if_pos (by decide)] | rw [if_neg (by decide)])
      rw [show alen 33 = 65 from rfl, show (7 : Int32) + nI 10 - 10 = nI 7 by decide, gi_n (show 7 < 65 by decide) (by decide), nI_clamp (by decide)]
      rw [mu_r _ _ _ (show 33 ≠ 30 by decide), e33]
  · refine fin 11 (by decide) (C 33 8) ?_ ?_
    · unfold F_X8_about
      rw [rq, b2_s, if_pos (show (0 : Int32) ≤ nI 11 ∧ nI 11 ≤ 16 by decide), el_l]
      repeat (first | rw [if_pos (by decide)] | rw [if_neg (by decide)])
      rw [← ag.1 8 (by decide)]
      rcases wf.2.1 with q | q
      · rw [q, if_pos rfl]
      · rw [q, if_neg (by decide)]
    · intro D e4 e5 e33
      unfold J_X9_about_18
      rw [ref0, b2_s]
      repeat (first | rw [if_pos (by decide)] | rw [if_neg (by decide)])
      rw [show alen 33 = 65 from rfl, show (7 : Int32) + nI 11 - 10 = nI 8 by decide, gi_n (show 8 < 65 by decide) (by decide), nI_clamp (by decide)]
      rw [mu_r _ _ _ (show 33 ≠ 30 by decide), e33]
  · refine fin 12 (by decide) (C 33 9) ?_ ?_
    · unfold F_X8_about
      rw [rq, b2_s, if_pos (show (0 : Int32) ≤ nI 12 ∧ nI 12 ≤ 16 by decide), el_l]
      repeat (first | rw [if_pos (by decide)] | rw [if_neg (by decide)])
      rw [ag.1 9 (by decide)]
    · intro D e4 e5 e33
      unfold J_X9_about_18
      rw [ref0, b2_s]
      repeat (first | rw [if_pos (by decide)] | rw [if_neg (by decide)])
      rw [show alen 33 = 65 from rfl, show (7 : Int32) + nI 12 - 10 = nI 9 by decide, gi_n (show 9 < 65 by decide) (by decide), nI_clamp (by decide)]
      rw [mu_r _ _ _ (show 33 ≠ 30 by decide), e33]
  · refine fin 13 (by decide) (C 33 10) ?_ ?_
    · unfold F_X8_about
      rw [rq, b2_s, if_pos (show (0 : Int32) ≤ nI 13 ∧ nI 13 ≤ 16 by decide), el_l]
      repeat (first | rw [if_pos (by decide)] | rw [if_neg (by decide)])
      rw [ag.1 10 (by decide)]
    · intro D e4 e5 e33
      unfold J_X9_about_18
      rw [ref0, b2_s]
      repeat (first | rw [if_pos (by decide)] | rw [if_neg (by decide)])
      rw [show alen 33 = 65 from rfl, show (7 : Int32) + nI 13 - 10 = nI 10 by decide, gi_n (show 10 < 65 by decide) (by decide), nI_clamp (by decide)]
      rw [mu_r _ _ _ (show 33 ≠ 30 by decide), e33]
  · refine fin 14 (by decide) (C 33 11) ?_ ?_
    · unfold F_X8_about
      rw [rq, b2_s, if_pos (show (0 : Int32) ≤ nI 14 ∧ nI 14 ≤ 16 by decide), el_l]
      repeat (first | rw [if_pos (by decide)] | rw [if_neg (by decide)])
      rw [ag.1 11 (by decide)]
    · intro D e4 e5 e33
      unfold J_X9_about_18
      rw [ref0, b2_s]
      repeat (first | rw [if_pos (by decide)] | rw [if_neg (by decide)])
      rw [show alen 33 = 65 from rfl, show (7 : Int32) + nI 14 - 10 = nI 11 by decide, gi_n (show 11 < 65 by decide) (by decide), nI_clamp (by decide)]
      rw [mu_r _ _ _ (show 33 ≠ 30 by decide), e33]
  · refine fin 15 (by decide) (C 33 12) ?_ ?_
    · unfold F_X8_about
      rw [rq, b2_s, if_pos (show (0 : Int32) ≤ nI 15 ∧ nI 15 ≤ 16 by decide), el_l]
      repeat (first | rw [if_pos (by decide)] | rw [if_neg (by decide)])
      rw [ag.1 12 (by decide)]
    · intro D e4 e5 e33
      unfold J_X9_about_18
      rw [ref0, b2_s]
      repeat (first | rw [if_pos (by decide)] | rw [if_neg (by decide)])
      rw [show alen 33 = 65 from rfl, show (7 : Int32) + nI 15 - 10 = nI 12 by decide, gi_n (show 12 < 65 by decide) (by decide), nI_clamp (by decide)]
      rw [mu_r _ _ _ (show 33 ≠ 30 by decide), e33]
  · refine fin 16 (by decide) (cnS N 2 (C 33)) ?_ ?_
    · unfold F_X8_about
      rw [rq, b2_s, if_pos (show (0 : Int32) ≤ nI 16 ∧ nI 16 ≤ 16 by decide), el_l]
      repeat (first | rw [if_pos (by decide)] | rw [if_neg (by decide)])
      rw [f_countInState c65 n5, b2_s, cnS_c ag]
    · intro D e4 e5 e33
      unfold J_X9_about_18
      rw [ref0, b2_s]
      repeat (first | rw [if_pos (by decide)] | rw [if_neg (by decide)])
      rw [f_count (by rw [mu_o _ _ (by decide)]; exact e4) n5 rfl, b2_s]
      rw [mu_r _ _ _ (show 33 ≠ 30 by decide), e33]
theorem p_boiler (hI : Inv K C) (x w : Int32) : Res K (F_L_boiler x w C) (F_X9_boiler x w) := by
  obtain ⟨N, Y, ⟨n1, n5, y2, y8, h4, h5⟩, ⟨c65, c66, wf, ag⟩, -, -, -⟩ := id hI
  by_cases hx : 0 ≤ x ∧ x ≤ nI (N - 1)
  case neg =>
    refine res_no hI (c := 1) (w := 0) (by decide) ?_ ?_
    · unfold F_L_boiler F_X8_boiler
      rw [rqB c65 n1 n5, b2_s, if_neg hx, el_r, b2_s, el_r, if_pos rfl]
    · unfold F_X9_boiler
      rw [has_m h4 n1, b2_s, if_neg hx, if_pos rfl]
      unfold J_X9_boiler_30
      rw [ref1, b2_s, if_neg (by decide)]
  by_cases hw : 0 ≤ w ∧ w ≤ 7
  case neg =>
    refine res_no hI (c := 2) (w := 0) (by decide) ?_ ?_
    · unfold F_L_boiler F_X8_boiler
      rw [rqB c65 n1 n5, b2_s, if_pos hx, el_l, rq, b2_s, if_neg hw, el_r, b2_s, el_r, if_neg (by decide), if_pos rfl]
    · unfold F_X9_boiler
      rw [has_m h4 n1, b2_s, if_pos hx, if_neg (by decide), f_inL (b := 0) (c := 7) (by decide) (by decide), b2_s, if_neg hw, if_pos rfl]
      unfold J_X9_boiler_30
      rw [ref2, b2_s, if_neg (by decide)]
  obtain ⟨i, hi, rfl⟩ := in_b n1 n5 hx
  have fin : ∀ k : Nat, k ≤ 7 → ∀ v : Int32, (if nI k = 0 then some (Sum.inl (C 0 (30 + 7 * i)), C) else if nI k = 1 then some (Sum.inl (C 0 (30 + 7 * i + 1)), C) else if nI k = 2 then some (Sum.inl (C 0 (30 + 7 * i + 2)), C) else if nI k = 3 then some (Sum.inl (C 0 (30 + 7 * i + 3)), C) else if nI k = 4 then some (Sum.inl (C 0 (30 + 7 * i + 4)), C) else if nI k = 5 then some (Sum.inl (C 0 (30 + 7 * i + 5)), C) else if nI k = 6 then some (Sum.inl (C 0 (30 + 7 * i + 6)), C) else b2 (F_X5_hasRoomFor 0 0 i C) fun r19 C20 => if r19 = 0 then some (Sum.inl (0 : Int32), C20) else some (Sum.inl (1 : Int32), C20)) = (some (.inl v, C) : Option (Rs × Mem)) → (∀ D : Mem, D 30 4 = nI N → D 33 = C 33 → J_X9_boiler_30 (nI i) (nI k) 0 D = some (v, mu D 30 0 0)) → Res K (F_L_boiler (nI i) (nI k) C) (F_X9_boiler (nI i) (nI k)) := fun k hk v h1 h2 => by
    have hk' : 0 ≤ nI k ∧ nI k ≤ 7 := ⟨nI_pos' (by omega), nI_le hk (by decide)⟩
    refine res_ask hI (v := v) ?_ ?_
    · unfold F_L_boiler F_X8_boiler
      rw [rqB c65 n1 n5, b2_s, if_pos hx, el_l, rq, b2_s, if_pos hk', el_l, gi_n (by omega) (by decide), nI_clamp (by omega), h1, b2_s, el_l, nm_s]
    · unfold F_X9_boiler
      rw [has_m (N := N) (by rw [mu_r _ _ _ (show 30 ≠ 40 by decide)]; exact h4) n1, b2_s, if_pos hx, if_neg (by decide), f_inL (b := 0) (c := 7) (by decide) (by decide), b2_s, if_pos hk', if_neg (by decide)]
      exact h2 _ (by rw [mu_r _ _ _ (show 30 ≠ 40 by decide)]; exact h4) (mu_r _ _ _ (by decide))
  obtain ⟨k, -, hk, rfl⟩ := in_n (m := 0) (n := 7) rfl rfl hw
  rcases (show k = 0 ∨ k = 1 ∨ k = 2 ∨ k = 3 ∨ k = 4 ∨ k = 5 ∨ k = 6 ∨ k = 7 by omega) with rfl | rfl | rfl | rfl | rfl | rfl | rfl | rfl
  · refine fin 0 (by decide) (C 33 (30 + 7 * i)) ?_ ?_
    · repeat (first | rw [if_pos (by decide)] | rw [if_neg (by decide)])
      rw [ag.b0 hi]
    · intro D e4 e33
      unfold J_X9_boiler_30
      rw [ref0, b2_s]
      repeat (first | rw [if_pos (by decide)] | rw [if_neg (by decide)])
      rw [at_s, show alen 33 = 65 from rfl, nI_add, gi_n (show 30 + 7 * i + 0 < 65 by omega) (by decide), nI_clamp (show 30 + 7 * i + 0 < 2 ^ 31 by omega), mu_r _ _ _ (show 33 ≠ 30 by decide), e33]
      rfl
  · refine fin 1 (by decide) (C 33 (30 + 7 * i + 1)) ?_ ?_
    · repeat (first | rw [if_pos (by decide)] | rw [if_neg (by decide)])
      rw [ag.b1 hi]
    · intro D e4 e33
      unfold J_X9_boiler_30
      rw [ref0, b2_s]
      repeat (first | rw [if_pos (by decide)] | rw [if_neg (by decide)])
      rw [at_s, show alen 33 = 65 from rfl, nI_add, gi_n (show 30 + 7 * i + 1 < 65 by omega) (by decide), nI_clamp (show 30 + 7 * i + 1 < 2 ^ 31 by omega), mu_r _ _ _ (show 33 ≠ 30 by decide), e33]
  · refine fin 2 (by decide) (C 33 (30 + 7 * i + 2)) ?_ ?_
    · repeat (first | rw [if_pos (by decide)] | rw [if_neg (by decide)])
      rw [ag.b2 hi]
    · intro D e4 e33
      unfold J_X9_boiler_30
      rw [ref0, b2_s]
      repeat (first | rw [if_pos (by decide)] | rw [if_neg (by decide)])
      rw [at_s, show alen 33 = 65 from rfl, nI_add, gi_n (show 30 + 7 * i + 2 < 65 by omega) (by decide), nI_clamp (show 30 + 7 * i + 2 < 2 ^ 31 by omega), mu_r _ _ _ (show 33 ≠ 30 by decide), e33]
  · refine fin 3 (by decide) (C 33 (30 + 7 * i + 3)) ?_ ?_
    · repeat (first | rw [if_pos (by decide)] | rw [if_neg (by decide)])
      rw [ag.b3 hi]
    · intro D e4 e33
      unfold J_X9_boiler_30
      rw [ref0, b2_s]
      repeat (first | rw [if_pos (by decide)] | rw [if_neg (by decide)])
      rw [at_s, show alen 33 = 65 from rfl, nI_add, gi_n (show 30 + 7 * i + 3 < 65 by omega) (by decide), nI_clamp (show 30 + 7 * i + 3 < 2 ^ 31 by omega), mu_r _ _ _ (show 33 ≠ 30 by decide), e33]
  · refine fin 4 (by decide) (C 33 (30 + 7 * i + 4)) ?_ ?_
    · repeat (first | rw [if_pos (by decide)] | rw [if_neg (by decide)])
      rw [ag.b4 hi]
    · intro D e4 e33
      unfold J_X9_boiler_30
      rw [ref0, b2_s]
      repeat (first | rw [if_pos (by decide)] | rw [if_neg (by decide)])
      rw [at_s, show alen 33 = 65 from rfl, nI_add, gi_n (show 30 + 7 * i + 4 < 65 by omega) (by decide), nI_clamp (show 30 + 7 * i + 4 < 2 ^ 31 by omega), mu_r _ _ _ (show 33 ≠ 30 by decide), e33]
  · refine fin 5 (by decide) (C 33 (30 + 7 * i + 5)) ?_ ?_
    · repeat (first | rw [if_pos (by decide)] | rw [if_neg (by decide)])
      rw [ag.b5 hi]
    · intro D e4 e33
      unfold J_X9_boiler_30
      rw [ref0, b2_s]
      repeat (first | rw [if_pos (by decide)] | rw [if_neg (by decide)])
      rw [at_s, show alen 33 = 65 from rfl, nI_add, gi_n (show 30 + 7 * i + 5 < 65 by omega) (by decide), nI_clamp (show 30 + 7 * i + 5 < 2 ^ 31 by omega), mu_r _ _ _ (show 33 ≠ 30 by decide), e33]
  · refine fin 6 (by decide) (C 33 (30 + 7 * i + 6)) ?_ ?_
    · repeat (first | rw [if_pos (by decide)] | rw [if_neg (by decide)])
      rw [ag.b6 hi]
    · intro D e4 e33
      unfold J_X9_boiler_30
      rw [ref0, b2_s]
      repeat (first | rw [if_pos (by decide)] | rw [if_neg (by decide)])
      rw [at_s, show alen 33 = 65 from rfl, nI_add, gi_n (show 30 + 7 * i + 6 < 65 by omega) (by decide), nI_clamp (show 30 + 7 * i + 6 < 2 ^ 31 by omega), mu_r _ _ _ (show 33 ≠ 30 by decide), e33]
  · refine fin 7 (by decide) (rm N (C 33) i) ?_ ?_
    · repeat (first | rw [if_pos (by decide)] | rw [if_neg (by decide)])
      rw [f_hasRoom c65 n5, b2_s, rm_c ag hi]
      rcases rm_01 N (C 33) i with q | q
      · rw [q, if_pos rfl]
      · rw [q, if_neg (by decide)]
    · intro D e4 e33
      unfold J_X9_boiler_30
      rw [ref0, b2_s]
      repeat (first | rw [if_pos (by decide)] | rw [if_neg (by decide)])
      have e33' : (mu D 30 0 0) 33 = C 33 := by rw [mu_r _ _ _ (show 33 ≠ 30 by decide), e33]
      rw [f_canStart (N := N) (by rw [mu_o _ _ (by decide)]; exact e4) n5 rfl hi (by rw [e33', ← ag.b1 hi]; exact (wf.2.2.2.2.2.2 i hi).2.1) (by rw [e33', ag.w (by decide)]; exact wf.2.2.2.2.1) (by rw [e33', ag.w (by decide)]; exact wf.2.2.2.2.2.1), b2_s, e33']
      rcases rm_01 N (C 33) i with q | q
      · rw [q, if_pos rfl]
      · rw [q, if_neg (by decide)]
theorem f_atFlue {N : Nat} {C : Mem} (hN : C 30 4 = nI N) (h5 : N ≤ 5) (x : Int32) : iter (fun w => S_X9_flue_45 x w.1 w.2.1 w.2.2) fuel ((0 : Int32), (0 : Int32), C) = some (cfS N x (C 33), nI N, C) := by
  have h := iter_emb (step := fun w => S_X9_flue_45 x w.1 w.2.1 w.2.2) (n := N) (t0 := 0) (fun i v => (v, nI i, C)) (fun i v => v + (if C 33 (30 + 7 * i + 1) = x then 1 else 0)) (fun _ _ => True) (fun v => (v, nI N, C)) (by omega) trivial (fun i v hi _ => ⟨by
    show S_X9_flue_45 x v (nI i) C = _
    unfold S_X9_flue_45
    rw [hN, if_neg (nI_ge hi (by omega)), at_s, nI_1, show alen 33 = 65 from rfl, gi_n (show 30 + 7 * i + 1 < 65 by omega) (by decide), nI_clamp (show 30 + 7 * i + 1 < 2 ^ 31 by omega)]
    by_cases hc : C 33 (30 + 7 * i + 1) = x
    · rw [if_pos hc, if_pos hc, nm_s, nm_s, nI_1]
    · rw [if_neg hc, if_neg hc, nm_s, nm_s, nI_1], trivial⟩) (fun v _ => by
    show S_X9_flue_45 x v (nI N) C = _
    unfold S_X9_flue_45
    rw [hN, if_pos (nI_le (Nat.le_refl N) (by omega))])
  rw [fe_sm, Int32.zero_add] at h
  exact h
theorem p_flue (hI : Inv K C) (x w : Int32) : Res K (F_L_flue x w C) (F_X9_flue x w) := by
  obtain ⟨N, Y, ⟨n1, n5, y2, y8, h4, h5⟩, ⟨c65, c66, wf, ag⟩, -, -, -⟩ := id hI
  by_cases hx : 0 ≤ x ∧ x ≤ 1
  case neg =>
    refine res_no hI (c := 1) (w := 0) (by decide) ?_ ?_
    · unfold F_L_flue F_X8_flue
      rw [rqF, b2_s, if_neg hx, el_r, b2_s, el_r, if_pos rfl]
    · unfold F_X9_flue
      rw [f_inL (b := 0) (c := 1) (by decide) (by decide), b2_s, if_neg hx, if_pos rfl]
      unfold J_X9_flue_32
      rw [ref1, b2_s, if_neg (by decide)]
  by_cases hw : 0 ≤ w ∧ w ≤ 3
  case neg =>
    refine res_no hI (c := 2) (w := 0) (by decide) ?_ ?_
    · unfold F_L_flue F_X8_flue
      rw [rqF, b2_s, if_pos hx, el_l, rq, b2_s, if_neg hw, el_r, b2_s, el_r, if_neg (by decide), if_pos rfl]
    · unfold F_X9_flue
      rw [f_inL (b := 0) (c := 1) (by decide) (by decide), b2_s, if_pos hx, if_neg (by decide), f_inL (b := 0) (c := 3) (by decide) (by decide), b2_s, if_neg hw, if_pos rfl]
      unfold J_X9_flue_32
      rw [ref2, b2_s, if_neg (by decide)]
  obtain ⟨f, -, hf, rfl⟩ := in_n (m := 0) (n := 1) rfl rfl hx
  have hfl : (if nI f = 0 then 0 else 1 : Nat) = f := by rcases (show f = 0 ∨ f = 1 by omega) with rfl | rfl <;> decide
  have hop : C 33 (20 + f) = 0 ∨ C 33 (20 + f) = 1 := by
    rw [ag.w (show 20 + f < 22 by omega)]
    rcases (show f = 0 ∨ f = 1 by omega) with rfl | rfl
    · exact wf.2.2.2.2.1
    · exact wf.2.2.2.2.2.1
  have fin : ∀ k : Nat, k ≤ 3 → ∀ v : Int32, (if nI k = 0 then some (Sum.inl (C 0 (18 + f)), C) else if nI k = 1 then (b2 (F_X5_useOf 0 (nI f) C) fun r18 C19 => some (Sum.inl r18, C19)) else if nI k = 2 then (if C 0 (20 + f) = 0 then some (Sum.inl (0 : Int32), C) else some (Sum.inl (1 : Int32), C)) else b2 (F_X5_countAtFlue 0 (nI f) C) fun r22 C23 => some (Sum.inl r22, C23)) = (some (.inl v, C) : Option (Rs × Mem)) → (∀ D : Mem, D 30 4 = nI N → D 33 = C 33 → (if nI k = 0 then gi ((18 : Int32) + nI f) (alen 33) (some (D 33 ((18 : Int32) + nI f).toNatClampNeg, D)) else if nI k = 1 then (b2 (F_X9_use 33 (nI f) D) fun r32 C33 => some (r32, C33)) else if nI k = 2 then gi ((20 : Int32) + nI f) (alen 33) (some (D 33 ((20 : Int32) + nI f).toNatClampNeg, D)) else some (cfS N (nI f) (D 33), D)) = some (v, D)) → Res K (F_L_flue (nI f) (nI k) C) (F_X9_flue (nI f) (nI k)) := fun k hk v h1 h2 => by
    have hk' : 0 ≤ nI k ∧ nI k ≤ 3 := ⟨nI_pos' (by omega), nI_le hk (by decide)⟩
    refine res_ask hI (v := v) ?_ ?_
    · unfold F_L_flue F_X8_flue
      rw [rqF, b2_s, if_pos hx, el_l, rq, b2_s, if_pos hk', el_l, f_flueOf, b2_s, hfl, gn_p (by omega), h1, b2_s, el_l, nm_s]
    · unfold F_X9_flue
      rw [f_inL (b := 0) (c := 1) (by decide) (by decide), b2_s, if_pos hx, if_neg (by decide), f_inL (b := 0) (c := 3) (by decide) (by decide), b2_s, if_pos hk', if_neg (by decide)]
      unfold J_X9_flue_32
      have e4 : (mu (mu C 40 0 v) 30 0 0) 30 4 = nI N := by rw [d30 _ _ _ (by decide)]; exact h4
      rw [ref0, b2_s, if_pos rfl, f_atFlue e4 n5, b1_s, u3_s]
      exact h2 _ e4 (d33 _ _ _)
  obtain ⟨k, -, hk, rfl⟩ := in_n (m := 0) (n := 3) rfl rfl hw
  rcases (show k = 0 ∨ k = 1 ∨ k = 2 ∨ k = 3 by omega) with rfl | rfl | rfl | rfl
  · refine fin 0 (by decide) (C 33 (18 + f)) ?_ ?_
    · rw [if_pos (by decide), ag.1 (18 + f) (by omega)]
    · intro D e4 e33
      rw [if_pos (by decide), a18, show alen 33 = 65 from rfl, gi_n (by omega) (by decide), nI_clamp (by omega), e33]
  · refine fin 1 (by decide) (usS N (nI f) (C 33)) ?_ ?_
    · rw [if_neg (by decide), if_pos (by decide), f_useOf c65 n5, b2_s, usS_c ag]
    · intro D e4 e33
      rw [if_neg (by decide), if_pos (by decide), f_use e4 n5 rfl, b2_s, e33]
  · refine fin 2 (by decide) (C 33 (20 + f)) ?_ ?_
    · rw [if_neg (by decide), if_neg (by decide), if_pos (by decide), ag.1 (20 + f) (by omega)]
      rcases hop with q | q
      · rw [q, if_pos rfl]
      · rw [q, if_neg (by decide)]
    · intro D e4 e33
      rw [if_neg (by decide), if_neg (by decide), if_pos (by decide), a20, show alen 33 = 65 from rfl, gi_n (by omega) (by decide), nI_clamp (by omega), e33]
  · refine fin 3 (by decide) (cfS N (nI f) (C 33)) ?_ ?_
    · rw [if_neg (by decide), if_neg (by decide), if_neg (by decide), f_countAtFlue c65 n5, b2_s, cfS_c ag]
    · intro D e4 e33
      rw [if_neg (by decide), if_neg (by decide), if_neg (by decide), e33]
theorem p_layer (hI : Inv K C) (x : Int32) : Res K (F_L_layer x C) (F_X9_layer x) := by
  obtain ⟨N, Y, ⟨n1, n5, y2, y8, h4, h5⟩, ⟨c65, c66, wf, ag⟩, -, -, -⟩ := id hI
  have hm : ∀ D : Mem, D 30 5 = nI Y → F_X9_in x.toInt64 0 (D 30 5 - 1).toInt64 D = some ((if 0 ≤ x ∧ x ≤ nI (Y - 1) then 1 else 0), D) := fun D e => by
    rw [e, s1 (by omega), f_inL (b := 0) (c := nI (Y - 1)) (by decide) rfl]
  have e0 : (0 : Int32).toInt = 0 := rfl
  by_cases hx : 0 ≤ x ∧ x ≤ nI (Y - 1)
  case neg =>
    refine res_no hI (c := 1) (w := 0) (by decide) ?_ ?_
    · unfold F_L_layer F_X8_layer
      rw [c66]
      by_cases h1 : x < 0
      · rw [if_pos h1, b2_s, el_r, if_pos rfl]
      · rw [if_neg h1, if_neg (fun q => hx ⟨fa_of_nlt h1, by rw [fa_le, ti _ (by omega)]; rw [fa_lt, ti _ (by omega)] at q; omega⟩), b2_s, el_r, if_pos rfl]
    · unfold F_X9_layer
      rw [hm C h5, b2_s, if_neg hx, if_pos rfl]
      unfold J_X9_layer_22
      rw [ref1, b2_s, if_neg (by decide)]
  obtain ⟨j, -, hj, rfl⟩ := in_n (m := 0) (n := Y - 1) rfl (ti _ (by omega)) hx
  refine res_ask hI (v := C 33 (22 + j)) ?_ ?_
  · unfold F_L_layer F_X8_layer
    rw [c66, if_neg (nI_pos (by omega)), if_pos (nI_lt (by omega) (by omega)), gi_n (by omega) (by decide), nI_clamp (by omega), ag.2.1 j (by omega), b2_s, el_l, nm_s]
  · unfold F_X9_layer
    rw [hm _ (by rw [mu_r _ _ _ (show 30 ≠ 40 by decide)]; exact h5), b2_s, if_pos hx, if_neg (by decide)]
    unfold J_X9_layer_22
    rw [ref0, b2_s, if_pos rfl, a22, show alen 33 = 65 from rfl, gi_n (by omega) (by decide), nI_clamp (by omega), d33]

theorem p_account (hI : Inv K C) (x : Int32) : Res K (F_L_account x C) (F_X9_account x) := by
  obtain ⟨N, Y, ⟨n1, n5, y2, y8, h4, h5⟩, ⟨c65, c66, wf, ag⟩, -, -, -⟩ := id hI
  by_cases hx : 0 ≤ x ∧ x ≤ 5
  case neg =>
    refine res_no hI (c := 1) (w := 0) (by decide) ?_ ?_
    · unfold F_L_account F_X8_account
      rw [rq, b2_s, if_neg hx, el_r, b2_s, el_r, if_pos rfl]
    · unfold F_X9_account
      rw [f_inL (b := 0) (c := 5) (by decide) (by decide), b2_s, if_neg hx, if_pos rfl]
      unfold J_X9_account_18
      rw [ref1, b2_s, if_neg (by decide)]
  have fin : ∀ k : Nat, k ≤ 5 → ∀ v : Int32, F_X8_account (nI k) C = some (.inl v, C) → (∀ D : Mem, D 30 4 = nI N → D 33 = C 33 → J_X9_account_18 (nI k) D 0 = some (v, mu D 30 0 0)) → Res K (F_L_account (nI k) C) (F_X9_account (nI k)) := fun k hk v h1 h2 => by
    refine res_ask hI (v := v) ?_ ?_
    · unfold F_L_account
      rw [h1, b2_s, el_l, nm_s]
    · unfold F_X9_account
      rw [f_inL (b := 0) (c := 5) (by decide) (by decide), b2_s, if_pos (show (0 : Int32) ≤ nI k ∧ nI k ≤ (5 : Int32) from ⟨nI_pos' (by omega), nI_le hk (by decide)⟩), if_neg (by decide)]
      exact h2 _ (by rw [mu_r _ _ _ (show 30 ≠ 40 by decide)]; exact h4) (mu_r _ _ _ (by decide))
  obtain ⟨k, -, hk, rfl⟩ := in_n (m := 0) (n := 5) rfl rfl hx
  rcases (show k = 0 ∨ k = 1 ∨ k = 2 ∨ k = 3 ∨ k = 4 ∨ k = 5 by omega) with rfl | rfl | rfl | rfl | rfl | rfl
  · refine fin 0 (by decide) (C 33 13) ?_ ?_
    · unfold F_X8_account
      rw [rq, b2_s, if_pos (show (0 : Int32) ≤ nI 0 ∧ nI 0 ≤ 5 by decide), el_l]
      repeat (first | rw [if_pos (by decide)] | rw [if_neg (by decide)])
      rw [ag.1 13 (by decide)]
    · intro D e4 e33
      unfold J_X9_account_18
      rw [ref0, b2_s]
      repeat (first | rw [if_pos (by decide)] | rw [if_neg (by decide)])
      rw [show alen 33 = 65 from rfl, show (13 : Int32) + nI 0 = nI 13 by decide, gi_n (show 13 < 65 by decide) (by decide), nI_clamp (by decide), mu_r _ _ _ (show 33 ≠ 30 by decide), e33]
  · refine fin 1 (by decide) (C 33 14) ?_ ?_
    · unfold F_X8_account
      rw [rq, b2_s, if_pos (show (0 : Int32) ≤ nI 1 ∧ nI 1 ≤ 5 by decide), el_l]
      repeat (first | rw [if_pos (by decide)] | rw [if_neg (by decide)])
      rw [ag.1 14 (by decide)]
    · intro D e4 e33
      unfold J_X9_account_18
      rw [ref0, b2_s]
      repeat (first | rw [if_pos (by decide)] | rw [if_neg (by decide)])
      rw [show alen 33 = 65 from rfl, show (13 : Int32) + nI 1 = nI 14 by decide, gi_n (show 14 < 65 by decide) (by decide), nI_clamp (by decide), mu_r _ _ _ (show 33 ≠ 30 by decide), e33]
  · refine fin 2 (by decide) (C 33 15) ?_ ?_
    · unfold F_X8_account
      rw [rq, b2_s, if_pos (show (0 : Int32) ≤ nI 2 ∧ nI 2 ≤ 5 by decide), el_l]
      repeat (first | rw [if_pos (by decide)] | rw [if_neg (by decide)])
      rw [ag.1 15 (by decide)]
    · intro D e4 e33
      unfold J_X9_account_18
      rw [ref0, b2_s]
      repeat (first | rw [if_pos (by decide)] | rw [if_neg (by decide)])
      rw [show alen 33 = 65 from rfl, show (13 : Int32) + nI 2 = nI 15 by decide, gi_n (show 15 < 65 by decide) (by decide), nI_clamp (by decide), mu_r _ _ _ (show 33 ≠ 30 by decide), e33]
  · refine fin 3 (by decide) (C 33 16) ?_ ?_
    · unfold F_X8_account
      rw [rq, b2_s, if_pos (show (0 : Int32) ≤ nI 3 ∧ nI 3 ≤ 5 by decide), el_l]
      repeat (first | rw [if_pos (by decide)] | rw [if_neg (by decide)])
      rw [ag.1 16 (by decide)]
    · intro D e4 e33
      unfold J_X9_account_18
      rw [ref0, b2_s]
      repeat (first | rw [if_pos (by decide)] | rw [if_neg (by decide)])
      rw [show alen 33 = 65 from rfl, show (13 : Int32) + nI 3 = nI 16 by decide, gi_n (show 16 < 65 by decide) (by decide), nI_clamp (by decide), mu_r _ _ _ (show 33 ≠ 30 by decide), e33]
  · refine fin 4 (by decide) (fuS N (C 33)) ?_ ?_
    · unfold F_X8_account
      rw [rq, b2_s, if_pos (show (0 : Int32) ≤ nI 4 ∧ nI 4 ≤ 5 by decide), el_l]
      repeat (first | rw [if_pos (by decide)] | rw [if_neg (by decide)])
      rw [f_fuel c65 n5, b2_s, fuS_c ag]
    · intro D e4 e33
      unfold J_X9_account_18
      rw [ref0, b2_s]
      repeat (first | rw [if_pos (by decide)] | rw [if_neg (by decide)])
      rw [f_fuelOf (by rw [mu_o _ _ (by decide)]; exact e4) n5 rfl, b2_s, mu_r _ _ _ (show 33 ≠ 30 by decide), e33]
  · refine fin 5 (by decide) (C 33 17) ?_ ?_
    · unfold F_X8_account
      rw [rq, b2_s, if_pos (show (0 : Int32) ≤ nI 5 ∧ nI 5 ≤ 5 by decide), el_l]
      repeat (first | rw [if_pos (by decide)] | rw [if_neg (by decide)])
      rw [ag.1 17 (by decide)]
    · intro D e4 e33
      unfold J_X9_account_18
      rw [ref0, b2_s]
      repeat (first | rw [if_pos (by decide)] | rw [if_neg (by decide)])
      rw [show alen 33 = 65 from rfl, gl_17, cl_17, mu_r _ _ _ (show 33 ≠ 30 by decide), e33]
/-! turns -/
theorem Sv.fl {N Y K : Nat} {y z : Pg} (wf : WF N Y K y) (ag : Agree N Y y z) : WF N Y K z := wf.ag ag.sy
theorem p_next (hI : Inv K C) (hK : K < 1000000) : ∃ v D, F_X8_next C = some (v, C) ∧ F_X9_next C = some (v, D) ∧ Inv (K + 96) D := by
  obtain ⟨N, Y, ⟨n1, n5, y2, y8, h4, h5⟩, ⟨c65, c66, wf, ag⟩, -, -, -⟩ := id hI
  have wz := wf.ag ag.sy
  refine ⟨enc (nx N (C 33)), mu C 30 0 0, ?_, ?_, (hI.qt (qt_30 C 0)).mo (by omega)⟩
  · unfold F_X8_next
    rw [f_firstToStart c65 n5, b2_s, nx_c ag]
  · unfold F_X9_next
    have e33 : (mu C 30 0 0) 33 = C 33 := mu_r _ _ _ (by decide)
    rw [nm_s, f_nextOf (N := N) (by rw [mu_o _ _ (by decide)]; exact h4) n5 rfl (by rw [e33]; exact fun i hi => (wz.2.2.2.2.2.2 i hi).2.1) (by rw [e33]; exact wz.2.2.2.2.1) (by rw [e33]; exact wz.2.2.2.2.2.1), b2_s, e33]
theorem p_whyNot (hI : Inv K C) (x : Int32) : Res K (F_L_whyNot x C) (F_X9_whyNot x) := by
  obtain ⟨N, Y, ⟨n1, n5, y2, y8, h4, h5⟩, ⟨c65, c66, wf, ag⟩, -, -, -⟩ := id hI
  by_cases hx : 0 ≤ x ∧ x ≤ nI (N - 1)
  case neg =>
    refine res_no hI (c := 1) (w := 0) (by decide) ?_ ?_
    · unfold F_L_whyNot F_X8_whyNot
      rw [rqB c65 n1 n5, b2_s, if_neg hx, el_r, b2_s, el_r, if_pos rfl]
    · unfold F_X9_whyNot
      rw [has_m h4 n1, b2_s, if_neg hx, if_pos rfl]
      unfold J_X9_whyNot_14
      rw [ref1, b2_s, if_neg (by decide)]
  obtain ⟨i, hi, rfl⟩ := in_b n1 n5 hx
  have hB := wf.2.2.2.2.2.2 i hi
  have wz := wf.ag ag.sy
  have key : ∃ v : Int32, F_X8_whyNot (nI i) C = some (.inl v, C) ∧ ∀ D : Mem, D 30 4 = nI N → D 33 = C 33 → J_X9_whyNot_14 (nI i) D 0 = some (v, mu D 30 0 0) := by
    have cls : F_X8_whyNot (nI i) C = (if C 33 (30 + 7 * i + 2) = 4 then some (Sum.inl 2, C) else if C 33 (30 + 7 * i + 2) = 0 ∨ C 33 (30 + 7 * i + 2) = 3 then (if C 0 (20 + fiS (C 0) i) = 0 then some (Sum.inl 3, C) else if rm N (C 0) i = 0 then some (Sum.inl 4, C) else some (Sum.inl 0, C)) else some (Sum.inl 1, C)) := by
      unfold F_X8_whyNot
      rw [rqB c65 n1 n5, b2_s, if_pos hx, el_l, gi_n (by omega) (by decide), nI_clamp (by omega), ag.b2 hi]
      by_cases h4 : C 33 (30 + 7 * i + 2) = 4
      · rw [if_pos h4, if_pos h4]
      · rw [if_neg h4, if_neg h4]
        by_cases hw : wt (C 0) i
        · have hw' : C 33 (30 + 7 * i + 2) = 0 ∨ C 33 (30 + 7 * i + 2) = 3 := by
            rw [← ag.b2 hi]
            exact hw
          rw [f_waits_t hw, b2_s, if_neg (by decide), if_pos hw', f_flueOf, b2_s]
          show gn (fiS (C 0) i) 2 _ = _
          rw [gn_p (fiS_lt _ _)]
          show (if C 0 (20 + fiS (C 0) i) = 0 then _ else _) = _
          by_cases ho : C 0 (20 + fiS (C 0) i) = 0
          · rw [if_pos ho, if_pos ho]
          · rw [if_neg ho, if_neg ho, f_hasRoom c65 n5, b2_s]
        · have hw' : ¬ (C 33 (30 + 7 * i + 2) = 0 ∨ C 33 (30 + 7 * i + 2) = 3) := by
            rw [← ag.b2 hi]
            exact hw
          rw [f_waits_f hw, b2_s, if_pos rfl, if_neg hw']
    have mdl : ∀ D : Mem, D 30 4 = nI N → D 33 = C 33 → J_X9_whyNot_14 (nI i) D 0 = b2 (F_X9_works (C 33 (30 + 7 * i + 2)) (mu D 30 0 0)) fun r15 C16 => (if r15 = 0 then (if C 33 (30 + 7 * i + 2) = 4 then some ((2 : Int32), C16) else (b2 (F_X9_canStart 33 (nI i) C16) fun r20 C21 => (if r20 = 0 then (b2 (F_X9_at (nI i) C21) fun r24 C25 => gi (r24 + (1 : Int32)) (alen 33) (gi ((20 : Int32) + (C25 33 ((r24 + (1 : Int32))).toNatClampNeg)) (alen 33) (if (C25 33 (((20 : Int32) + (C25 33 ((r24 + (1 : Int32))).toNatClampNeg))).toNatClampNeg) = 0 then some ((3 : Int32), C25) else some ((4 : Int32), C25)))) else some ((0 : Int32), C21)))) else some ((1 : Int32), C16)) := fun D e4 e33 => by
      unfold J_X9_whyNot_14
      rw [ref0, b2_s, if_pos rfl, at_s, a2, show alen 33 = 65 from rfl, gi_n (by omega) (by decide), nI_clamp (by omega), nm_s, mu_r _ _ _ (show 33 ≠ 30 by decide), e33]
    have hwz : wt (C 0) i ↔ wt (C 33) i := by rw [wt_c ag hi]
    have eop : C 0 (20 + fiS (C 0) i) = C 33 (20 + fiS (C 33) i) := by
      have := fiS_lt (C 33) i
      rw [fiS_c ag hi, ag.1 _ (by omega)]
    rw [cls, rm_c ag hi, eop]
    have hBz := wz.2.2.2.2.2.2 i hi
    have can : ∀ D : Mem, D 30 4 = nI N → D 33 = C 33 → F_X9_canStart 33 (nI i) (mu D 30 0 0) = some (rm N (C 33) i, mu D 30 0 0) := fun D e4 e33 => by
      have e33' : (mu D 30 0 0) 33 = C 33 := by rw [mu_r _ _ _ (show 33 ≠ 30 by decide), e33]
      rw [f_canStart (N := N) (by rw [mu_o _ _ (by decide)]; exact e4) n5 rfl hi (by rw [e33']; exact hBz.2.1) (by rw [e33']; exact wz.2.2.2.2.1) (by rw [e33']; exact wz.2.2.2.2.2.1), e33']
    have opn : ∀ D : Mem, D 33 = C 33 → (b2 (F_X9_at (nI i) (mu D 30 0 0)) fun r24 C25 => gi (r24 + (1 : Int32)) (alen 33) (gi ((20 : Int32) + (C25 33 ((r24 + (1 : Int32))).toNatClampNeg)) (alen 33) (if (C25 33 (((20 : Int32) + (C25 33 ((r24 + (1 : Int32))).toNatClampNeg))).toNatClampNeg) = 0 then some ((3 : Int32), C25) else some ((4 : Int32), C25)))) = (some ((if C 33 (20 + fiS (C 33) i) = 0 then 3 else 4), mu D 30 0 0) : Option (Int32 × Mem)) := fun D e33 => by
      rw [at_s, nI_1, show alen 33 = 65 from rfl, gi_n (by omega) (by decide), nI_clamp (by omega), mu_r _ _ _ (show 33 ≠ 30 by decide), e33]
      have k : ∀ f : Nat, f < 2 → C 33 (30 + 7 * i + 1) = nI f → fiS (C 33) i = f → gi ((20 : Int32) + C 33 (30 + 7 * i + 1)) 65 (if C 33 ((20 : Int32) + C 33 (30 + 7 * i + 1)).toNatClampNeg = 0 then some ((3 : Int32), mu D 30 0 0) else some ((4 : Int32), mu D 30 0 0)) = (some ((if C 33 (20 + fiS (C 33) i) = 0 then 3 else 4), mu D 30 0 0) : Option (Int32 × Mem)) := fun f hf e e2 => by
        rw [e, e2, a20, gi_n (by omega) (by decide), nI_clamp (by omega)]
        split <;> rfl
      rcases hBz.2.1 with q | q
      · exact k 0 (by decide) q (by unfold fiS; rw [if_pos q])
      · exact k 1 (by decide) q (by unfold fiS; rw [if_neg (by rw [q]; decide)])
    rcases hBz.2.2.1 with s | s | s | s | s
    · have hw : wt (C 0) i := hwz.mpr (Or.inl s)
      rw [s, if_neg (by decide), if_pos (by decide)]
      refine ⟨if C 33 (20 + fiS (C 33) i) = 0 then 3 else if rm N (C 33) i = 0 then 4 else 0, ?_, fun D e4 e33 => ?_⟩
      · split
        · rfl
        · split <;> rfl
      · rw [mdl D e4 e33, s]
        unfold F_X9_works
        rw [if_neg (by decide), if_neg (by decide), b2_s, if_pos rfl, if_neg (by decide), can D e4 e33, b2_s]
        by_cases hr : rm N (C 33) i = 0
        · rw [if_pos hr, opn D e33]
          split <;> rfl
        · rw [if_neg hr, if_neg hr, if_neg (fun q => hr (by unfold rm; rw [if_pos q]))]
    · have hw : ¬ wt (C 0) i := fun q => (hwz.mp q).elim (fun e => by rw [s] at e; exact absurd e (by decide)) (fun e => by rw [s] at e; exact absurd e (by decide))
      rw [s, if_neg (by decide), if_neg (by decide)]
      refine ⟨1, rfl, fun D e4 e33 => ?_⟩
      rw [mdl D e4 e33, s]
      unfold F_X9_works
      rw [if_pos rfl, b2_s, if_neg (by decide)]
    · have hw : ¬ wt (C 0) i := fun q => (hwz.mp q).elim (fun e => by rw [s] at e; exact absurd e (by decide)) (fun e => by rw [s] at e; exact absurd e (by decide))
      rw [s, if_neg (by decide), if_neg (by decide)]
      refine ⟨1, rfl, fun D e4 e33 => ?_⟩
      rw [mdl D e4 e33, s]
      unfold F_X9_works
      rw [if_neg (by decide), if_pos rfl, b2_s, if_neg (by decide)]
    · have hw : wt (C 0) i := hwz.mpr (Or.inr s)
      rw [s, if_neg (by decide), if_pos (by decide)]
      refine ⟨if C 33 (20 + fiS (C 33) i) = 0 then 3 else if rm N (C 33) i = 0 then 4 else 0, ?_, fun D e4 e33 => ?_⟩
      · split
        · rfl
        · split <;> rfl
      · rw [mdl D e4 e33, s]
        unfold F_X9_works
        rw [if_neg (by decide), if_neg (by decide), b2_s, if_pos rfl, if_neg (by decide), can D e4 e33, b2_s]
        by_cases hr : rm N (C 33) i = 0
        · rw [if_pos hr, opn D e33]
          split <;> rfl
        · rw [if_neg hr, if_neg hr, if_neg (fun q => hr (by unfold rm; rw [if_pos q]))]
    · rw [s, if_pos rfl]
      refine ⟨2, rfl, fun D e4 e33 => ?_⟩
      rw [mdl D e4 e33, s]
      unfold F_X9_works
      rw [if_neg (by decide), if_neg (by decide), b2_s, if_pos rfl, if_pos rfl]
  obtain ⟨v, h1, h2⟩ := key
  refine res_ask hI (v := v) ?_ ?_
  · unfold F_L_whyNot
    rw [h1, b2_s, el_l, nm_s]
  · unfold F_X9_whyNot
    rw [has_m (N := N) (by rw [mu_r _ _ _ (show 30 ≠ 40 by decide)]; exact h4) n1, b2_s, if_pos hx, if_neg (by decide)]
    exact h2 _ (by rw [mu_r _ _ _ (show 30 ≠ 40 by decide)]; exact h4) (mu_r _ _ _ (by decide))
end ASKS
