/-! what every object refuses, and stays as it is -/
section REFUSE
variable {C : Mem} {z : Pg} {N Y K : Nat}
theorem rf_tick0 (C : Mem) : F_L_tryTick (0 : Int32) (0 : Int32) C = some (-1002, C) := by
  unfold F_L_tryTick F_X8_tick
  rw [rqT, b2_s, if_neg (show ¬ (((1 : Int32) ≤ 0 ∧ (0 : Int32) ≤ 96) ∧ ((0 : Int32) ≤ 0 ∧ (0 : Int32) ≤ 5)) by decide), el_r, b2_s, el_r, if_pos rfl]
theorem rf_tick1 (C : Mem) : F_L_tryTick (97 : Int32) (0 : Int32) C = some (-1002, C) := by
  unfold F_L_tryTick F_X8_tick
  rw [rqT, b2_s, if_neg (show ¬ (((1 : Int32) ≤ 97 ∧ (97 : Int32) ≤ 96) ∧ ((0 : Int32) ≤ 0 ∧ (0 : Int32) ≤ 5)) by decide), el_r, b2_s, el_r, if_pos rfl]
theorem rf_tick2 (C : Mem) : F_L_tryTick (1 : Int32) (6 : Int32) C = some (-1002, C) := by
  unfold F_L_tryTick F_X8_tick
  rw [rqT, b2_s, if_neg (show ¬ (((1 : Int32) ≤ 1 ∧ (1 : Int32) ≤ 96) ∧ ((0 : Int32) ≤ 6 ∧ (6 : Int32) ≤ 5)) by decide), el_r, b2_s, el_r, if_pos rfl]
theorem rf_draw (C : Mem) : F_L_tryDraw (21 : Int32) C = some (-1002, C) := by
  unfold F_L_tryDraw F_X8_draw
  rw [rq, b2_s, if_neg (show ¬ ((1 : Int32) ≤ 21 ∧ (21 : Int32) ≤ 20) by decide), el_r, b2_s, el_r, if_pos rfl]
theorem rf_set0 (C : Mem) : F_L_trySet (0 : Int32) (39 : Int32) C = some (-1002, C) := by
  have e : F_X8_isSetting (0 : Int32) (39 : Int32) C = some (0, C) := ((set_in (39 : Int32) C 0 (by decide)).1).trans (by rw [if_neg (show ¬ (kLeast 0 ≤ (39 : Int32) ∧ (39 : Int32) ≤ kMost 0) by decide)])
  unfold F_L_trySet F_X8_set
  rw [e, b2_s, if_pos rfl, b2_s, el_r, if_pos rfl]
theorem rf_set1 (C : Mem) : F_L_trySet (1 : Int32) (10 : Int32) C = some (-1002, C) := by
  have e : F_X8_isSetting (1 : Int32) (10 : Int32) C = some (0, C) := ((set_in (10 : Int32) C 1 (by decide)).1).trans (by rw [if_neg (show ¬ (kLeast 1 ≤ (10 : Int32) ∧ (10 : Int32) ≤ kMost 1) by decide)])
  unfold F_L_trySet F_X8_set
  rw [e, b2_s, if_pos rfl, b2_s, el_r, if_pos rfl]
theorem rf_set2 (C : Mem) : F_L_trySet (2 : Int32) (6 : Int32) C = some (-1002, C) := by
  have e : F_X8_isSetting (2 : Int32) (6 : Int32) C = some (0, C) := ((set_in (6 : Int32) C 2 (by decide)).1).trans (by rw [if_neg (show ¬ (kLeast 2 ≤ (6 : Int32) ∧ (6 : Int32) ≤ kMost 2) by decide)])
  unfold F_L_trySet F_X8_set
  rw [e, b2_s, if_pos rfl, b2_s, el_r, if_pos rfl]
theorem rf_set3 (C : Mem) : F_L_trySet (3 : Int32) (59 : Int32) C = some (-1002, C) := by
  have e : F_X8_isSetting (3 : Int32) (59 : Int32) C = some (0, C) := ((set_in (59 : Int32) C 3 (by decide)).1).trans (by rw [if_neg (show ¬ (kLeast 3 ≤ (59 : Int32) ∧ (59 : Int32) ≤ kMost 3) by decide)])
  unfold F_L_trySet F_X8_set
  rw [e, b2_s, if_pos rfl, b2_s, el_r, if_pos rfl]
theorem rf_set4 (C : Mem) : F_L_trySet (4 : Int32) (0 : Int32) C = some (-1002, C) := by
  have e : F_X8_isSetting (4 : Int32) (0 : Int32) C = some (0, C) := ((set_in (0 : Int32) C 4 (by decide)).1).trans (by rw [if_neg (show ¬ (kLeast 4 ≤ (0 : Int32) ∧ (0 : Int32) ≤ kMost 4) by decide)])
  unfold F_L_trySet F_X8_set
  rw [e, b2_s, if_pos rfl, b2_s, el_r, if_pos rfl]
theorem rf_set5 (C : Mem) : F_L_trySet (5 : Int32) (24 : Int32) C = some (-1002, C) := by
  have e : F_X8_isSetting (5 : Int32) (24 : Int32) C = some (0, C) := ((set_in (24 : Int32) C 5 (by decide)).1).trans (by rw [if_neg (show ¬ (kLeast 5 ≤ (24 : Int32) ∧ (24 : Int32) ≤ kMost 5) by decide)])
  unfold F_L_trySet F_X8_set
  rw [e, b2_s, if_pos rfl, b2_s, el_r, if_pos rfl]
theorem rf_set6 (C : Mem) : F_L_trySet (6 : Int32) (1 : Int32) C = some (-1002, C) := by
  unfold F_L_trySet F_X8_set
  rw [(set_out (1 : Int32) C (x := 6) (by decide)).1, b2_s, if_pos rfl, b2_s, el_r, if_pos rfl]
theorem rf_setFlue (C : Mem) : F_L_trySetFlue (2 : Int32) (1 : Int32) C = some (-1001, C) := by
  unfold F_L_trySetFlue F_X8_setFlue
  rw [rqF, b2_s, if_neg (show ¬ ((0 : Int32) ≤ 2 ∧ (2 : Int32) ≤ 1) by decide), el_r, b2_s, el_r, if_pos rfl]
theorem rf_setDraft1 (C : Mem) : F_L_trySetDraft (-1 : Int32) (100 : Int32) C = some (-1001, C) := by
  unfold F_L_trySetDraft F_X8_setDraft
  rw [rqF, b2_s, if_neg (show ¬ ((0 : Int32) ≤ -1 ∧ (-1 : Int32) ≤ 1) by decide), el_r, b2_s, el_r, if_pos rfl]
theorem rf_setDraft2 (C : Mem) : F_L_trySetDraft (0 : Int32) (100 : Int32) C = some (-1002, C) := by
  unfold F_L_trySetDraft F_X8_setDraft
  rw [rqF, b2_s, if_pos (show (0 : Int32) ≤ 0 ∧ (0 : Int32) ≤ 1 by decide), el_l, rq, b2_s, if_neg (show ¬ ((0 : Int32) ≤ 100 ∧ (100 : Int32) ≤ 99) by decide), el_r, b2_s, el_r, if_neg (by decide), if_pos rfl]
theorem rf_small1 (C : Mem) : F_L_trySmallestSet (151 : Int32) (1 : Int32) C = some (-1002, C) := by
  unfold F_L_trySmallestSet F_X8_smallestSet
  rw [rq, b2_s, if_neg (show ¬ ((1 : Int32) ≤ 151 ∧ (151 : Int32) ≤ 150) by decide), el_r, b2_s, el_r, if_pos rfl]
theorem rf_small2 (C : Mem) : F_L_trySmallestSet (0 : Int32) (0 : Int32) C = some (-1002, C) := by
  unfold F_L_trySmallestSet F_X8_smallestSet
  rw [rq, b2_s, if_neg (show ¬ ((1 : Int32) ≤ 0 ∧ (0 : Int32) ≤ 150) by decide), el_r, b2_s, el_r, if_pos rfl]
theorem rf_ahead1 (C : Mem) : F_L_tryAhead (1 : Int32) (0 : Int32) (7 : Int32) C = some (-1002, C) := by
  unfold F_L_tryAhead F_X8_ahead
  rw [rqT, b2_s, if_pos (show ((1 : Int32) ≤ 1 ∧ (1 : Int32) ≤ 96) ∧ ((0 : Int32) ≤ 0 ∧ (0 : Int32) ≤ 5) by decide), el_l, rq, b2_s, if_neg (show ¬ ((0 : Int32) ≤ 7 ∧ (7 : Int32) ≤ 6) by decide), el_r, b2_s, el_r, if_pos rfl]
theorem rf_ahead2 (C : Mem) : F_L_tryAhead (97 : Int32) (0 : Int32) (0 : Int32) C = some (-1002, C) := by
  unfold F_L_tryAhead F_X8_ahead
  rw [rqT, b2_s, if_neg (show ¬ (((1 : Int32) ≤ 97 ∧ (97 : Int32) ≤ 96) ∧ ((0 : Int32) ≤ 0 ∧ (0 : Int32) ≤ 5)) by decide), el_r, b2_s, el_r, if_pos rfl]
theorem rf_warm1 (C : Mem) : F_L_tryWarmAfter (100 : Int32) (0 : Int32) C = some (-1002, C) := by
  unfold F_L_tryWarmAfter F_X8_warmAfter
  rw [rq, b2_s, if_neg (show ¬ ((0 : Int32) ≤ 100 ∧ (100 : Int32) ≤ 99) by decide), el_r, b2_s, el_r, if_pos rfl]
theorem rf_warm2 (C : Mem) : F_L_tryWarmAfter (0 : Int32) (6 : Int32) C = some (-1002, C) := by
  unfold F_L_tryWarmAfter F_X8_warmAfter
  rw [rq, b2_s, if_pos (show (0 : Int32) ≤ 0 ∧ (0 : Int32) ≤ 99 by decide), el_l, rq, b2_s, if_neg (show ¬ ((0 : Int32) ≤ 6 ∧ (6 : Int32) ≤ 5) by decide), el_r, b2_s, el_r, if_pos rfl]
theorem rf_bear1 (C : Mem) : F_L_tryBearable (1 : Int32) (9 : Int32) C = some (-1002, C) := by
  unfold F_L_tryBearable F_X8_bearable
  rw [rq, b2_s, if_pos (show (1 : Int32) ≤ 1 ∧ (1 : Int32) ≤ 96 by decide), el_l, rq, b2_s, if_neg (show ¬ ((10 : Int32) ≤ 9 ∧ (9 : Int32) ≤ 80) by decide), el_r, b2_s, el_r, if_pos rfl]
theorem rf_bear2 (C : Mem) : F_L_tryBearable (0 : Int32) (10 : Int32) C = some (-1002, C) := by
  unfold F_L_tryBearable F_X8_bearable
  rw [rq, b2_s, if_neg (show ¬ ((1 : Int32) ≤ 0 ∧ (0 : Int32) ≤ 96) by decide), el_r, b2_s, el_r, if_pos rfl]
theorem rf_cheap (C : Mem) : F_L_tryCheapestPurge (97 : Int32) (0 : Int32) C = some (-1002, C) := by
  unfold F_L_tryCheapestPurge F_X8_cheapestPurge
  rw [rqT, b2_s, if_neg (show ¬ (((1 : Int32) ≤ 97 ∧ (97 : Int32) ≤ 96) ∧ ((0 : Int32) ≤ 0 ∧ (0 : Int32) ≤ 5)) by decide), el_r, b2_s, el_r, if_pos rfl]
theorem rf_script1 (C : Mem) : F_L_tryScript (4 : Int32) (0 : Int64) C = some (-1002, C) := by
  unfold F_L_tryScript F_X8_runScript
  rw [rq, b2_s, if_neg (show ¬ ((1 : Int32) ≤ 4 ∧ (4 : Int32) ≤ 3) by decide), el_r, b2_s, el_r, if_pos rfl]
theorem rf_script2 (C : Mem) : F_L_tryScript (1 : Int32) (100000 : Int64) C = some (-1002, C) := by
  have e := c_place C (n := 1) (by decide) (by decide)
  have e' : iter (fun w => S_X8_runScript_12 (1 : Int32) w.1 w.2.1 w.2.2) fuel ((1 : Int64), (1 : Int32), C) = some (lN 1, nI 1, C) := e
  unfold F_L_tryScript F_X8_runScript
  rw [rq, b2_s, if_pos (show (1 : Int32) ≤ 1 ∧ (1 : Int32) ≤ 3 by decide), el_l, nm_s, e', b1_s, u3_s, if_neg (show ¬ lg_cmp (100000 : Int64) (0 : Int64) < 0 from fun q => absurd ((lg_cmp_lt _ _).mp q) (by decide)), if_neg (show ¬ lg_cmp (100000 : Int64) (lN 1 * (100000 : Int64)) < 0 from fun q => absurd ((lg_cmp_lt _ _).mp q) (by decide)), b2_s, el_r, if_pos rfl]
theorem rf_sim (C : Mem) : F_L_trySimulate (1 : Int64) (97 : Int32) C = some (-1002, C) := by
  unfold F_L_trySimulate F_X8_simulate
  rw [rq, b2_s, if_neg (show ¬ ((1 : Int32) ≤ 97 ∧ (97 : Int32) ≤ 96) by decide), el_r, b2_s, el_r, if_pos rfl]
theorem rf_save (C : Mem) : F_L_trySave (2 : Int32) C = some (-1001, C) := by
  unfold F_L_trySave F_X8_save
  rw [rqS, b2_s, if_neg (show ¬ ((0 : Int32) ≤ 2 ∧ (2 : Int32) ≤ 1) by decide), el_r, b2_s, el_r, if_pos rfl]
theorem rf_restore (C : Mem) : F_L_tryRestore (-1 : Int32) C = some (-1001, C) := by
  unfold F_L_tryRestore F_X8_restore
  rw [rqS, b2_s, if_neg (show ¬ ((0 : Int32) ≤ -1 ∧ (-1 : Int32) ≤ 1) by decide), el_r, b2_s, el_r, if_pos rfl]
theorem rf_append (C : Mem) : F_L_tryAppend (256 : Int32) C = some (-1002, C) := by
  unfold F_L_tryAppend F_X8_append
  rw [rq, b2_s, if_neg (show ¬ ((0 : Int32) ≤ 256 ∧ (256 : Int32) ≤ 255) by decide), el_r, b2_s, el_r, if_pos rfl]
theorem rf_lock (h : Ob N Y K z C) : F_L_tryLock (nI N) C = some (-1001, C) := by
  obtain ⟨⟨⟨n1, n5⟩, y2, y8⟩, ⟨c65, c66, wf, ag⟩, sd⟩ := h
  unfold F_L_tryLock F_X8_lock
  rw [rqB c65 n1 n5, b2_s, if_neg (show ¬ ((0 : Int32) ≤ nI N ∧ nI N ≤ nI (N - 1)) from fun q => nI_ge (show N - 1 < N by omega) (by omega) q.2), el_r, b2_s, el_r, if_pos rfl]
theorem rf_lockS (h : Ob N Y K z C) {i : Nat} (hi : i < N) (q : z (30 + 7 * i + 2) = 4) : F_L_tryLock (nI i) C = some (-1003, C) := by
  obtain ⟨⟨⟨n1, n5⟩, y2, y8⟩, ⟨c65, c66, wf, ag⟩, sd⟩ := h
  unfold F_L_tryLock F_X8_lock
  rw [rqB c65 n1 n5, b2_s, if_pos (show 0 ≤ nI i ∧ nI i ≤ nI (N - 1) from ⟨nI_pos' (by omega), nI_le (by omega) (by omega)⟩), el_l, gi_n (by omega) (by decide), nI_clamp (by omega), nm_s, ag.b2 hi, if_pos q, b2_s, el_r, if_neg (by decide), if_pos rfl]
theorem rf_unlock (h : Ob N Y K z C) : F_L_tryUnlock (nI N) C = some (-1001, C) := by
  obtain ⟨⟨⟨n1, n5⟩, y2, y8⟩, ⟨c65, c66, wf, ag⟩, sd⟩ := h
  unfold F_L_tryUnlock F_X8_unlock
  rw [rqB c65 n1 n5, b2_s, if_neg (show ¬ ((0 : Int32) ≤ nI N ∧ nI N ≤ nI (N - 1)) from fun q => nI_ge (show N - 1 < N by omega) (by omega) q.2), el_r, b2_s, el_r, if_pos rfl]
theorem rf_unlockS (h : Ob N Y K z C) {i : Nat} (hi : i < N) (q : ¬ z (30 + 7 * i + 2) = 4) : F_L_tryUnlock (nI i) C = some (-1003, C) := by
  obtain ⟨⟨⟨n1, n5⟩, y2, y8⟩, ⟨c65, c66, wf, ag⟩, sd⟩ := h
  unfold F_L_tryUnlock F_X8_unlock
  rw [rqB c65 n1 n5, b2_s, if_pos (show 0 ≤ nI i ∧ nI i ≤ nI (N - 1) from ⟨nI_pos' (by omega), nI_le (by omega) (by omega)⟩), el_l, gi_n (by omega) (by decide), nI_clamp (by omega), ag.b2 hi, if_neg q, b2_s, el_r, if_neg (by decide), if_pos rfl]
theorem rf_putOff (h : Ob N Y K z C) : F_L_tryPutOff (nI N) C = some (-1001, C) := by
  obtain ⟨⟨⟨n1, n5⟩, y2, y8⟩, ⟨c65, c66, wf, ag⟩, sd⟩ := h
  unfold F_L_tryPutOff F_X8_putOff
  rw [rqB c65 n1 n5, b2_s, if_neg (show ¬ ((0 : Int32) ≤ nI N ∧ nI N ≤ nI (N - 1)) from fun q => nI_ge (show N - 1 < N by omega) (by omega) q.2), el_r, b2_s, el_r, if_pos rfl]
theorem rf_putOffS (h : Ob N Y K z C) {i : Nat} (hi : i < N) (q : ¬ z (30 + 7 * i + 2) = 3) : F_L_tryPutOff (nI i) C = some (-1003, C) := by
  obtain ⟨⟨⟨n1, n5⟩, y2, y8⟩, ⟨c65, c66, wf, ag⟩, sd⟩ := h
  unfold F_L_tryPutOff F_X8_putOff
  rw [rqB c65 n1 n5, b2_s, if_pos (show 0 ≤ nI i ∧ nI i ≤ nI (N - 1) from ⟨nI_pos' (by omega), nI_le (by omega) (by omega)⟩), el_l, gi_n (by omega) (by decide), nI_clamp (by omega), ag.b2 hi, if_neg q, b2_s, el_r, if_neg (by decide), if_pos rfl]
theorem refuses_ok (h : Ob N Y K z C) : F_L_refuses C = some (1, C) := by
  have hN := h.1.1.1
  have b0 : F_L_tryBoiler (0 : Int32) (2 : Int32) C = some (z 32, C) := tb_2 h (i := 0) hN
  have k1 : ∀ q : z 32 = 4, F_L_tryLock (0 : Int32) C = some (-1003, C) := fun q => rf_lockS h (i := 0) hN q
  have k2 : ∀ q : ¬ z 32 = 4, F_L_tryUnlock (0 : Int32) C = some (-1003, C) := fun q => rf_unlockS h (i := 0) hN q
  have k3 : ∀ q : ¬ z 32 = 3, F_L_tryPutOff (0 : Int32) C = some (-1003, C) := fun q => rf_putOffS h (i := 0) hN q
  have e1 : J_L_refuses_368 (nI N) 1 C = some (1, C) := by
    unfold J_L_refuses_368
    rw [if_neg (by decide), tw_no h, b2_s, if_pos rfl, rf_small1, b2_s, if_pos rfl, rf_small2, b2_s, if_pos rfl, rf_ahead1, b2_s, if_pos rfl, rf_ahead2, b2_s, if_pos rfl, rf_warm1, b2_s, if_pos rfl, rf_warm2, b2_s, if_pos rfl, rf_bear1, b2_s, if_pos rfl, rf_bear2, b2_s, if_pos rfl, rf_cheap, b2_s, if_pos rfl, rf_script1, b2_s, if_pos rfl, rf_script2, b2_s, if_pos rfl, rf_sim, b2_s, if_pos rfl, rf_save, b2_s, if_pos rfl, rf_restore, b2_s, if_pos rfl, rf_append, b2_s, if_pos rfl]
  have e2 : J_L_refuses_336 (nI N) (z 32) C = some (1, C) := by
    unfold J_L_refuses_336
    rw [rf_putOff h, b2_s, if_pos rfl]
    by_cases q : z 32 = 3
    · rw [if_pos q, e1]
    · rw [if_neg q, k3 q, b2_s, if_pos rfl, e1]
  have e3 : J_L_refuses_309 (nI N) (z 32) C = some (1, C) := by
    unfold J_L_refuses_309
    rw [rf_unlock h, b2_s, if_pos rfl]
    by_cases q : z 32 = 4
    · rw [if_pos q, e2]
    · rw [if_neg q, k2 q, b2_s, if_pos rfl, e2]
  unfold F_L_refuses
  rw [ta_6 h, b2_s, b0, b2_s, ta_no, b2_s, if_pos rfl, tb_no1 h, b2_s, if_pos rfl, tb_no2 h, b2_s, if_pos rfl, tf_no1, b2_s, if_pos rfl, tf_no2, b2_s, if_pos rfl, ta_7 h, b2_s, tl_no h, b2_s, if_pos rfl, tc_no, b2_s, if_pos rfl, rf_tick0, b2_s, if_pos rfl, rf_tick1, b2_s, if_pos rfl, rf_tick2, b2_s, if_pos rfl, rf_draw, b2_s, if_pos rfl, rf_set0, b2_s, if_pos rfl, rf_set1, b2_s, if_pos rfl, rf_set2, b2_s, if_pos rfl, rf_set3, b2_s, if_pos rfl, rf_set4, b2_s, if_pos rfl, rf_set5, b2_s, if_pos rfl, rf_set6, b2_s, if_pos rfl, rf_setFlue, b2_s, if_pos rfl, rf_setDraft1, b2_s, if_pos rfl, rf_setDraft2, b2_s, if_pos rfl, rf_lock h, b2_s, if_pos rfl]
  by_cases q : z 32 = 4
  · rw [if_pos q, k1 q, b2_s, if_pos rfl, e3]
  · rw [if_neg q, e3]
end REFUSE
