/-! ticks: one tick by the law -/
section TSTEP
variable {C D : Mem} {N Y K : Nat} {y z : Pg} {F : Nat → Int32} {i : Nat}
theorem sm_z (n : Nat) : sm (fun _ => 0) n = 0 := by
  induction n with
  | zero => rfl
  | succ n ih => show sm (fun _ => 0) n + 0 = 0; rw [ih]; rfl
theorem sm_one {g : Nat → Int32} {n b : Nat} {v : Int32} (hb : b < n) (h : g b = v) (o : ∀ i, i < n → i ≠ b → g i = 0) : sm g n = v := by
  have e : sm g n = sm (fun j => if j = b then v else (fun _ => (0 : Int32)) j) n := sm_cong fun j hj => by
    by_cases q : j = b
    · rw [if_pos q, q]; exact h
    · rw [if_neg q]; exact o j hj q
  rw [e, sm_up _ _ _ _ hb, sm_z]
  grind
theorem sm_sub (g k : Nat → Int32) : ∀ n : Nat, sm (fun i => g i - k i) n = sm g n - sm k n
  | 0 => by show (0 : Int32) = 0 - 0; rfl
  | n + 1 => by
    show sm (fun i => g i - k i) n + (g n - k n) = (sm g n + g n) - (sm k n + k n)
    rw [sm_sub g k n]
    grind
def rw4 (y : Pg) (i : Nat) (f : Nat → Int32) : Nat → Int32 := up (up (up (up f (4 * i) (y (30 + 7 * i + 2))) (4 * i + 1) (y (30 + 7 * i + 5))) (4 * i + 2) (y (30 + 7 * i + 4))) (4 * i + 3) (y (30 + 7 * i + 6))
theorem rw4_ok {f : Nat → Int32} (h : tRow i y f) : tRow (i + 1) y (rw4 y i f) := fun j hj => by
  unfold rw4
  by_cases e : j = i
  · subst e
    refine ⟨?_, ?_, ?_, ?_⟩
    · rw [up_ne _ _ (by omega), up_ne _ _ (by omega), up_ne _ _ (by omega), up_same]
    · rw [up_ne _ _ (by omega), up_ne _ _ (by omega), up_same]
    · rw [up_ne _ _ (by omega), up_same]
    · rw [up_same]
  · have o := h j (by omega)
    refine ⟨?_, ?_, ?_, ?_⟩
    · rw [up_ne _ _ (by omega), up_ne _ _ (by omega), up_ne _ _ (by omega), up_ne _ _ (by omega)]; exact o.1
    · rw [up_ne _ _ (by omega), up_ne _ _ (by omega), up_ne _ _ (by omega), up_ne _ _ (by omega)]; exact o.2.1
    · rw [up_ne _ _ (by omega), up_ne _ _ (by omega), up_ne _ _ (by omega), up_ne _ _ (by omega)]; exact o.2.2.1
    · rw [up_ne _ _ (by omega), up_ne _ _ (by omega), up_ne _ _ (by omega), up_ne _ _ (by omega)]; exact o.2.2.2
theorem tRow_ex (N : Nat) (y : Pg) : tRow N y (fe (rw4 y) N (fun _ => 0)) := fe_inv (f := rw4 y) (I := fun i f => tRow i y f) (t := fun _ => 0) (n := N) (fun j hj => absurd hj (Nat.not_lt_zero _)) fun i f _ hf => rw4_ok hf
theorem row_ok (h : Ob N Y K z C) : ∃ F, iter (fun x => S_L_ticks_206 (nI N) x.1 x.2.1 x.2.2) 6 ((0 : Int32), C, (fun _ => 0)) = some (nI N, C, F) ∧ tRow N z F := by
  have n5 := h.1.1.2
  refine ⟨fe (rw4 z) N (fun _ => 0), iter_embF (fun i f => (nI i, C, f)) (rw4 z) (fun _ _ => True) (fun f => (nI N, C, f)) (by omega) trivial (fun i f hi _ => ⟨?_, trivial⟩) (fun f _ => ?_), tRow_ex N z⟩
  · show S_L_ticks_206 (nI N) (nI i) C f = _
    unfold S_L_ticks_206
    rw [if_neg (nI_ge hi (by omega)), tb_2 h hi, b2_s, x4, gi_n (show 4 * i < 20 by omega) (by decide), nI_clamp (by omega), nm_s, tb_5 h hi, b2_s, x41, gi_n (show 4 * i + 1 < 20 by omega) (by decide), nI_clamp (by omega), nm_s, tb_4 h hi, b2_s, x42, gi_n (show 4 * i + 2 < 20 by omega) (by decide), nI_clamp (by omega), nm_s, tb_6 h hi, b2_s, x43, gi_n (show 4 * i + 3 < 20 by omega) (by decide), nI_clamp (by omega), nm_s, nm_s, nI_1]
    rfl
  · show S_L_ticks_206 (nI N) (nI N) C f = _
    unfold S_L_ticks_206
    rw [if_pos (nI_le (Nat.le_refl _) (by omega))]
theorem bl_ok (h1 : 1 ≤ Y) (h8 : Y ≤ 8) (d : Nat) (w : WF N Y K y) {L : Nat} (h : Ob N Y L (tk N Y d y) C) (r : tRow N y F) (v29 : Int32) : iter (fun x => S_L_ticks_318 (nI N) F x.1 x.2.1 x.2.2.1 x.2.2.2.1 x.2.2.2.2.1 x.2.2.2.2.2.1 x.2.2.2.2.2.2) 6 (v29, (1 : Int32), (0 : Int32), (0 : Int32), (0 : Int32), (0 : Int32), C) = some (v29 - sm (tBg y (tk N Y d y)) N, 1, sm (tBg y (tk N Y d y)) N, sm (tRs y (tk N Y d y)) N, sm (tPi y (tk N Y d y)) N, nI N, C) := by
  have n5 := h.1.1.2
  have e0 : v29 = v29 - sm (tBg y (tk N Y d y)) 0 := by show v29 = v29 - 0; grind
  rw [show (v29, (1 : Int32), (0 : Int32), (0 : Int32), (0 : Int32), (0 : Int32), C) = (v29 - sm (tBg y (tk N Y d y)) 0, (1 : Int32), sm (tBg y (tk N Y d y)) 0, sm (tRs y (tk N Y d y)) 0, sm (tPi y (tk N Y d y)) 0, nI 0, C) from by rw [← e0]; rfl]
  refine (iter_n (fun i => (v29 - sm (tBg y (tk N Y d y)) i, (1 : Int32), sm (tBg y (tk N Y d y)) i, sm (tRs y (tk N Y d y)) i, sm (tPi y (tk N Y d y)) i, nI i, C)) (n := N) (F := 6) _ (by omega) (fun i hi => ?_) ?_)
  · show S_L_ticks_318 (nI N) F (v29 - sm (tBg y (tk N Y d y)) i) 1 (sm (tBg y (tk N Y d y)) i) (sm (tRs y (tk N Y d y)) i) (sm (tPi y (tk N Y d y)) i) (nI i) C = _
    obtain ⟨f0, f1, f2, f3⟩ := r i hi
    have q := tk_tq h1 h8 d w hi (r i hi)
    rw [ti_318 h hi (by omega) (bg := tBg y (tk N Y d y) i) (w := tFi y (tk N Y d y) i) (by rw [f1]; rfl) (by rw [f2]; rfl) q.1, f0]
    have e1 : v29 - sm (tBg y (tk N Y d y)) i - tBg y (tk N Y d y) i = v29 - sm (tBg y (tk N Y d y)) (i + 1) := by
      show _ = v29 - (sm (tBg y (tk N Y d y)) i + tBg y (tk N Y d y) i)
      grind
    rw [e1]
    rfl
  · show S_L_ticks_318 (nI N) F _ 1 _ _ _ (nI N) C = _
    unfold S_L_ticks_318
    rw [if_pos (nI_le (Nat.le_refl _) (by omega))]
/-- the layers lie in order -/
theorem or_ok (h : Ob N Y K z C) (o : ∀ j, j + 1 < Y → (z (22 + j)).toInt ≤ (z (22 + (j + 1))).toInt) : iter (fun x => S_L_ticks_905 x.1 x.2.1 x.2.2) 8 ((1 : Int32), (1 : Int32), C) = some (1, nI Y, C) := by
  have hy := h.1.2
  refine (iter_n (fun i => ((1 : Int32), nI (i + 1), C)) (n := Y - 1) (F := 8) (1, nI Y, C) (by omega) (fun i hi => ?_) ?_)
  · show S_L_ticks_905 1 (nI (i + 1)) C = _
    unfold S_L_ticks_905
    rw [ta_7 h, b2_s, if_neg (nI_ge (show i + 1 < Y by omega) (by omega)), if_neg (by decide), s1 (by omega), Nat.add_sub_cancel, tl h (show i < Y by omega), b2_s, tl h (show i + 1 < Y by omega), b2_s, if_neg, nm_s, nI_1]
    rw [fa_lt]
    have := o i (by omega)
    omega
  · show S_L_ticks_905 1 (nI (Y - 1 + 1)) C = _
    unfold S_L_ticks_905
    rw [ta_7 h, b2_s, if_pos (nI_le (by omega) (by omega)), Nat.sub_add_cancel (by omega)]
/-- how many began, how many rested, and the reason -/
theorem cnt_ok (h1 : 1 ≤ Y) (h8 : Y ≤ 8) (d : Nat) (w : WF N Y K y) : ((sm (tBg y (tk N Y d y)) N = 0 ∧ sm (tRs y (tk N Y d y)) N = 0) ∨ ((sm (tBg y (tk N Y d y)) N = 1 ∧ sm (tRs y (tk N Y d y)) N = 0 ∨ sm (tBg y (tk N Y d y)) N = 0 ∧ sm (tRs y (tk N Y d y)) N = 1) ∧ tk N Y d y 7 = 0)) ∧ sm (tPi y (tk N Y d y)) N = sm (fun i => wkV (wD N Y d y) i) N ∧ stS N (tk N Y d y) - stS N y = sm (tBg y (tk N Y d y)) N := by
  have q := fun i (hi : i < N) => tk_tq (F := fe (rw4 y) N (fun _ => 0)) h1 h8 d w hi (tRow_ex N y i hi)
  have e5 : ∀ i, i < N → tk N Y d y (30 + 7 * i + 5) = y (30 + 7 * i + 5) + tBg y (tk N Y d y) i := fun i hi => by
    have v5 := (tk_b (y := y) h1 h8 d hi (f := 5) (by decide)).trans (wk_o (by decide) (by decide) (by decide) (by decide) (by decide))
    rcases bo_i (N := N) (Y := Y) (y := y) h8 d i with b | b | b
    · rw [((q i hi).2.2.1 b).1, v5, b.2.2.1]
    · rw [((q i hi).2.2.2.1 b).1, v5, b.2.2.1, Int32.add_zero]
    · rw [((q i hi).2.2.2.2 b).1, v5, b.2.1, Int32.add_zero]
  refine ⟨?_, sm_cong fun i hi => (q i hi).2.1, ?_⟩
  · rcases bo_c (N := N) (y := y) h8 d with ⟨b, hb, s, o, r⟩ | ⟨b, hb, s, o, r⟩ | o
    · exact Or.inr ⟨Or.inl ⟨sm_one hb ((q b hb).2.2.1 s).1 fun i hi n => ((q i hi).2.2.2.2 (o i n)).1, sm_one hb ((q b hb).2.2.1 s).2 fun i hi n => ((q i hi).2.2.2.2 (o i n)).2⟩, (tk_7 h1 d).trans r⟩
    · exact Or.inr ⟨Or.inr ⟨sm_one hb ((q b hb).2.2.2.1 s).1 fun i hi n => ((q i hi).2.2.2.2 (o i n)).1, sm_one hb ((q b hb).2.2.2.1 s).2 fun i hi n => ((q i hi).2.2.2.2 (o i n)).2⟩, (tk_7 h1 d).trans r⟩
    · exact Or.inl ⟨(sm_cong fun i hi => ((q i hi).2.2.2.2 (o i)).1).trans (sm_z N), (sm_cong fun i hi => ((q i hi).2.2.2.2 (o i)).2).trans (sm_z N)⟩
  · unfold stS
    rw [← sm_sub]
    exact sm_cong fun i hi => by
      show tk N Y d y (30 + 7 * i + 5) - y (30 + 7 * i + 5) = _
      rw [e5 i hi, sb1]
end TSTEP
