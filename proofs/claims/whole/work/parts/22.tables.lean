/-! what the tables and the premises give at the law's start -/
theorem lw_good {args : Array Value} {s : State} (h : ∀ w ∈ lw_tbl, w.before args s = true) : ∀ w ∈ lw_g, w.before args s = true := fun w hw => h w (List.mem_filter.mp hw).1
theorem lw_i {args : Array Value} {s : State} (h : ∀ w ∈ lw_tbl, w.before args s = true) {w : Cond} (i : Nat) (hi : lw_tbl[i]? = some w) : w.before args s = true := h w (List.mem_of_getElem? hi)
theorem arr_of {args : Array Value} {s : State} {ty : FieldType} (h : (Cond.arrayClass ty).before args s = true) (ho : ∀ C, ty ≠ .object C) : ∃ cA, ArrOfT s cA ty ∧ va_RA s cA ty := by
  obtain ⟨c, k, comp, h1, h2, h3⟩ := Cond.arrayClass_spec h
  refine ⟨c, fun n z => ⟨fun k h => (by cases h), k, h2, comp, h3⟩, ?_⟩
  cases ty with
  | object C => exact absurd rfl (ho C)
  | _ => exact h1
theorem arr_ofQ {args : Array Value} {s : State} {C : String} (h : (Cond.arrayOver (.object C)).before args s = true) : ∃ cA, ArrOfT s cA (.object C) ∧ va_RA s cA (.object C) := by
  obtain ⟨comp, c, k, h1, -, h3, h4, h5⟩ := Cond.arrayOver_spec h
  exact ⟨c, fun N z => ⟨fun k h => (by cases h), k, h3, comp, h4⟩, k, comp, h3, h4, h1, h5⟩
set_option maxHeartbeats 4000000 in
set_option maxRecDepth 100000 in
theorem st_LEAST_SETTING {args : Array Value} {s : State} (hts : ∀ w ∈ lw_tbl, w.before args s = true) (hg : (Jvm.Cond.and given_1 narrow_1).before args s = true) : ∃ t : Nat, va_Z RX8 "LEAST_SETTING" "[I" (.ref t) (fun q => s.heap.size ≤ q) s s.heap ∧ va_T .int t 6 (fun j => .int (kLeast j)) (fun q => s.heap.size ≤ q) s s.heap := by
  have hs := flat_of_before _ hg
  have hA : ∀ a : Nat, a < s.heap.size → ¬ s.heap.size ≤ a := fun a h => Nat.not_le.mpr h
  obtain ⟨t, ht, hT⟩ := va_Tof (A := fun q => s.heap.size ≤ q) (tm := (.static "BoilerCascade" "LEAST_SETTING" "[I")) (ty := .int) (N := 6) (f := fun j => .int (kLeast j)) (by decide) (hs (.arrayOf (.static "BoilerCascade" "LEAST_SETTING" "[I") .int) (by decide +kernel)) (va_eqt (z := 6) (hs (.eq (.length (.static "BoilerCascade" "LEAST_SETTING" "[I")) (.int 6)) (by decide +kernel))) (fun j hj => by
    rcases (show j = 0 ∨ j = 1 ∨ j = 2 ∨ j = 3 ∨ j = 4 ∨ j = 5 by omega) with rfl | rfl | rfl | rfl | rfl | rfl
    · exact va_eqt (z := 40) (hs (.eq (.elem (.static "BoilerCascade" "LEAST_SETTING" "[I") (.int 0)) (.int 40)) (by decide +kernel))
    · exact va_eqt (z := 1) (hs (.eq (.elem (.static "BoilerCascade" "LEAST_SETTING" "[I") (.int 1)) (.int 1)) (by decide +kernel))
    · exact va_eqt (z := 1) (hs (.eq (.elem (.static "BoilerCascade" "LEAST_SETTING" "[I") (.int 2)) (.int 1)) (by decide +kernel))
    · exact va_eqt (z := 60) (hs (.eq (.elem (.static "BoilerCascade" "LEAST_SETTING" "[I") (.int 3)) (.int 60)) (by decide +kernel))
    · exact va_eqt (z := 1) (hs (.eq (.elem (.static "BoilerCascade" "LEAST_SETTING" "[I") (.int 4)) (.int 1)) (by decide +kernel))
    · exact va_eqt (z := 0) (hs (.eq (.elem (.static "BoilerCascade" "LEAST_SETTING" "[I") (.int 5)) (.int 0)) (by decide +kernel))) hA
  exact ⟨t, va_Zof (lw_i hts 746 (by decide +kernel)) (lw_i hts 44 (by decide +kernel)) ht hA, hT⟩
set_option maxHeartbeats 4000000 in
set_option maxRecDepth 100000 in
theorem st_MOST_SETTING {args : Array Value} {s : State} (hts : ∀ w ∈ lw_tbl, w.before args s = true) (hg : (Jvm.Cond.and given_1 narrow_1).before args s = true) : ∃ t : Nat, va_Z RX8 "MOST_SETTING" "[I" (.ref t) (fun q => s.heap.size ≤ q) s s.heap ∧ va_T .int t 6 (fun j => .int (kMost j)) (fun q => s.heap.size ≤ q) s s.heap := by
  have hs := flat_of_before _ hg
  have hA : ∀ a : Nat, a < s.heap.size → ¬ s.heap.size ≤ a := fun a h => Nat.not_le.mpr h
  obtain ⟨t, ht, hT⟩ := va_Tof (A := fun q => s.heap.size ≤ q) (tm := (.static "BoilerCascade" "MOST_SETTING" "[I")) (ty := .int) (N := 6) (f := fun j => .int (kMost j)) (by decide) (hs (.arrayOf (.static "BoilerCascade" "MOST_SETTING" "[I") .int) (by decide +kernel)) (va_eqt (z := 6) (hs (.eq (.length (.static "BoilerCascade" "MOST_SETTING" "[I")) (.int 6)) (by decide +kernel))) (fun j hj => by
    rcases (show j = 0 ∨ j = 1 ∨ j = 2 ∨ j = 3 ∨ j = 4 ∨ j = 5 by omega) with rfl | rfl | rfl | rfl | rfl | rfl
    · exact va_eqt (z := 80) (hs (.eq (.elem (.static "BoilerCascade" "MOST_SETTING" "[I") (.int 0)) (.int 80)) (by decide +kernel))
    · exact va_eqt (z := 9) (hs (.eq (.elem (.static "BoilerCascade" "MOST_SETTING" "[I") (.int 1)) (.int 9)) (by decide +kernel))
    · exact va_eqt (z := 5) (hs (.eq (.elem (.static "BoilerCascade" "MOST_SETTING" "[I") (.int 2)) (.int 5)) (by decide +kernel))
    · exact va_eqt (z := 90) (hs (.eq (.elem (.static "BoilerCascade" "MOST_SETTING" "[I") (.int 3)) (.int 90)) (by decide +kernel))
    · exact va_eqt (z := 9) (hs (.eq (.elem (.static "BoilerCascade" "MOST_SETTING" "[I") (.int 4)) (.int 9)) (by decide +kernel))
    · exact va_eqt (z := 23) (hs (.eq (.elem (.static "BoilerCascade" "MOST_SETTING" "[I") (.int 5)) (.int 23)) (by decide +kernel))) hA
  exact ⟨t, va_Zof (lw_i hts 748 (by decide +kernel)) (lw_i hts 44 (by decide +kernel)) ht hA, hT⟩
set_option maxHeartbeats 4000000 in
set_option maxRecDepth 100000 in
theorem st_FIRST_SETTING {args : Array Value} {s : State} (hts : ∀ w ∈ lw_tbl, w.before args s = true) (hg : (Jvm.Cond.and given_1 narrow_1).before args s = true) : ∃ t : Nat, va_Z RX8 "FIRST_SETTING" "[I" (.ref t) (fun q => s.heap.size ≤ q) s s.heap ∧ va_T .int t 6 (fun j => .int (kFirst j)) (fun q => s.heap.size ≤ q) s s.heap := by
  have hs := flat_of_before _ hg
  have hA : ∀ a : Nat, a < s.heap.size → ¬ s.heap.size ≤ a := fun a h => Nat.not_le.mpr h
  obtain ⟨t, ht, hT⟩ := va_Tof (A := fun q => s.heap.size ≤ q) (tm := (.static "BoilerCascade" "FIRST_SETTING" "[I")) (ty := .int) (N := 6) (f := fun j => .int (kFirst j)) (by decide) (hs (.arrayOf (.static "BoilerCascade" "FIRST_SETTING" "[I") .int) (by decide +kernel)) (va_eqt (z := 6) (hs (.eq (.length (.static "BoilerCascade" "FIRST_SETTING" "[I")) (.int 6)) (by decide +kernel))) (fun j hj => by
    rcases (show j = 0 ∨ j = 1 ∨ j = 2 ∨ j = 3 ∨ j = 4 ∨ j = 5 by omega) with rfl | rfl | rfl | rfl | rfl | rfl
    · exact va_eqt (z := 60) (hs (.eq (.elem (.static "BoilerCascade" "FIRST_SETTING" "[I") (.int 0)) (.int 60)) (by decide +kernel))
    · exact va_eqt (z := 3) (hs (.eq (.elem (.static "BoilerCascade" "FIRST_SETTING" "[I") (.int 1)) (.int 3)) (by decide +kernel))
    · exact va_eqt (z := 2) (hs (.eq (.elem (.static "BoilerCascade" "FIRST_SETTING" "[I") (.int 2)) (.int 2)) (by decide +kernel))
    · exact va_eqt (z := 70) (hs (.eq (.elem (.static "BoilerCascade" "FIRST_SETTING" "[I") (.int 3)) (.int 70)) (by decide +kernel))
    · exact va_eqt (z := 2) (hs (.eq (.elem (.static "BoilerCascade" "FIRST_SETTING" "[I") (.int 4)) (.int 2)) (by decide +kernel))
    · exact va_eqt (z := 2) (hs (.eq (.elem (.static "BoilerCascade" "FIRST_SETTING" "[I") (.int 5)) (.int 2)) (by decide +kernel))) hA
  exact ⟨t, va_Zof (lw_i hts 338 (by decide +kernel)) (lw_i hts 44 (by decide +kernel)) ht hA, hT⟩
set_option maxHeartbeats 4000000 in
set_option maxRecDepth 100000 in
theorem st_strs {args : Array Value} {s : State} (hts : ∀ w ∈ lw_tbl, w.before args s = true) (hg : (Jvm.Cond.and given_1 narrow_1).before args s = true) : ∀ q ∈ strs, ∃ a, vk_R RX8 q.1 q.2 a s := by
  have hs := flat_of_before _ hg
  have one : ∀ (i : Nat) (t : String), (Cond.stringRef RX8 i t).before args s = true → (Cond.exactly (.string "BoilerCascade" i) "java/lang/String").before args s = true → ∃ a, vk_R RX8 i t a s := fun i t h1 h2 => by
    obtain ⟨a, c, cell, k, e, -⟩ := Cond.exactly_spec h2
    exact ⟨a, vk_R.of h1 e⟩
  unfold strs
  exact List.forall_mem_cons.mpr ⟨one 315 "an argument is out of its range" (lw_i hts 488 (by decide +kernel)) (hs (.exactly (.string "BoilerCascade" 315) "java/lang/String") (by decide +kernel)), List.forall_mem_cons.mpr ⟨one 57 "the text is full" (lw_i hts 528 (by decide +kernel)) (hs (.exactly (.string "BoilerCascade" 57) "java/lang/String") (by decide +kernel)), List.forall_mem_cons.mpr ⟨one 70 "the text tells no cascade" (lw_i hts 542 (by decide +kernel)) (hs (.exactly (.string "BoilerCascade" 70) "java/lang/String") (by decide +kernel)), List.forall_mem_cons.mpr ⟨one 324 "there is no such boiler" (lw_i hts 587 (by decide +kernel)) (hs (.exactly (.string "BoilerCascade" 324) "java/lang/String") (by decide +kernel)), List.forall_mem_cons.mpr ⟨one 317 "there is no such flue" (lw_i hts 605 (by decide +kernel)) (hs (.exactly (.string "BoilerCascade" 317) "java/lang/String") (by decide +kernel)), List.forall_mem_cons.mpr ⟨one 187 "there is no such layer" (lw_i hts 619 (by decide +kernel)) (hs (.exactly (.string "BoilerCascade" 187) "java/lang/String") (by decide +kernel)), List.forall_mem_cons.mpr ⟨one 230 "no such setting, or not in its range" (lw_i hts 749 (by decide +kernel)) (hs (.exactly (.string "BoilerCascade" 230) "java/lang/String") (by decide +kernel)), List.forall_mem_cons.mpr ⟨one 237 "the boiler is locked already" (lw_i hts 775 (by decide +kernel)) (hs (.exactly (.string "BoilerCascade" 237) "java/lang/String") (by decide +kernel)), List.forall_mem_cons.mpr ⟨one 242 "the boiler is not locked" (lw_i hts 784 (by decide +kernel)) (hs (.exactly (.string "BoilerCascade" 242) "java/lang/String") (by decide +kernel)), List.forall_mem_cons.mpr ⟨one 244 "the boiler is not on standby" (lw_i hts 792 (by decide +kernel)) (hs (.exactly (.string "BoilerCascade" 244) "java/lang/String") (by decide +kernel)), List.forall_mem_cons.mpr ⟨one 250 "no state is remembered" (lw_i hts 804 (by decide +kernel)) (hs (.exactly (.string "BoilerCascade" 250) "java/lang/String") (by decide +kernel)), List.forall_mem_cons.mpr ⟨one 295 "the script is negative or too long" (lw_i hts 890 (by decide +kernel)) (hs (.exactly (.string "BoilerCascade" 295) "java/lang/String") (by decide +kernel)), List.forall_mem_cons.mpr ⟨one 319 "there is no such save slot" (lw_i hts 918 (by decide +kernel)) (hs (.exactly (.string "BoilerCascade" 319) "java/lang/String") (by decide +kernel)), List.forall_mem_cons.mpr ⟨one 313 "nothing is saved in this slot" (lw_i hts 926 (by decide +kernel)) (hs (.exactly (.string "BoilerCascade" 313) "java/lang/String") (by decide +kernel)), fun q h => absurd h List.not_mem_nil⟩⟩⟩⟩⟩⟩⟩⟩⟩⟩⟩⟩⟩⟩
set_option maxHeartbeats 4000000 in
set_option maxRecDepth 100000 in
theorem st_cast {args : Array Value} {s : State} (hts : ∀ w ∈ lw_tbl, w.before args s = true) (e : Nat) : va_Nw (.castable (xN e) (xN e)) s := by
  unfold xN
  by_cases h1 : e = 1
  · rw [if_pos h1]
    exact va_Nw.of rfl (lw_i hts 449 (by decide +kernel))
  · rw [if_neg h1]
    by_cases h2 : e = 2
    · rw [if_pos h2]
      exact va_Nw.of rfl (lw_i hts 521 (by decide +kernel))
    · rw [if_neg h2]
      exact va_Nw.of rfl (lw_i hts 580 (by decide +kernel))
set_option maxHeartbeats 4000000 in
set_option maxRecDepth 100000 in
theorem st_not {args : Array Value} {s : State} (hg : (Jvm.Cond.and given_1 narrow_1).before args s = true) (e f : Nat) (h1 : 1 ≤ e) (h2 : e ≤ 3) (h3 : 1 ≤ f) (h4 : f ≤ 3) (h5 : e ≠ f) : va_Nc (xN e) (xN f) s := by
  have hs := flat_of_before _ hg
  rcases (show e = 1 ∨ e = 2 ∨ e = 3 by omega) with rfl | rfl | rfl
  · rcases (show f = 1 ∨ f = 2 ∨ f = 3 by omega) with rfl | rfl | rfl
    · exact absurd rfl h5
    · exact va_Nc.of (hs (.not (.castable "java/lang/IllegalArgumentException" "java/lang/IllegalStateException")) (by decide +kernel))
    · exact va_Nc.of (hs (.not (.castable "java/lang/IllegalArgumentException" "java/lang/IndexOutOfBoundsException")) (by decide +kernel))
  · rcases (show f = 1 ∨ f = 2 ∨ f = 3 by omega) with rfl | rfl | rfl
    · exact va_Nc.of (hs (.not (.castable "java/lang/IllegalStateException" "java/lang/IllegalArgumentException")) (by decide +kernel))
    · exact absurd rfl h5
    · exact va_Nc.of (hs (.not (.castable "java/lang/IllegalStateException" "java/lang/IndexOutOfBoundsException")) (by decide +kernel))
  · rcases (show f = 1 ∨ f = 2 ∨ f = 3 by omega) with rfl | rfl | rfl
    · exact va_Nc.of (hs (.not (.castable "java/lang/IndexOutOfBoundsException" "java/lang/IllegalArgumentException")) (by decide +kernel))
    · exact va_Nc.of (hs (.not (.castable "java/lang/IndexOutOfBoundsException" "java/lang/IllegalStateException")) (by decide +kernel))
    · exact absurd rfl h5
set_option maxHeartbeats 4000000 in
set_option maxRecDepth 100000 in
theorem tt_ex {p : Program} {s : State} {m : MethodId} {meth : Method} {c : Code} {b L : Nat} {xs : Nat → Int32} (A0 : lw_At p s m meth c b L xs) : ∃ G : GG, G.2.2.1 = s.heap ∧ TT G s ∧ TI s := by
  obtain ⟨hx, hb, hr, hml, hown, hts, hX, hbl, hlocks, hgv⟩ := A0
  have hg9 := lw_good hts
  have hA : ∀ a : Nat, a < s.heap.size → ¬ s.heap.size ≤ a := fun a h => Nat.not_le.mpr h
  obtain ⟨c0, iS0, hKn0⟩ := u_known (C := RX0) (T := TX0) (N := 7) (n := 7) hg9 inX0g (lw_i hts 211 (by decide +kernel))
  obtain ⟨c1, iS1, hKn1⟩ := u_known (C := RX1) (T := TX1) (N := 2) (n := 2) hg9 inX1g (lw_i hts 132 (by decide +kernel))
  obtain ⟨c2, iS2, hKn2⟩ := u_known (C := RX2) (T := TX2) (N := 3) (n := 3) hg9 inX2g (lw_i hts 287 (by decide +kernel))
  obtain ⟨c3, iS3, hKn3⟩ := u_known (C := RX3) (T := TX3) (N := 5) (n := 5) hg9 inX3g (lw_i hts 184 (by decide +kernel))
  obtain ⟨c4, iS4, hKn4⟩ := u_known (C := RX4) (T := TX4) (N := 11) (n := 11) hg9 inX4g (lw_i hts 71 (by decide +kernel))
  obtain ⟨c5, iS5, hKn5⟩ := u_known (C := RX5) (T := TX5) (N := 9) (n := 9) hg9 inX5g (lw_i hts 124 (by decide +kernel))
  obtain ⟨c6, iS6, hKn6⟩ := u_known (C := RX6) (T := TX6) (N := 2) (n := 2) hg9 inX6g (lw_i hts 307 (by decide +kernel))
  obtain ⟨c7, iS7, hKn7⟩ := u_known (C := RX7) (T := TX7) (N := 7) (n := 7) hg9 inX7g (lw_i hts 149 (by decide +kernel))
  obtain ⟨c8, iS8, hKn8⟩ := u_known (C := RX8) (T := TX8) (N := 6) (n := 6) hg9 inX8g (lw_i hts 63 (by decide +kernel))
  obtain ⟨c9, iS9, hKn9⟩ := u_known (C := RX9) (T := TX9) (N := 15) (n := 15) hg9 inX9g (lw_i hts 928 (by decide +kernel))
  obtain ⟨dC, dI, hKc⟩ : ∃ (dC : Nat → ClassId) (dI : Nat → Nat → Nat), ∀ (k : Nat) (q : vw_C), vwCl[k]? = some q → u_Kn s q.1 q.2.1 q.2.2 (dC k) (dI k) := by
    refine ⟨fun k => if k = 0 then c0 else if k = 1 then c1 else if k = 2 then c2 else if k = 3 then c3 else if k = 4 then c4 else if k = 5 then c5 else if k = 6 then c6 else if k = 7 then c7 else if k = 8 then c8 else c9, fun k => if k = 0 then iS0 else if k = 1 then iS1 else if k = 2 then iS2 else if k = 3 then iS3 else if k = 4 then iS4 else if k = 5 then iS5 else if k = 6 then iS6 else if k = 7 then iS7 else if k = 8 then iS8 else iS9, ?_⟩
    intro k q hq
    match k, hq with
    | 0, hq => cases hq; exact hKn0
    | 1, hq => cases hq; exact hKn1
    | 2, hq => cases hq; exact hKn2
    | 3, hq => cases hq; exact hKn3
    | 4, hq => cases hq; exact hKn4
    | 5, hq => cases hq; exact hKn5
    | 6, hq => cases hq; exact hKn6
    | 7, hq => cases hq; exact hKn7
    | 8, hq => cases hq; exact hKn8
    | 9, hq => cases hq; exact hKn9
    | k + 10, hq => simp [vwCl] at hq
  obtain ⟨a0, r0, s0⟩ := arr_of (ty := .int) (lw_i hts 122 (by decide +kernel)) (fun C h => by cases h)
  obtain ⟨a1, r1, s1⟩ := arr_of (ty := .boolean) (lw_i hts 987 (by decide +kernel)) (fun C h => by cases h)
  obtain ⟨a2, r2, s2⟩ := arr_ofQ (C := RX0) (lw_i hts 130 (by decide +kernel))
  obtain ⟨a3, r3, s3⟩ := arr_ofQ (C := RX5) (lw_i hts 293 (by decide +kernel))
  obtain ⟨a4, r4, s4⟩ := arr_of (ty := .long) (lw_i hts 1260 (by decide +kernel)) (fun C h => by cases h)
  obtain ⟨t0, z0, y0⟩ := st_LEAST_SETTING hts hgv
  obtain ⟨t1, z1, y1⟩ := st_MOST_SETTING hts hgv
  obtain ⟨t2, z2, y2⟩ := st_FIRST_SETTING hts hgv
  have hs := flat_of_before _ hgv
  refine ⟨((dC, dI), (fun k => if k = 0 then a0 else if k = 1 then a1 else if k = 2 then a2 else if k = 3 then a3 else a4), s.heap, (fun k => if k = 0 then t0 else if k = 1 then t1 else t2)), rfl, ⟨⟨hKc, ?_⟩, ⟨z0, y0⟩, ⟨z1, y1⟩, ⟨z2, y2⟩, ?_, ?_, st_strs hts hgv, st_cast hts, st_not hgv, ?_, ?_, ?_, ?_⟩, ⟨?_, ?_, ?_⟩⟩
  · intro k q hk
    match k, hk with
    | 0, hk => cases hk; exact ⟨r0, s0⟩
    | 1, hk => cases hk; exact ⟨r1, s1⟩
    | 2, hk => cases hk; exact ⟨r2, s2⟩
    | 3, hk => cases hk; exact ⟨r3, s3⟩
    | 4, hk => cases hk; exact ⟨r4, s4⟩
    | k + 5, hk => simp [tysG] at hk
  · exact vx_Zqof (lw_i hts 474 (by decide +kernel)) (lw_i hts 55 (by decide +kernel)) (hs (.isRef (.static "java/lang/Throwable" "UNASSIGNED_STACK" "[Ljava/lang/StackTraceElement;")) (by decide +kernel)) hA
  · exact vx_Zqof (lw_i hts 476 (by decide +kernel)) (lw_i hts 55 (by decide +kernel)) (hs (.isRef (.static "java/lang/Throwable" "SUPPRESSED_SENTINEL" "Ljava/util/List;")) (by decide +kernel)) hA
  · exact va_Nw.of rfl (lw_i hts 337 (by decide +kernel))
  · exact va_Nw.of rfl (lw_i hts 451 (by decide +kernel))
  · exact va_Nw.of rfl (lw_i hts 453 (by decide +kernel))
  · exact va_Nw.of rfl (lw_i hts 455 (by decide +kernel))
  · unfold nestI
    exact List.forall_mem_cons.mpr ⟨va_Nw.of rfl (lw_i hts 133 (by decide +kernel)), List.forall_mem_cons.mpr ⟨va_Nw.of rfl (lw_i hts 150 (by decide +kernel)), List.forall_mem_cons.mpr ⟨va_Nw.of rfl (lw_i hts 185 (by decide +kernel)), List.forall_mem_cons.mpr ⟨va_Nw.of rfl (lw_i hts 212 (by decide +kernel)), List.forall_mem_cons.mpr ⟨va_Nw.of rfl (lw_i hts 308 (by decide +kernel)), fun q h => absurd h List.not_mem_nil⟩⟩⟩⟩⟩
  · exact va_AO.of (lw_i hts 130 (by decide +kernel))
  · exact va_AO.of (lw_i hts 293 (by decide +kernel))
/-- the law's end out of what the memory's functions say -/
theorem whole_of {p : Program} {e : Env} {s : State} {m : MethodId} {below : List Frame} {meth : Method} {c : Code} (l : Launch) (hflags : l.flags = flags0) {b L : Nat} {xs : Nat → Int32} (hL : L ≤ 2048) (A0 : lw_At p s m meth c b L xs) {rB rM rL : Int32} {C1 C2 CL : Mem} (hB : F_X5_beginAs 0 C0 = some (rB, C1)) (hB0 : ∀ r, r ≠ 0 → C1 r = C0 r) (hM : F_X9_begin 33 C1 = some (rM, C2)) (hM0 : C2 40 = C1 40) (hFL : F_L_law xs L (mu (mu (mu C2 33 18 50) 33 19 50) 33 30 10) = some (rL, CL)) : W p l e room_1 s m #[Value.ref b] below meth c s.heap [] 0 0 (lw_Z below #[Value.ref b] s) (entryFrame m ([Value.ref b] : List Value).toArray 7) := by
  obtain ⟨G, hG, hT, hI⟩ := tt_ex A0
  obtain ⟨hx, hb, hr, hml, hown, hts, hX, hbl, hlocks, hgv⟩ := A0
  have hl := lv_entry ([.ref b]) (n := 7) (Nat.le_of_ble_eq_true rfl)
  rw [lg_entry_eq]
  generalize (lg_sl ([.ref b]) ++ List.replicate (7 - (lg_sl ([.ref b])).length) Slot.unset).toArray = ls at hl ⊢
  have hfl : l.stackTraces = false := by
    unfold Launch.stackTraces
    rw [hflags]
    decide +kernel
  exact law_start l hfl G hL hr hlocks hX hbl hG ⟨hx, hb, hml, hown, lw_good hts, hT, by show G.2.2.1.size ≤ _; rw [hG]; exact Nat.le_refl _, fun a _ => by rw [hG]⟩ hI hB hB0 hM hM0 hFL ls hl
