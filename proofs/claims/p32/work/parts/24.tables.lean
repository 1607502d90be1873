/-! what the tables and the premises give at the law's start -/
theorem lw_good {args : Array Value} {s : State} (h : ∀ w ∈ lw_tbl, w.before args s = true) : ∀ w ∈ lw_g, w.before args s = true := fun w hw => h w (List.mem_filter.mp hw).1
theorem lw_i {args : Array Value} {s : State} (h : ∀ w ∈ lw_tbl, w.before args s = true) {w : Cond} (i : Nat) (hi : lw_tbl[i]? = some w) : w.before args s = true := h w (List.mem_of_getElem? hi)
theorem arr_of {args : Array Value} {s : State} {ty : FieldType} (h : (Cond.arrayClass ty).before args s = true) (ho : ∀ C, ty ≠ .object C) : ∃ cA, ArrOfT s cA ty ∧ va_RA s cA ty := by
  obtain ⟨c, k, comp, h1, h2, h3⟩ := Cond.arrayClass_spec h
  refine ⟨c, fun n z => ⟨fun k h => (by cases h), k, h2, comp, h3⟩, ?_⟩
  cases ty with
  | object C => exact absurd rfl (ho C)
  | _ => exact h1
theorem arr_ofQ {args : Array Value} {s : State} {C : String} (h : (Cond.arrayOver (.object C)).before args s = true) : ∃ cA, ArrOfT s cA (.object C) ∧ va_RA s cA (.object C) := by
  obtain ⟨comp, c, k, h1, -, h3, h4, h5⟩ := Cond.arrayOver_spec h
  exact ⟨c, fun N z => ⟨fun k h => (by cases h), k, h3, comp, h4⟩, k, comp, h3, h4, h1, h5⟩
set_option maxHeartbeats 4000000 in
set_option maxRecDepth 100000 in
theorem st_LEAST_SETTING {args : Array Value} {s : State} (hts : ∀ w ∈ lw_tbl, w.before args s = true) (hg : (Jvm.Cond.and given_1 narrow_1).before args s = true) : ∃ t : Nat, va_Z RX8 "LEAST_SETTING" "[I" (.ref t) (fun q => s.heap.size ≤ q) s s.heap ∧ va_T .int t 6 (fun j => .int (kLeast j)) (fun q => s.heap.size ≤ q) s s.heap := by
  have hs := flat_of_before _ hg
  have hA : ∀ a : Nat, a < s.heap.size → ¬ s.heap.size ≤ a := fun a h => Nat.not_le.mpr h
  obtain ⟨t, ht, hT⟩ := va_Tof (A := fun q => s.heap.size ≤ q) (tm := (.static "BoilerCascade" "LEAST_SETTING" "[I")) (ty := .int) (N := 6) (f := fun j => .int (kLeast j)) (by decide) (hs (.arrayOf (.static "BoilerCascade" "LEAST_SETTING" "[I") .int) (by decide +kernel)) (va_eqt (z := 6) (hs (.eq (.length (.static "BoilerCascade" "LEAST_SETTING" "[I")) (.int 6)) (by decide +kernel))) (fun j hj => by
    rcases (show j = 0 ∨ j = 1 ∨ j = 2 ∨ j = 3 ∨ j = 4 ∨ j = 5 by omega) with rfl | rfl | rfl | rfl | rfl | rfl
    · exact va_eqt (z := 40) (hs (.eq (.elem (.static "BoilerCascade" "LEAST_SETTING" "[I") (.int 0)) (.int 40)) (by decide +kernel))
    · exact va_eqt (z := 1) (hs (.eq (.elem (.static "BoilerCascade" "LEAST_SETTING" "[I") (.int 1)) (.int 1)) (by decide +kernel))
    · exact va_eqt (z := 1) (hs (.eq (.elem (.static "BoilerCascade" "LEAST_SETTING" "[I") (.int 2)) (.int 1)) (by decide +kernel))
    · exact va_eqt (z := 60) (hs (.eq (.elem (.static "BoilerCascade" "LEAST_SETTING" "[I") (.int 3)) (.int 60)) (by decide +kernel))
    · exact va_eqt (z := 1) (hs (.eq (.elem (.static "BoilerCascade" "LEAST_SETTING" "[I") (.int 4)) (.int 1)) (by decide +kernel))
    · exact va_eqt (z := 0) (hs (.eq (.elem (.static "BoilerCascade" "LEAST_SETTING" "[I") (.int 5)) (.int 0)) (by decide +kernel))) hA
  exact ⟨t, va_Zof (lw_i hts 770 (by decide +kernel)) (lw_i hts 17 (by decide +kernel)) ht hA, hT⟩
set_option maxHeartbeats 4000000 in
set_option maxRecDepth 100000 in
theorem st_MOST_SETTING {args : Array Value} {s : State} (hts : ∀ w ∈ lw_tbl, w.before args s = true) (hg : (Jvm.Cond.and given_1 narrow_1).before args s = true) : ∃ t : Nat, va_Z RX8 "MOST_SETTING" "[I" (.ref t) (fun q => s.heap.size ≤ q) s s.heap ∧ va_T .int t 6 (fun j => .int (kMost j)) (fun q => s.heap.size ≤ q) s s.heap := by
  have hs := flat_of_before _ hg
  have hA : ∀ a : Nat, a < s.heap.size → ¬ s.heap.size ≤ a := fun a h => Nat.not_le.mpr h
  obtain ⟨t, ht, hT⟩ := va_Tof (A := fun q => s.heap.size ≤ q) (tm := (.static "BoilerCascade" "MOST_SETTING" "[I")) (ty := .int) (N := 6) (f := fun j => .int (kMost j)) (by decide) (hs (.arrayOf (.static "BoilerCascade" "MOST_SETTING" "[I") .int) (by decide +kernel)) (va_eqt (z := 6) (hs (.eq (.length (.static "BoilerCascade" "MOST_SETTING" "[I")) (.int 6)) (by decide +kernel))) (fun j hj => by
    rcases (show j = 0 ∨ j = 1 ∨ j = 2 ∨ j = 3 ∨ j = 4 ∨ j = 5 by omega) with rfl | rfl | rfl | rfl | rfl | rfl
    · exact va_eqt (z := 80) (hs (.eq (.elem (.static "BoilerCascade" "MOST_SETTING" "[I") (.int 0)) (.int 80)) (by decide +kernel))
    · exact va_eqt (z := 9) (hs (.eq (.elem (.static "BoilerCascade" "MOST_SETTING" "[I") (.int 1)) (.int 9)) (by decide +kernel))
    · exact va_eqt (z := 5) (hs (.eq (.elem (.static "BoilerCascade" "MOST_SETTING" "[I") (.int 2)) (.int 5)) (by decide +kernel))
    · exact va_eqt (z := 90) (hs (.eq (.elem (.static "BoilerCascade" "MOST_SETTING" "[I") (.int 3)) (.int 90)) (by decide +kernel))
    · exact va_eqt (z := 9) (hs (.eq (.elem (.static "BoilerCascade" "MOST_SETTING" "[I") (.int 4)) (.int 9)) (by decide +kernel))
    · exact va_eqt (z := 23) (hs (.eq (.elem (.static "BoilerCascade" "MOST_SETTING" "[I") (.int 5)) (.int 23)) (by decide +kernel))) hA
  exact ⟨t, va_Zof (lw_i hts 772 (by decide +kernel)) (lw_i hts 17 (by decide +kernel)) ht hA, hT⟩
set_option maxHeartbeats 4000000 in
set_option maxRecDepth 100000 in
theorem st_FIRST_SETTING {args : Array Value} {s : State} (hts : ∀ w ∈ lw_tbl, w.before args s = true) (hg : (Jvm.Cond.and given_1 narrow_1).before args s = true) : ∃ t : Nat, va_Z RX8 "FIRST_SETTING" "[I" (.ref t) (fun q => s.heap.size ≤ q) s s.heap ∧ va_T .int t 6 (fun j => .int (kFirst j)) (fun q => s.heap.size ≤ q) s s.heap := by
  have hs := flat_of_before _ hg
  have hA : ∀ a : Nat, a < s.heap.size → ¬ s.heap.size ≤ a := fun a h => Nat.not_le.mpr h
  obtain ⟨t, ht, hT⟩ := va_Tof (A := fun q => s.heap.size ≤ q) (tm := (.static "BoilerCascade" "FIRST_SETTING" "[I")) (ty := .int) (N := 6) (f := fun j => .int (kFirst j)) (by decide) (hs (.arrayOf (.static "BoilerCascade" "FIRST_SETTING" "[I") .int) (by decide +kernel)) (va_eqt (z := 6) (hs (.eq (.length (.static "BoilerCascade" "FIRST_SETTING" "[I")) (.int 6)) (by decide +kernel))) (fun j hj => by
    rcases (show j = 0 ∨ j = 1 ∨ j = 2 ∨ j = 3 ∨ j = 4 ∨ j = 5 by omega) with rfl | rfl | rfl | rfl | rfl | rfl
    · exact va_eqt (z := 60) (hs (.eq (.elem (.static "BoilerCascade" "FIRST_SETTING" "[I") (.int 0)) (.int 60)) (by decide +kernel))
    · exact va_eqt (z := 3) (hs (.eq (.elem (.static "BoilerCascade" "FIRST_SETTING" "[I") (.int 1)) (.int 3)) (by decide +kernel))
    · exact va_eqt (z := 2) (hs (.eq (.elem (.static "BoilerCascade" "FIRST_SETTING" "[I") (.int 2)) (.int 2)) (by decide +kernel))
    · exact va_eqt (z := 70) (hs (.eq (.elem (.static "BoilerCascade" "FIRST_SETTING" "[I") (.int 3)) (.int 70)) (by decide +kernel))
    · exact va_eqt (z := 2) (hs (.eq (.elem (.static "BoilerCascade" "FIRST_SETTING" "[I") (.int 4)) (.int 2)) (by decide +kernel))
    · exact va_eqt (z := 2) (hs (.eq (.elem (.static "BoilerCascade" "FIRST_SETTING" "[I") (.int 5)) (.int 2)) (by decide +kernel))) hA
  exact ⟨t, va_Zof (lw_i hts 310 (by decide +kernel)) (lw_i hts 17 (by decide +kernel)) ht hA, hT⟩
set_option maxHeartbeats 4000000 in
set_option maxRecDepth 100000 in
theorem st_strs {args : Array Value} {s : State} (hts : ∀ w ∈ lw_tbl, w.before args s = true) (hg : (Jvm.Cond.and given_1 narrow_1).before args s = true) : ∀ q ∈ strs, ∃ a, vk_R RX8 q.1 q.2 a s := by
  have hs := flat_of_before _ hg
  have one : ∀ (i : Nat) (t : String), (Cond.stringRef RX8 i t).before args s = true → (Cond.exactly (.string "BoilerCascade" i) "java/lang/String").before args s = true → ∃ a, vk_R RX8 i t a s := fun i t h1 h2 => by
    obtain ⟨a, c, cell, k, e, -⟩ := Cond.exactly_spec h2
    exact ⟨a, vk_R.of h1 e⟩
  unfold strs
  exact List.forall_mem_cons.mpr ⟨one 315 "an argument is out of its range" (lw_i hts 431 (by decide +kernel)) (hs (.exactly (.string "BoilerCascade" 315) "java/lang/String") (by decide +kernel)), List.forall_mem_cons.mpr ⟨one 57 "the text is full" (lw_i hts 580 (by decide +kernel)) (hs (.exactly (.string "BoilerCascade" 57) "java/lang/String") (by decide +kernel)), List.forall_mem_cons.mpr ⟨one 70 "the text tells no cascade" (lw_i hts 591 (by decide +kernel)) (hs (.exactly (.string "BoilerCascade" 70) "java/lang/String") (by decide +kernel)), List.forall_mem_cons.mpr ⟨one 324 "there is no such boiler" (lw_i hts 670 (by decide +kernel)) (hs (.exactly (.string "BoilerCascade" 324) "java/lang/String") (by decide +kernel)), List.forall_mem_cons.mpr ⟨one 317 "there is no such flue" (lw_i hts 610 (by decide +kernel)) (hs (.exactly (.string "BoilerCascade" 317) "java/lang/String") (by decide +kernel)), List.forall_mem_cons.mpr ⟨one 187 "there is no such layer" (lw_i hts 599 (by decide +kernel)) (hs (.exactly (.string "BoilerCascade" 187) "java/lang/String") (by decide +kernel)), List.forall_mem_cons.mpr ⟨one 230 "no such setting, or not in its range" (lw_i hts 773 (by decide +kernel)) (hs (.exactly (.string "BoilerCascade" 230) "java/lang/String") (by decide +kernel)), List.forall_mem_cons.mpr ⟨one 237 "the boiler is locked already" (lw_i hts 799 (by decide +kernel)) (hs (.exactly (.string "BoilerCascade" 237) "java/lang/String") (by decide +kernel)), List.forall_mem_cons.mpr ⟨one 242 "the boiler is not locked" (lw_i hts 808 (by decide +kernel)) (hs (.exactly (.string "BoilerCascade" 242) "java/lang/String") (by decide +kernel)), List.forall_mem_cons.mpr ⟨one 244 "the boiler is not on standby" (lw_i hts 816 (by decide +kernel)) (hs (.exactly (.string "BoilerCascade" 244) "java/lang/String") (by decide +kernel)), List.forall_mem_cons.mpr ⟨one 250 "no state is remembered" (lw_i hts 507 (by decide +kernel)) (hs (.exactly (.string "BoilerCascade" 250) "java/lang/String") (by decide +kernel)), List.forall_mem_cons.mpr ⟨one 295 "the script is negative or too long" (lw_i hts 901 (by decide +kernel)) (hs (.exactly (.string "BoilerCascade" 295) "java/lang/String") (by decide +kernel)), List.forall_mem_cons.mpr ⟨one 319 "there is no such save slot" (lw_i hts 534 (by decide +kernel)) (hs (.exactly (.string "BoilerCascade" 319) "java/lang/String") (by decide +kernel)), List.forall_mem_cons.mpr ⟨one 313 "nothing is saved in this slot" (lw_i hts 549 (by decide +kernel)) (hs (.exactly (.string "BoilerCascade" 313) "java/lang/String") (by decide +kernel)), fun q h => absurd h List.not_mem_nil⟩⟩⟩⟩⟩⟩⟩⟩⟩⟩⟩⟩⟩⟩
set_option maxHeartbeats 4000000 in
set_option maxRecDepth 100000 in
theorem st_cast {args : Array Value} {s : State} (hts : ∀ w ∈ lw_tbl, w.before args s = true) (e : Nat) : va_Nw (.castable (xN e) (xN e)) s := by
  unfold xN
  by_cases h1 : e = 1
  · rw [if_pos h1]
    exact va_Nw.of rfl (lw_i hts 392 (by decide +kernel))
  · rw [if_neg h1]
    by_cases h2 : e = 2
    · rw [if_pos h2]
      exact va_Nw.of rfl (lw_i hts 500 (by decide +kernel))
    · rw [if_neg h2]
      exact va_Nw.of rfl (lw_i hts 527 (by decide +kernel))
set_option maxHeartbeats 4000000 in
set_option maxRecDepth 100000 in
theorem st_not {args : Array Value} {s : State} (hg : (Jvm.Cond.and given_1 narrow_1).before args s = true) (e f : Nat) (h1 : 1 ≤ e) (h2 : e ≤ 3) (h3 : 1 ≤ f) (h4 : f ≤ 3) (h5 : e ≠ f) : va_Nc (xN e) (xN f) s := by
  have hs := flat_of_before _ hg
  rcases (show e = 1 ∨ e = 2 ∨ e = 3 by omega) with rfl | rfl | rfl
  · rcases (show f = 1 ∨ f = 2 ∨ f = 3 by omega) with rfl | rfl | rfl
    · exact absurd rfl h5
    · exact va_Nc.of (hs (.not (.castable "java/lang/IllegalArgumentException" "java/lang/IllegalStateException")) (by decide +kernel))
    · exact va_Nc.of (hs (.not (.castable "java/lang/IllegalArgumentException" "java/lang/IndexOutOfBoundsException")) (by decide +kernel))
  · rcases (show f = 1 ∨ f = 2 ∨ f = 3 by omega) with rfl | rfl | rfl
    · exact va_Nc.of (hs (.not (.castable "java/lang/IllegalStateException" "java/lang/IllegalArgumentException")) (by decide +kernel))
    · exact absurd rfl h5
    · exact va_Nc.of (hs (.not (.castable "java/lang/IllegalStateException" "java/lang/IndexOutOfBoundsException")) (by decide +kernel))
  · rcases (show f = 1 ∨ f = 2 ∨ f = 3 by omega) with rfl | rfl | rfl
    · exact va_Nc.of (hs (.not (.castable "java/lang/IndexOutOfBoundsException" "java/lang/IllegalArgumentException")) (by decide +kernel))
    · exact va_Nc.of (hs (.not (.castable "java/lang/IndexOutOfBoundsException" "java/lang/IllegalStateException")) (by decide +kernel))
    · exact absurd rfl h5
set_option maxHeartbeats 4000000 in
set_option maxRecDepth 100000 in
theorem tt_ex {p : Program} {s : State} {m : MethodId} {meth : Method} {c : Code} {b L : Nat} {xs : Nat → Int32} (A0 : lw_At p s m meth c b L xs) : ∃ G : GG, G.2.2.1 = s.heap ∧ bb G = s.heap.size ∧ TT G s ∧ TI s := by
  obtain ⟨hx, hb, hr, hml, hown, hts, hX, hbl, hlocks, hgv⟩ := A0
  have hg9 := lw_good hts
  have hA : ∀ a : Nat, a < s.heap.size → ¬ s.heap.size ≤ a := fun a h => Nat.not_le.mpr h
  obtain ⟨c0, iS0, hKn0⟩ := u_known (C := RX0) (T := TX0) (N := 7) (n := 7) hg9 inX0g (lw_i hts 183 (by decide +kernel))
  obtain ⟨c1, iS1, hKn1⟩ := u_known (C := RX1) (T := TX1) (N := 2) (n := 2) hg9 inX1g (lw_i hts 104 (by decide +kernel))
  obtain ⟨c2, iS2, hKn2⟩ := u_known (C := RX2) (T := TX2) (N := 3) (n := 3) hg9 inX2g (lw_i hts 259 (by decide +kernel))
  obtain ⟨c3, iS3, hKn3⟩ := u_known (C := RX3) (T := TX3) (N := 5) (n := 5) hg9 inX3g (lw_i hts 156 (by decide +kernel))
  obtain ⟨c4, iS4, hKn4⟩ := u_known (C := RX4) (T := TX4) (N := 11) (n := 11) hg9 inX4g (lw_i hts 43 (by decide +kernel))
  obtain ⟨c5, iS5, hKn5⟩ := u_known (C := RX5) (T := TX5) (N := 9) (n := 9) hg9 inX5g (lw_i hts 96 (by decide +kernel))
  obtain ⟨c6, iS6, hKn6⟩ := u_known (C := RX6) (T := TX6) (N := 2) (n := 2) hg9 inX6g (lw_i hts 279 (by decide +kernel))
  obtain ⟨c7, iS7, hKn7⟩ := u_known (C := RX7) (T := TX7) (N := 7) (n := 7) hg9 inX7g (lw_i hts 121 (by decide +kernel))
  obtain ⟨c8, iS8, hKn8⟩ := u_known (C := RX8) (T := TX8) (N := 6) (n := 6) hg9 inX8g (lw_i hts 35 (by decide +kernel))
  obtain ⟨dC, dI, hKc⟩ : ∃ (dC : Nat → ClassId) (dI : Nat → Nat → Nat), ∀ (k : Nat) (q : vw_C), vwCl[k]? = some q → u_Kn s q.1 q.2.1 q.2.2 (dC k) (dI k) := by
    refine ⟨fun k => if k = 0 then c0 else if k = 1 then c1 else if k = 2 then c2 else if k = 3 then c3 else if k = 4 then c4 else if k = 5 then c5 else if k = 6 then c6 else if k = 7 then c7 else c8, fun k => if k = 0 then iS0 else if k = 1 then iS1 else if k = 2 then iS2 else if k = 3 then iS3 else if k = 4 then iS4 else if k = 5 then iS5 else if k = 6 then iS6 else if k = 7 then iS7 else iS8, ?_⟩
    intro k q hq
    match k, hq with
    | 0, hq => cases hq; exact hKn0
    | 1, hq => cases hq; exact hKn1
    | 2, hq => cases hq; exact hKn2
    | 3, hq => cases hq; exact hKn3
    | 4, hq => cases hq; exact hKn4
    | 5, hq => cases hq; exact hKn5
    | 6, hq => cases hq; exact hKn6
    | 7, hq => cases hq; exact hKn7
    | 8, hq => cases hq; exact hKn8
    | k + 9, hq => simp [vwCl] at hq
  obtain ⟨a0, r0, s0⟩ := arr_of (ty := .int) (lw_i hts 94 (by decide +kernel)) (fun C h => by cases h)
  obtain ⟨a2, r2, s2⟩ := arr_ofQ (C := RX0) (lw_i hts 102 (by decide +kernel))
  obtain ⟨a3, r3, s3⟩ := arr_ofQ (C := RX5) (lw_i hts 265 (by decide +kernel))
  obtain ⟨t0, z0, y0⟩ := st_LEAST_SETTING hts hgv
  obtain ⟨t1, z1, y1⟩ := st_MOST_SETTING hts hgv
  obtain ⟨t2, z2, y2⟩ := st_FIRST_SETTING hts hgv
  have hs := flat_of_before _ hgv
  refine ⟨((dC, dI), (fun k => if k = 0 then a0 else if k = 2 then a2 else a3), s.heap, (fun k => if k = 0 then t0 else if k = 1 then t1 else t2), s.heap.size), rfl, rfl, ⟨⟨hKc, ?_⟩, ⟨z0, y0⟩, ⟨z1, y1⟩, ⟨z2, y2⟩, ?_, ?_, st_strs hts hgv, st_cast hts, st_not hgv, ?_, ?_, ?_, ?_⟩, ⟨?_, ?_, ?_⟩⟩
  · intro k q hk
    match k, hk with
    | 0, hk => cases hk; exact ⟨r0, s0⟩
    | 1, hk => cases hk; exact ⟨r0, s0⟩
    | 2, hk => cases hk; exact ⟨r2, s2⟩
    | 3, hk => cases hk; exact ⟨r3, s3⟩
    | k + 4, hk => simp [tysG] at hk
  · exact vx_Zqof (lw_i hts 417 (by decide +kernel)) (lw_i hts 27 (by decide +kernel)) (hs (.isRef (.static "java/lang/Throwable" "UNASSIGNED_STACK" "[Ljava/lang/StackTraceElement;")) (by decide +kernel)) hA
  · exact vx_Zqof (lw_i hts 419 (by decide +kernel)) (lw_i hts 27 (by decide +kernel)) (hs (.isRef (.static "java/lang/Throwable" "SUPPRESSED_SENTINEL" "Ljava/util/List;")) (by decide +kernel)) hA
  · exact va_Nw.of rfl (lw_i hts 309 (by decide +kernel))
  · exact va_Nw.of rfl (lw_i hts 394 (by decide +kernel))
  · exact va_Nw.of rfl (lw_i hts 396 (by decide +kernel))
  · exact va_Nw.of rfl (lw_i hts 398 (by decide +kernel))
  · unfold nestI
    exact List.forall_mem_cons.mpr ⟨va_Nw.of rfl (lw_i hts 105 (by decide +kernel)), List.forall_mem_cons.mpr ⟨va_Nw.of rfl (lw_i hts 122 (by decide +kernel)), List.forall_mem_cons.mpr ⟨va_Nw.of rfl (lw_i hts 157 (by decide +kernel)), List.forall_mem_cons.mpr ⟨va_Nw.of rfl (lw_i hts 184 (by decide +kernel)), List.forall_mem_cons.mpr ⟨va_Nw.of rfl (lw_i hts 280 (by decide +kernel)), fun q h => absurd h List.not_mem_nil⟩⟩⟩⟩⟩
  · exact va_AO.of (lw_i hts 102 (by decide +kernel))
  · exact va_AO.of (lw_i hts 265 (by decide +kernel))
/-- the law's end out of what the memories' functions say -/
theorem whole_of {p : Program} {e : Env} {s : State} {m : MethodId} {below : List Frame} {meth : Method} {c : Code} (l : Launch) (hflags : l.flags = flags0) {b L : Nat} {xs : Nat → Int32} (A0 : lw_At p s m meth c b L xs) {rB rL : Int32} {C1 CL DL : Mem} (hB : F_X5_beginAs 0 C0 = some (rB, C1)) (hFL : F_L_law xs L C1 C1 = some (rL, CL, DL)) : W p l e room_1 s m #[Value.ref b] below meth c s.heap [] 0 0 (lw_Z below #[Value.ref b] s) (entryFrame m ([Value.ref b] : List Value).toArray 9) := by
  obtain ⟨G, hG, hbb, hT, hI⟩ := tt_ex A0
  obtain ⟨hx, hb, hr, hml, hown, hts, hX, hbl, hlocks, hgv⟩ := A0
  have hl := lv_entry ([.ref b]) (n := 9) (Nat.le_of_ble_eq_true rfl)
  rw [lg_entry_eq]
  generalize (lg_sl ([.ref b]) ++ List.replicate (9 - (lg_sl ([.ref b])).length) Slot.unset).toArray = ls at hl ⊢
  have hfl : l.stackTraces = false := by
    unfold Launch.stackTraces
    rw [hflags]
    decide +kernel
  exact law_start l hfl G hr hlocks hX hbl hbb ⟨hx, hb, hml, hown, lw_good hts, hT, by rw [hbb]; exact Nat.le_refl _, fun a _ => by rw [hG]⟩ hI hB hFL ls hl
