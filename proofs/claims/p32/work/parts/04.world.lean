/-! THE WORLD OF ONE OBJECT: its 244 cells at the addresses bb G + 0, bb G + 1 .. in the order in which the constructors make them; their whole numbers are one memory C r k (region, place). -/
def lw_g : List Cond := lw_tbl.filter goodWord
theorem lg {w : Cond} (i : Nat) (h : lw_tbl[i]? = some w) (g : goodWord w = true) : w ∈ lw_g := List.mem_filter.mpr ⟨List.mem_of_getElem? h, g⟩
abbrev Mem : Type := Nat → Nat → Int32
def up (f : Nat → Int32) (k : Nat) (v : Int32) : Nat → Int32 := fun j => if j = k then v else f j
def mu (C : Mem) (r k : Nat) (v : Int32) : Mem := fun a => if a = r then up (C a) k v else C a
theorem up_same (f : Nat → Int32) (k : Nat) (v : Int32) : up f k v k = v := if_pos rfl
theorem up_ne (f : Nat → Int32) {k j : Nat} (v : Int32) (h : j ≠ k) : up f k v j = f j := if_neg h
theorem mu_same (C : Mem) (r k : Nat) (v : Int32) : mu C r k v r = up (C r) k v := if_pos rfl
theorem mu_ne (C : Mem) {r a : Nat} (k : Nat) (v : Int32) (h : a ≠ r) : mu C r k v a = C a := if_neg h
/-- kinds of cells, numbers of classes, the heap as it is at a call, the rows that lie ahead, where the world begins -/
abbrev GG : Type := va_G × (Nat → ClassId) × Heap × (Nat → Nat) × Nat
abbrev bb (G : GG) : Nat := G.2.2.2.2
def frA (G : GG) : Nat → Prop := fun q => bb G ≤ q
/-- where the plants lie: 0 the plant, 1 the trial, 2 to 15 the remembered ones, 16 and 17 the slots' -/
def po (q : Nat) : Nat := if q = 0 then 6 else if q = 1 then 19 else if q < 16 then 34 + 13 * (q - 2) else if q = 16 then 217 else 231
def tr (n : Nat) (f : Nat → Int32) : Nat → Int32 := fun j => if j < n then f j else 0
theorem tr_lt {n j : Nat} (f : Nat → Int32) (h : j < n) : tr n f j = f j := if_pos h
theorem tr_upd {n k : Nat} (f : Nat → Int32) (v : Int32) (h : k < n) : upd (tr n f) k v = tr n (up f k v) := by
  funext j
  unfold upd tr up
  by_cases e : j = k
  · subst e; simp [h]
  · simp [e]
theorem tr_up {n k : Nat} (f : Nat → Int32) (v : Int32) (h : n ≤ k) : tr n (up f k v) = tr n f := by
  funext j
  unfold tr up
  by_cases e : j < n
  · simp [e, show j ≠ k by omega]
  · simp [e]
theorem tr_upS {n k d : Nat} (f : Nat → Int32) (v : Int32) (h : k < d ∨ d + n ≤ k) : tr n (fun j => up f k v (d + j)) = tr n (fun j => f (d + j)) := by
  funext j
  unfold tr up
  by_cases e : j < n
  · simp [e, show d + j ≠ k by omega]
  · simp [e]
theorem tr_updS {n k d : Nat} (f : Nat → Int32) (v : Int32) (h : k < n) : upd (tr n (fun j => f (d + j))) k v = tr n (fun j => up f (d + k) v (d + j)) := by
  funext j
  unfold upd tr up
  by_cases e : j = k
  · subst e; simp [h]
  · simp [e, show ¬ d + j = d + k by omega]
def plantC (G : GG) (o : Nat) (y : Nat → Int32) : Nat → va_E
  | 0 => .inr (5, [.ref (bb G + (o + 1)), .int (y 65), .ref (bb G + (o + 2)), .ref (bb G + (o + 3)), .ref (bb G + (o + 4)), .ref (bb G + (o + 5)), .ref (bb G + (o + 7)), .int (y 6), .int (y 7)])
  | 1 => .inl (G.2.1 2, 5, .inr (.inr (.inr (.inr (fun j => some (bb G + (o + 8 + j)))))))
  | 2 => .inr (1, [.int (y 18), .int (y 20)])
  | 3 => .inr (1, [.int (y 19), .int (y 21)])
  | 4 => .inl (G.2.1 0, 6, .inl (tr 6 y))
  | 5 => .inr (7, [.ref (bb G + (o + 6)), .int (y 66), .int (y 13), .int (y 14), .int (y 15), .int (y 16), .int (y 17)])
  | 6 => .inl (G.2.1 0, 8, .inl (tr 8 (fun j => y (22 + j))))
  | 7 => .inr (3, [.int (y 8), .int (y 9), .int (y 10), .int (y 11), .int (y 12)])
  | i + 8 => .inr (0, [.int (y (30 + 7 * i)), .int (y (30 + 7 * i + 1)), .int (y (30 + 7 * i + 2)), .int (y (30 + 7 * i + 3)), .int (y (30 + 7 * i + 4)), .int (y (30 + 7 * i + 5)), .int (y (30 + 7 * i + 6))])
/-- in which of a plant's cells a place lies -/
def hm (k : Nat) : Nat := if k < 6 then 4 else if k < 8 then 0 else if k < 13 then 7 else if k < 18 then 5 else if k = 18 ∨ k = 20 then 2 else if k < 22 then 3 else if k < 30 then 6 else if k < 65 then 8 + (k - 30) / 7 else if k = 65 then 0 else 5
theorem plantC_other (G : GG) (o : Nat) (y : Nat → Int32) (k : Nat) (v : Int32) (j : Nat) (hj : j < 13) (hk : k ≤ 66) (h : j ≠ hm k) : plantC G o (up y k v) j = plantC G o y j := by
  have key : ∀ d : Nat, hm d = j → d ≤ 66 → up y k v d = y d := fun d h1 h2 => up_ne y v (fun e => h (by rw [← e]; exact h1.symm))
  match j, hj, h, key with
  | 0, _, _, key => simp only [plantC, key 65 rfl (by omega), key 6 rfl (by omega), key 7 rfl (by omega)]
  | 1, _, _, key => rfl
  | 2, _, _, key => simp only [plantC, key 18 rfl (by omega), key 20 rfl (by omega)]
  | 3, _, _, key => simp only [plantC, key 19 rfl (by omega), key 21 rfl (by omega)]
  | 4, _, h, key =>
    simp only [plantC]
    rw [tr_up y v (by
      unfold hm at h
      rcases Nat.lt_or_ge k 6 with q | q
      · simp [q] at h
      · exact q)]
  | 5, _, _, key => simp only [plantC, key 66 rfl (by omega), key 13 rfl (by omega), key 14 rfl (by omega), key 15 rfl (by omega), key 16 rfl (by omega), key 17 rfl (by omega)]
  | 6, _, h, key =>
    simp only [plantC]
    rw [tr_upS y v (by
      unfold hm at h
      rcases Nat.lt_or_ge k 22 with q | q
      · exact Or.inl q
      · rcases Nat.lt_or_ge k 30 with q2 | q2
        · exfalso; apply h; simp [show ¬ k < 6 by omega, show ¬ k < 8 by omega, show ¬ k < 13 by omega, show ¬ k < 18 by omega, show ¬ (k = 18 ∨ k = 20) by omega, show ¬ k < 22 by omega, q2]
        · exact Or.inr (by omega))]
  | 7, _, _, key => simp only [plantC, key 8 rfl (by omega), key 9 rfl (by omega), key 10 rfl (by omega), key 11 rfl (by omega), key 12 rfl (by omega)]
  | i + 8, hi, h, _ =>
    have key2 : ∀ f : Nat, f < 7 → up y k v (30 + 7 * i + f) = y (30 + 7 * i + f) := fun f hf => up_ne y v (fun e => h (by
      subst e
      unfold hm
      simp [show ¬ 30 + 7 * i + f < 6 by omega, show ¬ 30 + 7 * i + f < 8 by omega, show ¬ 30 + 7 * i + f < 13 by omega, show ¬ 30 + 7 * i + f < 18 by omega, show ¬ (30 + 7 * i + f = 18 ∨ 30 + 7 * i + f = 20) by omega, show ¬ 30 + 7 * i + f < 22 by omega, show ¬ 30 + 7 * i + f < 30 by omega]
      simp [show 30 + 7 * i + f < 65 by omega]
      omega))
    simp only [plantC, key2 1 (by omega), key2 2 (by omega), key2 3 (by omega), key2 4 (by omega), key2 5 (by omega), key2 6 (by omega)]
    rw [show up y k v (30 + 7 * i) = y (30 + 7 * i) from key2 0 (by omega)]
/-- the cells ahead of the first plant -/
def fixA (G : GG) (C : Mem) : Nat → va_E
  | 0 => .inr (8, [.ref (bb G + 1), .ref (bb G + 6), .ref (bb G + 19), .ref (bb G + 32), .ref (bb G + 216), .ref (bb G + 230)])
  | 1 => .inr (4, [.ref (bb G + 2), .int (C 18 1), .int (C 18 2), .int (C 18 3), .int (C 18 4), .int (C 18 5), .ref (bb G + 3), .ref (bb G + 4), .ref (bb G + 5), .int (C 18 9), .int (C 18 10)])
  | 2 => .inl (G.2.1 0, 60, .inl (tr 60 (C 19)))
  | 3 => .inl (G.2.1 0, 5, .inl (tr 5 (C 20)))
  | 4 => .inl (G.2.1 0, 5, .inl (tr 5 (C 21)))
  | _ => .inl (G.2.1 0, 8, .inl (tr 8 (C 22)))
def fixB (G : GG) (C : Mem) (a : Nat) : va_E :=
  if a = 32 then .inr (2, [.ref (bb G + 33), .int (C 23 1), .int (C 23 2)])
  else .inl (G.2.1 3, 14, .inr (.inr (.inr (.inr (fun j => some (bb G + (34 + 13 * j)))))))
def cellAt (G : GG) (C : Mem) (a : Nat) : va_E :=
  if a < 6 then fixA G C a
  else if a < 19 then plantC G 6 (C 0) (a - 6)
  else if a < 32 then plantC G 19 (C 1) (a - 19)
  else if a < 34 then fixB G C a
  else if a < 216 then plantC G (34 + 13 * ((a - 34) / 13)) (C (2 + (a - 34) / 13)) ((a - 34) % 13)
  else if a = 216 then .inr (6, [.ref (bb G + 217), .int (C 24 0)])
  else if a < 230 then plantC G 217 (C 16) (a - 217)
  else if a = 230 then .inr (6, [.ref (bb G + 231), .int (C 24 1)])
  else plantC G 231 (C 17) (a - 231)
theorem po_lt {q : Nat} (h : q < 18) : po q + 13 ≤ 244 ∧ 6 ≤ po q := by
  unfold po
  split
  · omega
  · split
    · omega
    · split
      · omega
      · split <;> omega
theorem cell_plant (G : GG) (C : Mem) {q j : Nat} (h : q < 18) (hj : j < 13) : cellAt G C (po q + j) = plantC G (po q) (C q) j := by
  by_cases h0 : q = 0
  · subst h0
    show cellAt G C (6 + j) = plantC G 6 (C 0) j
    unfold cellAt
    rw [if_neg (by omega), if_pos (by omega), show 6 + j - 6 = j by omega]
  by_cases h1 : q = 1
  · subst h1
    show cellAt G C (19 + j) = plantC G 19 (C 1) j
    unfold cellAt
    rw [if_neg (by omega), if_neg (by omega), if_pos (by omega), show 19 + j - 19 = j by omega]
  by_cases h2 : q < 16
  · have e : po q = 34 + 13 * (q - 2) := by unfold po; rw [if_neg h0, if_neg h1, if_pos h2]
    rw [e]
    unfold cellAt
    rw [if_neg (by omega), if_neg (by omega), if_neg (by omega), if_neg (by omega), if_pos (by omega)]
    rw [show (34 + 13 * (q - 2) + j - 34) / 13 = q - 2 by omega, show (34 + 13 * (q - 2) + j - 34) % 13 = j by omega, show 2 + (q - 2) = q by omega]
  by_cases h3 : q = 16
  · subst h3
    show cellAt G C (217 + j) = plantC G 217 (C 16) j
    unfold cellAt
    rw [if_neg (by omega), if_neg (by omega), if_neg (by omega), if_neg (by omega), if_neg (by omega), if_neg (by omega), if_pos (by omega), show 217 + j - 217 = j by omega]
  · have e : q = 17 := by omega
    subst e
    show cellAt G C (231 + j) = plantC G 231 (C 17) j
    unfold cellAt
    rw [if_neg (by omega), if_neg (by omega), if_neg (by omega), if_neg (by omega), if_neg (by omega), if_neg (by omega), if_neg (by omega), if_neg (by omega), show 231 + j - 231 = j by omega]
/-- a write at a place of a plant changes one cell -/
theorem cell_muP (G : GG) (C : Mem) {q k : Nat} (v : Int32) (h : q < 18) (hk : k ≤ 66) (a : Nat) (ha2 : a < 244) (ha : a ≠ po q + hm k) : cellAt G (mu C q k v) a = cellAt G C a := by
  have far : ∀ r : Nat, 18 ≤ r → mu C q k v r = C r := fun r hr => mu_ne C k v (by omega)
  have pl : ∀ (r o j : Nat), j < 13 → (r = q → j ≠ hm k) → plantC G o (mu C q k v r) j = plantC G o (C r) j := by
    intro r o j hj hne
    by_cases e : r = q
    · subst e
      rw [mu_same]
      exact plantC_other G o (C r) k v j hj hk (hne rfl)
    · rw [mu_ne C k v e]
  unfold cellAt
  by_cases c1 : a < 6
  · rw [if_pos c1, if_pos c1]
    match a, c1 with
    | 0, _ => rfl
    | 1, _ => simp only [fixA, far 18 (by omega)]
    | 2, _ => simp only [fixA, far 19 (by omega)]
    | 3, _ => simp only [fixA, far 20 (by omega)]
    | 4, _ => simp only [fixA, far 21 (by omega)]
    | 5, _ => simp only [fixA, far 22 (by omega)]
  rw [if_neg c1, if_neg c1]
  by_cases c2 : a < 19
  · rw [if_pos c2, if_pos c2]
    exact pl 0 _ _ (by omega) (fun e z => ha (by rw [← e]; show a = 6 + _; omega))
  rw [if_neg c2, if_neg c2]
  by_cases c3 : a < 32
  · rw [if_pos c3, if_pos c3]
    exact pl 1 _ _ (by omega) (fun e z => ha (by rw [← e]; show a = 19 + _; omega))
  rw [if_neg c3, if_neg c3]
  by_cases c4 : a < 34
  · rw [if_pos c4, if_pos c4]
    unfold fixB
    rw [far 23 (by omega)]
  rw [if_neg c4, if_neg c4]
  by_cases c5 : a < 216
  · rw [if_pos c5, if_pos c5]
    refine pl _ _ _ (by omega) (fun e z => ha ?_)
    have e2 : po q = 34 + 13 * (q - 2) := by unfold po; rw [if_neg (by omega), if_neg (by omega), if_pos (by omega)]
    rw [e2]; omega
  rw [if_neg c5, if_neg c5]
  by_cases c6 : a = 216
  · rw [if_pos c6, if_pos c6, far 24 (by omega)]
  rw [if_neg c6, if_neg c6]
  by_cases c7 : a < 230
  · rw [if_pos c7, if_pos c7]
    exact pl 16 _ _ (by omega) (fun e z => ha (by rw [← e]; show a = 217 + _; omega))
  rw [if_neg c7, if_neg c7]
  by_cases c8 : a = 230
  · rw [if_pos c8, if_pos c8, far 24 (by omega)]
  rw [if_neg c8, if_neg c8]
  exact pl 17 _ _ (by omega) (fun e z => ha (by rw [← e]; show a = 231 + _; omega))
/-- where a place of the other regions lies -/
def hmF (r k : Nat) : Nat := if r = 18 then 1 else if r = 19 then 2 else if r = 20 then 3 else if r = 21 then 4 else if r = 22 then 5 else if r = 23 then 32 else (if k = 0 then 216 else 230)
theorem cell_muF (G : GG) (C : Mem) {r k : Nat} (v : Int32) (h : 18 ≤ r) (hk : r = 24 → k ≤ 1) (a : Nat) (ha2 : a < 244) (ha : a ≠ hmF r k) : cellAt G (mu C r k v) a = cellAt G C a := by
  have near : ∀ q : Nat, q < 18 → mu C r k v q = C q := fun q hq => mu_ne C k v (by omega)
  have oth : ∀ q : Nat, q ≠ r → mu C r k v q = C q := fun q hq => mu_ne C k v hq
  unfold cellAt
  by_cases c1 : a < 6
  · rw [if_pos c1, if_pos c1]
    match a, c1, ha with
    | 0, _, _ => rfl
    | 1, _, ha => simp only [fixA, oth 18 (fun e => ha (by rw [← e]; rfl))]
    | 2, _, ha => simp only [fixA, oth 19 (fun e => ha (by rw [← e]; rfl))]
    | 3, _, ha => simp only [fixA, oth 20 (fun e => ha (by rw [← e]; rfl))]
    | 4, _, ha => simp only [fixA, oth 21 (fun e => ha (by rw [← e]; rfl))]
    | 5, _, ha => simp only [fixA, oth 22 (fun e => ha (by rw [← e]; rfl))]
  rw [if_neg c1, if_neg c1, near 0 (by omega), near 1 (by omega), near 16 (by omega), near 17 (by omega)]
  by_cases c2 : a < 19
  · rw [if_pos c2, if_pos c2]
  rw [if_neg c2, if_neg c2]
  by_cases c3 : a < 32
  · rw [if_pos c3, if_pos c3]
  rw [if_neg c3, if_neg c3]
  by_cases c4 : a < 34
  · rw [if_pos c4, if_pos c4]
    unfold fixB
    by_cases d : a = 32
    · rw [if_pos d, if_pos d, oth 23 (fun e => ha (by rw [← e, d]; rfl))]
    · rw [if_neg d, if_neg d]
  rw [if_neg c4, if_neg c4]
  by_cases c5 : a < 216
  · rw [if_pos c5, if_pos c5, near _ (by omega)]
  rw [if_neg c5, if_neg c5]
  have s24 : ∀ i : Nat, i ≤ 1 → a = (if i = 0 then 216 else 230) → mu C r k v 24 i = C 24 i := by
    intro i hi hai
    by_cases e : (24 : Nat) = r
    · subst e
      rw [mu_same]
      refine up_ne _ _ (fun z => ha ?_)
      rw [← z, hai]; rfl
    · rw [oth 24 e]
  by_cases c6 : a = 216
  · rw [if_pos c6, if_pos c6, s24 0 (by omega) c6]
  rw [if_neg c6, if_neg c6]
  by_cases c7 : a < 230
  · rw [if_pos c7, if_pos c7]
  rw [if_neg c7, if_neg c7]
  by_cases c8 : a = 230
  · rw [if_pos c8, if_pos c8, s24 1 (by omega) c8]
  rw [if_neg c8, if_neg c8]
