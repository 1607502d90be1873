/-! ticks: the boilers of one tick, together -/
section TLOOP
variable {C D : Mem} {N Y K : Nat} {y z : Pg} {F : Nat → Int32} {i : Nat}
def tBg (y z : Pg) (i : Nat) : Int32 := if z (30 + 7 * i + 5) = y (30 + 7 * i + 5) + 1 then 1 else 0
def tFi (y z : Pg) (i : Nat) : Int32 := if z (30 + 7 * i + 4) = y (30 + 7 * i + 4) + 1 then 1 else 0
def tRs (y z : Pg) (i : Nat) : Int32 := if y (30 + 7 * i + 2) = 2 ∧ z (30 + 7 * i + 2) = 3 then 1 else 0
def tPi (y z : Pg) (i : Nat) : Int32 := if tFi y z i = 0 then 0 else z (30 + 7 * i)
/-- the row is the page's -/
def tRow (N : Nat) (y : Pg) (F : Nat → Int32) : Prop := ∀ i, i < N → F (4 * i) = y (30 + 7 * i + 2) ∧ F (4 * i + 1) = y (30 + 7 * i + 5) ∧ F (4 * i + 2) = y (30 + 7 * i + 4) ∧ F (4 * i + 3) = y (30 + 7 * i + 6)
theorem tqc {a a' bg w : Int32} (e0 : F (4 * i) = a) (e2 : z (30 + 7 * i + 2) = a') (l : (a = 3 → bg = 0 → a' = 3) ∧ (a = 4 → a' = 4) ∧ (bg = 0 ∨ a = 0 ∨ a = 3) ∧ (w = if a = 2 then (if a' = 2 then 1 else 0) else if a = 3 then (if bg = 0 then 0 else 1) else 0)) (e6 : z (30 + 7 * i + 6) - F (4 * i + 3) = if w = 0 then (if a' = 3 then 1 else 0) else z (30 + 7 * i)) (e4 : w = 0 → z (30 + 7 * i + 4) = F (4 * i + 2)) (e5 : bg = 0 → z (30 + 7 * i + 5) = F (4 * i + 1)) : tq F i bg w z := by
  unfold tq
  rw [e0, e2]
  exact ⟨l.1, l.2.1, l.2.2.1, e6, l.2.2.2, e4, e5⟩
theorem sb0 (u : Int32) : u + 0 - u = 0 := by grind
theorem sb1 (u v : Int32) : u + v - u = v := by grind
/-- what a tick does to a boiler, all its cases: a before, b after -/
theorem tq_v (e : F (4 * i) = y (30 + 7 * i + 2) ∧ F (4 * i + 1) = y (30 + 7 * i + 5) ∧ F (4 * i + 2) = y (30 + 7 * i + 4) ∧ F (4 * i + 3) = y (30 + 7 * i + 6)) {a b bg w q : Int32} (ha : y (30 + 7 * i + 2) = a) (hb : z (30 + 7 * i + 2) = b) (h5 : z (30 + 7 * i + 5) = y (30 + 7 * i + 5) + bg) (h4 : z (30 + 7 * i + 4) = y (30 + 7 * i + 4) + w) (h6 : z (30 + 7 * i + 6) = y (30 + 7 * i + 6) + q) (hbg : bg = 0 ∨ bg = 1) (hw : w = 0 ∨ w = 1) (hq : q = if w = 0 then (if b = 3 then 1 else 0) else z (30 + 7 * i)) (l : (a = 3 → bg = 0 → b = 3) ∧ (a = 4 → b = 4) ∧ (bg = 0 ∨ a = 0 ∨ a = 3) ∧ (w = if a = 2 then (if b = 2 then 1 else 0) else if a = 3 then (if bg = 0 then 0 else 1) else 0)) : tBg y z i = bg ∧ tFi y z i = w ∧ tRs y z i = (if a = 2 ∧ b = 3 then 1 else 0) ∧ tq F i bg w z := by
  obtain ⟨f0, f1, f2, f3⟩ := e
  refine ⟨?_, ?_, ?_, tqc (f0.trans ha) hb l ?_ (fun c => ?_) (fun c => ?_)⟩
  · unfold tBg
    rw [h5]
    rcases hbg with c | c
    · rw [c, Int32.add_zero, if_neg (ne_s _)]
    · rw [c, if_pos rfl]
  · unfold tFi
    rw [h4]
    rcases hw with c | c
    · rw [c, Int32.add_zero, if_neg (ne_s _)]
    · rw [c, if_pos rfl]
  · unfold tRs
    rw [ha, hb]
  · rw [h6, f3, sb1, hq]
  · rw [h4, c, Int32.add_zero, f2]
  · rw [h5, c, Int32.add_zero, f1]
theorem tk_tq (h1 : 1 ≤ Y) (h8 : Y ≤ 8) (d : Nat) (w : WF N Y K y) (hi : i < N) (e : F (4 * i) = y (30 + 7 * i + 2) ∧ F (4 * i + 1) = y (30 + 7 * i + 5) ∧ F (4 * i + 2) = y (30 + 7 * i + 4) ∧ F (4 * i + 3) = y (30 + 7 * i + 6)) : tq F i (tBg y (tk N Y d y) i) (tFi y (tk N Y d y) i) (tk N Y d y) ∧ tPi y (tk N Y d y) i = wkV (wD N Y d y) i ∧ (Bst y (wD N Y d y) i → tBg y (tk N Y d y) i = 1 ∧ tRs y (tk N Y d y) i = 0) ∧ (Brs y (wD N Y d y) i → tBg y (tk N Y d y) i = 0 ∧ tRs y (tk N Y d y) i = 1) ∧ (Bsm y (wD N Y d y) i → tBg y (tk N Y d y) i = 0 ∧ tRs y (tk N Y d y) i = 0) := by
  have hs := (w.2.2.2.2.2.2 i hi).2.2.1
  have hb := bo_i (N := N) (Y := Y) (y := y) h8 d i
  have v0 : tk N Y d y (30 + 7 * i) = wD N Y d y (30 + 7 * i) := (tk_b h1 h8 d hi (f := 0) (by decide)).trans (wk_o (f := 0) (by decide) (by decide) (by decide) (by decide) (by decide))
  have v2 := (tk_b (y := y) h1 h8 d hi (f := 2) (by decide)).trans wk_2
  have v4 := (tk_b (y := y) h1 h8 d hi (f := 4) (by decide)).trans wk_4
  have v5 := (tk_b (y := y) h1 h8 d hi (f := 5) (by decide)).trans (wk_o (by decide) (by decide) (by decide) (by decide) (by decide))
  have v6 := (tk_b (y := y) h1 h8 d hi (f := 6) (by decide)).trans wk_6
  generalize tk N Y d y = z at *
  generalize wD N Y d y = x at *
  -- the conclusion, once the case is known
  have fin : ∀ a b bg w q : Int32, y (30 + 7 * i + 2) = a → z (30 + 7 * i + 2) = b → z (30 + 7 * i + 5) = y (30 + 7 * i + 5) + bg → z (30 + 7 * i + 4) = y (30 + 7 * i + 4) + w → z (30 + 7 * i + 6) = y (30 + 7 * i + 6) + q → (bg = 0 ∨ bg = 1) → (w = 0 ∨ w = 1) → (q = if w = 0 then (if b = 3 then 1 else 0) else z (30 + 7 * i)) → ((a = 3 → bg = 0 → b = 3) ∧ (a = 4 → b = 4) ∧ (bg = 0 ∨ a = 0 ∨ a = 3) ∧ (w = if a = 2 then (if b = 2 then 1 else 0) else if a = 3 then (if bg = 0 then 0 else 1) else 0)) → (w = if x (30 + 7 * i + 2) = 2 then 1 else 0) → tq F i (tBg y z i) (tFi y z i) z ∧ tPi y z i = wkV x i ∧ tBg y z i = bg ∧ tRs y z i = (if a = 2 ∧ b = 3 then 1 else 0) := fun a b bg w q g1 g2 g3 g4 g5 g6 g7 g8 g9 g10 => by
    obtain ⟨r1, r2, r3, r4⟩ := tq_v e g1 g2 g3 g4 g5 g6 g7 g8 g9
    refine ⟨by rw [r1, r2]; exact r4, ?_, r1, r3⟩
    unfold tPi wkV
    rw [r2, v0, g10]
    by_cases c : x (30 + 7 * i + 2) = 2
    · rw [if_pos c, if_pos c, if_neg (by decide)]
    · rw [if_neg c, if_neg c, if_pos rfl]
  have ze : z (30 + 7 * i) = x (30 + 7 * i) := v0
  -- by x's state
  have x2f : ∀ c : Int32, x (30 + 7 * i + 2) = c → c ≠ 1 → z (30 + 7 * i + 2) = c := fun c q n => by rw [v2, q, if_neg (fun r => n r.1)]
  have hot : ∀ a bg : Int32, y (30 + 7 * i + 2) = a → x (30 + 7 * i + 2) = 2 → x (30 + 7 * i + 5) = y (30 + 7 * i + 5) + bg → x (30 + 7 * i + 4) = y (30 + 7 * i + 4) → x (30 + 7 * i + 6) = y (30 + 7 * i + 6) → (bg = 0 ∨ bg = 1) → ((a = 3 → bg = 0 → (2 : Int32) = 3) ∧ (a = 4 → (2 : Int32) = 4) ∧ (bg = 0 ∨ a = 0 ∨ a = 3) ∧ ((1 : Int32) = if a = 2 then (if (2 : Int32) = 2 then 1 else 0) else if a = 3 then (if bg = 0 then 0 else 1) else 0)) → tq F i (tBg y z i) (tFi y z i) z ∧ tPi y z i = wkV x i ∧ tBg y z i = bg ∧ tRs y z i = (if a = 2 ∧ (2 : Int32) = 3 then 1 else 0) := fun a bg ha h2 q5 q4 q6 hbg l =>
    fin a 2 bg 1 (z (30 + 7 * i)) ha (x2f 2 h2 (by decide)) (v5.trans q5) (by rw [v4, h2, if_pos rfl, q4]) (by rw [v6, h2, if_pos rfl, q6, ze]) hbg (Or.inr rfl) (if_neg (by decide)).symm l (by rw [h2, if_pos rfl])
  have cold : ∀ a b bg q : Int32, y (30 + 7 * i + 2) = a → ¬ x (30 + 7 * i + 2) = 2 → z (30 + 7 * i + 2) = b → (q = if x (30 + 7 * i + 2) = 3 then 1 else 0) → (q = if b = 3 then 1 else 0) → x (30 + 7 * i + 5) = y (30 + 7 * i + 5) + bg → x (30 + 7 * i + 4) = y (30 + 7 * i + 4) → x (30 + 7 * i + 6) = y (30 + 7 * i + 6) → (bg = 0 ∨ bg = 1) → ((a = 3 → bg = 0 → b = 3) ∧ (a = 4 → b = 4) ∧ (bg = 0 ∨ a = 0 ∨ a = 3) ∧ ((0 : Int32) = if a = 2 then (if b = 2 then 1 else 0) else if a = 3 then (if bg = 0 then 0 else 1) else 0)) → tq F i (tBg y z i) (tFi y z i) z ∧ tPi y z i = wkV x i ∧ tBg y z i = bg ∧ tRs y z i = (if a = 2 ∧ b = 3 then 1 else 0) := fun a b bg q ha h2 hb hq hq' q5 q4 q6 hbg l =>
    fin a b bg 0 q ha hb (v5.trans q5) (by rw [v4, if_neg h2, q4]) (by rw [v6, if_neg h2, q6, ← hq]) hbg (Or.inl rfl) (by rw [if_pos rfl]; exact hq') l (by rw [if_neg h2])
  have z1 : x (30 + 7 * i + 2) = 1 → z (30 + 7 * i + 2) = 2 ∨ z (30 + 7 * i + 2) = 1 := fun q => by
    rw [v2, q]
    by_cases c : ¬ 0 < x (30 + 7 * i + 3) - 1
    · rw [if_pos ⟨rfl, c⟩]; exact Or.inl rfl
    · rw [if_neg (fun r => c r.2)]; exact Or.inr rfl
  have k1 : ∀ {P Q : Prop}, ¬ P → P → Q := fun n q => absurd q n
  rcases hb with hB | hB | hB
  · have nR : ¬ Brs y x i := fun r => ne_s _ (r.2.2.1.symm.trans hB.2.2.1)
    have nM : ¬ Bsm y x i := fun r => ne_s _ (r.2.1.symm.trans hB.2.2.1)
    obtain ⟨ht, p2, p5, p0, p4, p6⟩ := hB
    have g : tq F i (tBg y z i) (tFi y z i) z ∧ tPi y z i = wkV x i ∧ tBg y z i = 1 ∧ tRs y z i = 0 := by
      rcases ht with t | t
      · rw [t, if_neg (by decide)] at p2
        have x2n : ¬ x (30 + 7 * i + 2) = 2 := by rw [p2]; decide
        rcases z1 p2 with b | b
        · exact cold 0 2 1 0 t x2n b (by rw [p2]; decide) (by decide) p5 p4 p6 (Or.inr rfl) (by decide)
        · exact cold 0 1 1 0 t x2n b (by rw [p2]; decide) (by decide) p5 p4 p6 (Or.inr rfl) (by decide)
      · rw [t, if_pos rfl] at p2
        exact hot 3 1 t p2 p5 p4 p6 (Or.inr rfl) (by decide)
    exact ⟨g.1, g.2.1, fun _ => g.2.2, k1 nR, k1 nM⟩
  · have nS : ¬ Bst y x i := fun r => ne_s _ (hB.2.2.1.symm.trans r.2.2.1)
    have nM : ¬ Bsm y x i := fun r => absurd (hB.2.1.symm.trans (r.1.trans hB.1)) (by decide)
    obtain ⟨t, p2, p5, p0, p4, p6⟩ := hB
    have g := cold 2 3 0 1 t (by rw [p2]; decide) (x2f 3 p2 (by decide)) (by rw [p2]; decide) (by decide) (p5.trans (Int32.add_zero _).symm) p4 p6 (Or.inl rfl) (by decide)
    exact ⟨g.1, g.2.1, k1 nS, fun _ => g.2.2, k1 nM⟩
  · have nS : ¬ Bst y x i := fun r => ne_s _ (hB.2.1.symm.trans r.2.2.1)
    have nR : ¬ Brs y x i := fun r => absurd (r.2.1.symm.trans (hB.1.trans r.1)) (by decide)
    obtain ⟨p2, p5, p0, p4, p6⟩ := hB
    have p5' := p5.trans (Int32.add_zero _).symm
    have g : tq F i (tBg y z i) (tFi y z i) z ∧ tPi y z i = wkV x i ∧ tBg y z i = 0 ∧ tRs y z i = 0 := by
      rcases hs with t | t | t | t | t
      · rw [t] at p2
        exact cold 0 0 0 0 t (by rw [p2]; decide) (x2f 0 p2 (by decide)) (by rw [p2]; decide) (by decide) p5' p4 p6 (Or.inl rfl) (by decide)
      · rw [t] at p2
        have x2n : ¬ x (30 + 7 * i + 2) = 2 := by rw [p2]; decide
        rcases z1 p2 with b | b
        · exact cold 1 2 0 0 t x2n b (by rw [p2]; decide) (by decide) p5' p4 p6 (Or.inl rfl) (by decide)
        · exact cold 1 1 0 0 t x2n b (by rw [p2]; decide) (by decide) p5' p4 p6 (Or.inl rfl) (by decide)
      · rw [t] at p2
        exact hot 2 0 t p2 p5' p4 p6 (Or.inl rfl) (by decide)
      · rw [t] at p2
        exact cold 3 3 0 1 t (by rw [p2]; decide) (x2f 3 p2 (by decide)) (by rw [p2]; decide) (by decide) p5' p4 p6 (Or.inl rfl) (by decide)
      · rw [t] at p2
        exact cold 4 4 0 0 t (by rw [p2]; decide) (x2f 4 p2 (by decide)) (by rw [p2]; decide) (by decide) p5' p4 p6 (Or.inl rfl) (by decide)
    exact ⟨g.1, g.2.1, k1 nS, k1 nR, fun _ => g.2.2⟩
end TLOOP
