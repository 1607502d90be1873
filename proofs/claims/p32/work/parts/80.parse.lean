/-! a text as the law writes it: what reading its beginnings tells -/
section PARSE
variable {x : Pg} {T : Nat}
theorem dg_k {a b c p : Nat} (hx : x p = nI (48 + c)) (hp : p < T) (ha : a ≤ c) (hb : c ≤ b) (h9 : b ≤ 9) : dgP x T a b p = .inr (c, p + 1) := by
  have e : x p - 48 = nI c := by
    rw [hx, ← nI_ad 48 c]
    show (48 + nI c) - 48 = nI c
    grind
  rw [dg_t ⟨hp, by rw [e]; exact nI_le ha (by omega), by rw [e]; exact nI_le hb (by omega)⟩, e, ti c (by omega)]
  rfl
theorem tw_k {a b c p : Nat} (hx : x p = nI (48 + c / 10)) (hy : x (p + 1) = nI (48 + c % 10)) (hp : p + 1 < T) (ha : a ≤ c) (hb : c ≤ b) (h99 : b ≤ 99) : twP x T a b p = .inr (c, p + 2) := by
  unfold twP
  rw [dg_k (c := c / 10) hx (by omega) (by omega) (by omega) (by omega), pb_r, dg_k (c := c % 10) hy hp (by split <;> omega) (by split <;> omega) (by split <;> omega), pb_r, show 10 * (c / 10) + c % 10 = c by omega]
theorem tw_f {a b p : Nat} (hp : ¬ p < T) : twP x T a b p = .inl p := by
  unfold twP
  rw [dg_f (fun q => hp q.1), pb_l]
theorem bo_k {a f p : Nat} (h0 : x p = 98) (h1 : x (p + 1) = nI (48 + a / 10)) (h2 : x (p + 2) = nI (48 + a % 10)) (h3 : x (p + 3) = nI (48 + f)) (hp : p + 3 < T) (a1 : 1 ≤ a) (a2 : a ≤ 30) (hf : f ≤ 1) : boP x T p = .inr ((a, f), p + 4) := by
  unfold boP
  rw [sg_t ⟨by omega, h0⟩, pb_r, tw_k (c := a) h1 h2 (by omega) a1 a2 (by decide), pb_r, dg_k (c := f) h3 (by omega) (by omega) hf (by decide), pb_r]
theorem bo_1 {p : Nat} (h0 : x p = 98) (hp : T = p + 1) : boP x T p = .inl (p + 1) := by
  unfold boP
  rw [sg_t ⟨by omega, h0⟩, pb_r, tw_f (by omega), pb_l]
theorem bo_3 {a p : Nat} (h0 : x p = 98) (h1 : x (p + 1) = nI (48 + a / 10)) (h2 : x (p + 2) = nI (48 + a % 10)) (hp : T = p + 3) (a1 : 1 ≤ a) (a2 : a ≤ 30) : boP x T p = .inl (p + 3) := by
  unfold boP
  rw [sg_t ⟨by omega, h0⟩, pb_r, tw_k (c := a) h1 h2 (by omega) a1 a2 (by decide), pb_r, dg_f (fun q => absurd q.1 (by omega)), pb_l]
/-- m boilers told -/
def BL (x : Pg) (a f : Nat → Nat) (m : Nat) : Prop := ∀ i, i < m → x (6 + 4 * i) = 98 ∧ x (6 + 4 * i + 1) = nI (48 + a i / 10) ∧ x (6 + 4 * i + 2) = nI (48 + a i % 10) ∧ x (6 + 4 * i + 3) = nI (48 + f i)
theorem bl_go {a f : Nat → Nat} (ra : ∀ i, 1 ≤ a i ∧ a i ≤ 30) (rf : ∀ i, f i ≤ 1) {m : Nat} (hm : m ≤ 5) (hT : 6 + 4 * m ≤ T) (hb : BL x a f m) : ∀ (k i : Nat) (c : Nat → Nat × Nat), i + k = 5 → i ≤ m → ((¬ (6 + 4 * m < T ∧ x (6 + 4 * m) = 98) ∨ m = 5) → ∃ c', blP x T k i c (6 + 4 * i) = .inr ((m, c'), 6 + 4 * m)) ∧ (m < 5 → 6 + 4 * m < T → x (6 + 4 * m) = 98 → ∀ e, boP x T (6 + 4 * m) = .inl e → blP x T k i c (6 + 4 * i) = .inl e)
  | 0, i, c, hi, him => by
    have : i = m := by omega
    subst this
    refine ⟨fun _ => ⟨c, rfl⟩, fun h => by omega⟩
  | k + 1, i, c, hi, him => by
    by_cases q : i = m
    · subst q
      refine ⟨fun h => ?_, fun _ h1 h2 e he => ?_⟩
      · unfold blP
        rw [if_neg (h.resolve_right (by omega))]
        exact ⟨c, rfl⟩
      · unfold blP
        rw [if_pos ⟨h1, h2⟩, he, pb_l]
    · obtain ⟨b0, b1, b2, b3⟩ := hb i (by omega)
      have g := bl_go ra rf hm hT hb k (i + 1) (fun j => if j = i then (a i, f i) else c j) (by omega) (by omega)
      have e : blP x T (k + 1) i c (6 + 4 * i) = blP x T k (i + 1) (fun j => if j = i then (a i, f i) else c j) (6 + 4 * (i + 1)) := by
        show (if 6 + 4 * i < T ∧ x (6 + 4 * i) = 98 then pbind (boP x T (6 + 4 * i)) (fun o e => blP x T k (i + 1) (fun j => if j = i then o else c j) e) else _) = _
        rw [if_pos ⟨by omega, b0⟩, bo_k b0 b1 b2 b3 (by omega) (ra i).1 (ra i).2 (rf i), pb_r]
        rfl
      rw [e]
      exact g
def HDR (x : Pg) (v d0 d1 : Nat) : Prop := x 0 = 72 ∧ x 1 = nI (48 + v) ∧ x 2 = nI (48 + d0 / 10) ∧ x 3 = nI (48 + d0 % 10) ∧ x 4 = nI (48 + d1 / 10) ∧ x 5 = nI (48 + d1 % 10)
theorem r1_k (h0 : x 0 = 72) (hT : 0 < T) : r1 x T = .inr (0, 1) := sg_t ⟨hT, h0⟩
theorem r3_k {v d0 : Nat} (h0 : x 0 = 72) (h1 : x 1 = nI (48 + v)) (h2 : x 2 = nI (48 + d0 / 10)) (h3 : x 3 = nI (48 + d0 % 10)) (hT : 4 ≤ T) (v2 : 2 ≤ v) (v8 : v ≤ 8) (hd : d0 ≤ 99) : r3 x T = .inr ((v, d0), 4) := by
  unfold r3 r2
  rw [r1_k h0 (by omega), pb_r, dg_k (c := v) h1 (by omega) v2 v8 (by decide), pb_r, tw_k (c := d0) h2 h3 (by omega) (by omega) hd (by decide), pb_r]
theorem r4_k {v d0 d1 : Nat} (h : HDR x v d0 d1) (hT : 6 ≤ T) (v2 : 2 ≤ v) (v8 : v ≤ 8) (h0 : d0 ≤ 99) (h1 : d1 ≤ 99) : r4 x T = .inr (((v, d0), d1), 6) := by
  unfold r4
  rw [r3_k h.1 h.2.1 h.2.2.1 h.2.2.2.1 (by omega) v2 v8 h0, pb_r, tw_k (c := d1) h.2.2.2.2.1 h.2.2.2.2.2 (by omega) (by omega) h1 (by decide), pb_r]
theorem rd_4 {e : Nat} (h : r4 x T = .inl e) : rd x T = .inl e := by
  unfold rd r7 r6 r5
  rw [h]
  rfl
theorem rd_h1 (h0 : x 0 = 72) : rd x 1 = .inl 1 := rd_4 (by
  unfold r4 r3 r2
  rw [r1_k h0 (by decide), pb_r, dg_f (fun q => absurd q.1 (by omega))]
  rfl)
theorem rd_h4 {v d0 : Nat} (h0 : x 0 = 72) (h1 : x 1 = nI (48 + v)) (h2 : x 2 = nI (48 + d0 / 10)) (h3 : x 3 = nI (48 + d0 % 10)) (v2 : 2 ≤ v) (v8 : v ≤ 8) (hd : d0 ≤ 99) : rd x 4 = .inl 4 := rd_4 (by
  unfold r4
  rw [r3_k h0 h1 h2 h3 (by omega) v2 v8 hd, pb_r, tw_f (by omega), pb_l])
theorem rd_bl {h : (Nat × Nat) × Nat} (h4 : r4 x T = .inr (h, 6)) : rd x T = match pbind (if 6 < T ∧ x 6 = 98 then blP x T 5 0 (fun _ => (0, 0)) 6 else .inl 6) (fun b e => pbind (ttP x T h.1.1 e) fun t e => (.inr (((h, b), t), e) : Nat ⊕ (TC × Nat))) with
    | .inl e => .inl e
    | .inr o => if o.2 < T then .inl o.2 else .inr o.1 := by
  rw [← bl_5]
  unfold rd r7 r6 r5
  rw [h4, pb_r]
  cases h5 : boP x T 6 with
  | inl e => rfl
  | inr o =>
    obtain ⟨o1, o2⟩ := o
    simp only [pb_r]
    cases h6 : blP x T 4 1 (fun j => if j = 0 then o1 else (0, 0)) o2 with
    | inl e => rfl
    | inr o => rfl
theorem rd_h6 {v d0 d1 : Nat} (h : HDR x v d0 d1) (v2 : 2 ≤ v) (v8 : v ≤ 8) (h0 : d0 ≤ 99) (h1 : d1 ≤ 99) : rd x 6 = .inl 6 := by
  rw [rd_bl (r4_k h (by omega) v2 v8 h0 h1), if_neg (fun q => absurd q.1 (by omega))]
  rfl
section REST
variable {v d0 d1 : Nat} {a f : Nat → Nat} {m : Nat}
/-- an unfinished boiler -/
theorem rd_be (h : HDR x v d0 d1) (v2 : 2 ≤ v) (v8 : v ≤ 8) (h0 : d0 ≤ 99) (h1 : d1 ≤ 99) (ra : ∀ i, 1 ≤ a i ∧ a i ≤ 30) (rf : ∀ i, f i ≤ 1) (hm : m < 5) (hb : BL x a f m) (hT : 6 + 4 * m < T) (hx : x (6 + 4 * m) = 98) {e : Nat} (he : boP x T (6 + 4 * m) = .inl e) : rd x T = .inl e := by
  have hx6 : x 6 = 98 := by
    by_cases q : m = 0
    · rw [q] at hx; exact hx
    · exact (hb 0 (by omega)).1
  rw [rd_bl (r4_k h (by omega) v2 v8 h0 h1), if_pos ⟨by omega, hx6⟩, (bl_go ra rf (by omega) (by omega) hb 5 0 (fun _ => (0, 0)) rfl (by omega)).2 hm hT hx e he]
  rfl
/-- the boilers done: what the rest tells -/
theorem rd_bk (h : HDR x v d0 d1) (v2 : 2 ≤ v) (v8 : v ≤ 8) (h0 : d0 ≤ 99) (h1 : d1 ≤ 99) (ra : ∀ i, 1 ≤ a i ∧ a i ≤ 30) (rf : ∀ i, f i ≤ 1) (hm1 : 1 ≤ m) (hm : m ≤ 5) (hb : BL x a f m) (hT : 6 + 4 * m ≤ T) (hx : ¬ (6 + 4 * m < T ∧ x (6 + 4 * m) = 98)) : ∃ c', (∀ e, ttP x T v (6 + 4 * m) = .inl e → rd x T = .inl e) ∧ ∀ t e, ttP x T v (6 + 4 * m) = .inr (t, e) → rd x T = if e < T then .inl e else .inr ((((v, d0), d1), (m, c')), t) := by
  obtain ⟨c', hc⟩ := (bl_go ra rf hm hT hb 5 0 (fun _ => (0, 0)) rfl (by omega)).1 (Or.inl hx)
  refine ⟨c', fun e he => ?_, fun t e he => ?_⟩
  · rw [rd_bl (r4_k h (by omega) v2 v8 h0 h1), if_pos ⟨by omega, (hb 0 (by omega)).1⟩, hc, pb_r, he, pb_l]
  · rw [rd_bl (r4_k h (by omega) v2 v8 h0 h1), if_pos ⟨by omega, (hb 0 (by omega)).1⟩, hc, pb_r, he, pb_r]
/-- n layers told, from p0 on -/
def TM (x : Pg) (p0 : Nat) (t : Nat → Nat) (n : Nat) : Prop := ∀ i, i < n → x (p0 + 2 * i) = nI (48 + t i / 10) ∧ x (p0 + 2 * i + 1) = nI (48 + t i % 10)
theorem tm_go {t : Nat → Nat} (r : ∀ i, i < 8 → t i ≤ 99) (mo : ∀ i, i + 1 < 8 → t i ≤ t (i + 1)) {p0 L n : Nat} (hL : L ≤ 8) (hn : n ≤ L) (hb : TM x p0 t n) (hT : p0 + 2 * n ≤ T) : ∀ (k j l : Nat) (c : Nat → Nat), j + k = L → j ≤ n → (j < n → l ≤ t j) → ((n = L → ∃ c', tmP x T k j l c (p0 + 2 * j) = .inr (c', p0 + 2 * L) ∧ (0 < j → c' 0 = c 0) ∧ (j = 0 → 0 < L → c' 0 = t 0)) ∧ (n < L → T = p0 + 2 * n → tmP x T k j l c (p0 + 2 * j) = .inl (p0 + 2 * n)))
  | 0, j, l, c, hj, hjn, hl => by
    refine ⟨fun e => ⟨c, ?_, fun _ => rfl, fun e0 h0 => by omega⟩, fun e => by omega⟩
    rw [show j = L by omega]
    rfl
  | k + 1, j, l, c, hj, hjn, hl => by
    by_cases q : j = n
    · subst q
      refine ⟨fun e => by omega, fun e hT' => ?_⟩
      unfold tmP
      rw [tw_f (by omega), pb_l]
    · have hjn' : j < n := by omega
      obtain ⟨b0, b1⟩ := hb j hjn'
      have g := tm_go r mo hL hn hb hT k (j + 1) (t j) (fun a => if a = j then t j else c a) (by omega) (by omega) (fun h => mo j (by omega))
      have e : tmP x T (k + 1) j l c (p0 + 2 * j) = tmP x T k (j + 1) (t j) (fun a => if a = j then t j else c a) (p0 + 2 * (j + 1)) := by
        show pbind (twP x T l 99 (p0 + 2 * j)) (fun v e => tmP x T k (j + 1) v (fun a => if a = j then v else c a) e) = _
        rw [tw_k (c := t j) b0 b1 (by omega) (hl hjn') (r j (by omega)) (by decide), pb_r]
        rfl
      rw [e]
      refine ⟨fun en => ?_, g.2⟩
      obtain ⟨c', e1, e2, -⟩ := g.1 en
      refine ⟨c', e1, fun h0 => ?_, fun h0 hL0 => ?_⟩
      · rw [e2 (by omega)]
        exact if_neg (by omega)
      · rw [e2 (by omega), h0]
        rfl
theorem tt_no {L p : Nat} (h : ¬ (p < T ∧ x p = 116)) : ttP x T L p = .inr (fun _ => 40, p) := by
  unfold ttP
  rw [if_neg h]
theorem tt_yes {L p : Nat} (h : p < T ∧ x p = 116) : ttP x T L p = tmP x T L 0 0 (fun _ => 40) (p + 1) := by
  unfold ttP
  rw [if_pos h, sg_t h, pb_r]
end REST
end PARSE
