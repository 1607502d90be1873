/-! told: the text written, read on the way, loaded -/
section TOLD
variable {C D : Mem} {N Y K : Nat} {z : Pg} {H : Nat} {hf : Nat → Pg} {s : Nat → Option Pg} {T : Nat} {x : Pg} {xs : Nat → Int32} {L : Nat}
theorem nums_ok (xs : Nat → Int32) (L : Nat) (hL : L ≤ 260) : ∃ g : Nat → Nat, ∀ n, n < 1000 → g n < 2147483648 ∧ ∀ C D, F_L_number xs L (nI n) C D = some (nI (g n), C, D) := by
  have h : ∀ n : Nat, ∃ X : Nat, n < 1000 → X < 2147483648 ∧ ∀ C D, F_L_number xs L (nI n) C D = some (nI X, C, D) := fun n => by
    by_cases c : n < 1000
    · obtain ⟨X, a, b⟩ := num_ok xs L hL c
      exact ⟨X, fun _ => ⟨a, b⟩⟩
    · exact ⟨0, fun q => absurd q c⟩
  exact ⟨fun n => Classical.choose (h n), fun n => Classical.choose_spec (h n)⟩
/-- both hold the text -/
def T2 (T : Nat) (x : Pg) (C0 D0 C D : Mem) : Prop := Tx T x C ∧ Tx T x D ∧ Ke C0 C ∧ Ke D0 D
variable {C0 D0 : Mem}
theorem T2.put (h : T2 T x C0 D0 C D) (hT : T < 60) {v : Int32} (hv : 0 ≤ v ∧ v ≤ 255) : ∃ C' D', F_L_put v C D = some (1, C', D') ∧ T2 (T + 1) (up x T v) C0 D0 C' D' := by
  obtain ⟨C', D', e, a, b, c, d⟩ := put_ok h.1 h.2.1 hT hv
  exact ⟨C', D', e, a, b, h.2.2.1.tr c, h.2.2.2.tr d⟩
theorem T2.two (h : T2 T x C0 D0 C D) (hT : T + 1 < 60) {c : Nat} (hc : c ≤ 99) : ∃ C' D', F_L_two (nI c) C D = some (1, C', D') ∧ T2 (T + 2) (up (up x T (nI (48 + c / 10))) (T + 1) (nI (48 + c % 10))) C0 D0 C' D' := by
  obtain ⟨C', D', e, a, b, c, d⟩ := two_ok h.1 h.2.1 hT hc
  exact ⟨C', D', e, a, b, h.2.2.1.tr c, h.2.2.2.tr d⟩
theorem T2.el (h : T2 T x C0 D0 C D) {e : Nat} (r : rd x T = .inl e) : ∃ C', F_X8_errorPosition C = some (nI e, C') ∧ T2 T x C0 D0 C' D := by
  obtain ⟨C', e, a, b⟩ := er_l h.1 r
  exact ⟨C', e, a, h.2.1, h.2.2.1.tr b, h.2.2.2⟩
theorem T2.er (h : T2 T x C0 D0 C D) {c : TC} (r : rd x T = .inr c) : ∃ C', F_X8_errorPosition C = some (-9, C') ∧ T2 T x C0 D0 C' D := by
  obtain ⟨C', e, a, b⟩ := er_r h.1 r
  exact ⟨C', e, a, h.2.1, h.2.2.1.tr b, h.2.2.2⟩
theorem BL.up {a f : Nat → Nat} {m p : Nat} {v : Int32} (h : BL x a f m) (hp : 6 + 4 * m ≤ p) : BL (up x p v) a f m := fun i hi => by
  obtain ⟨a, b, c, d⟩ := h i hi
  exact ⟨by rw [up_ne _ _ (by omega)]; exact a, by rw [up_ne _ _ (by omega)]; exact b, by rw [up_ne _ _ (by omega)]; exact c, by rw [up_ne _ _ (by omega)]; exact d⟩
theorem HDR.up {v d0 d1 p : Nat} {w : Int32} (h : HDR x v d0 d1) (hp : 6 ≤ p) : HDR (up x p w) v d0 d1 := by
  obtain ⟨a, b, c, d, e, f⟩ := h
  exact ⟨by rw [up_ne _ _ (by omega)]; exact a, by rw [up_ne _ _ (by omega)]; exact b, by rw [up_ne _ _ (by omega)]; exact c, by rw [up_ne _ _ (by omega)]; exact d, by rw [up_ne _ _ (by omega)]; exact e, by rw [up_ne _ _ (by omega)]; exact f⟩
theorem TM.up {p0 n p : Nat} {t : Nat → Nat} {v : Int32} (h : TM x p0 t n) (hp : p0 + 2 * n ≤ p) : TM (up x p v) p0 t n := fun i hi => by
  obtain ⟨a, b⟩ := h i hi
  exact ⟨by rw [up_ne _ _ (by omega)]; exact a, by rw [up_ne _ _ (by omega)]; exact b⟩
section IN
variable {v d0 d1 : Nat} {a f : Nat → Nat}
/-- one boiler -/
theorem td_134 {g : Nat → Nat} (hg : ∀ n, n < 1000 → g n < 2147483648 ∧ ∀ C D, F_L_number xs L (nI n) C D = some (nI (g n), C, D)) {q n i : Nat} (hq : q ≤ 100) (hn : n ≤ 5) (hi : i < n) (v2 : 2 ≤ v) (v8 : v ≤ 8) (h0 : d0 ≤ 99) (h1 : d1 ≤ 99) (h : T2 (6 + 4 * i) x C0 D0 C D) (hh : HDR x v d0 d1) (hb : BL x (fun i => 1 + g (q + 2 + i) % 30) (fun i => g (q + 2 + i) / 32 % 2) i) : ∃ C' D' x', S_L_told_134 xs L (nI q) (nI n) 1 (nI i) C D = some (.inl (1, nI (i + 1), C', D')) ∧ T2 (6 + 4 * (i + 1)) x' C0 D0 C' D' ∧ HDR x' v d0 d1 ∧ BL x' (fun i => 1 + g (q + 2 + i) % 30) (fun i => g (q + 2 + i) / 32 % 2) (i + 1) := by
  obtain ⟨gl, ge⟩ := hg (q + 2 + i) (by omega)
  have ra : ∀ i, 1 ≤ 1 + g (q + 2 + i) % 30 ∧ 1 + g (q + 2 + i) % 30 ≤ 30 := fun i => by omega
  have rf : ∀ i, g (q + 2 + i) / 32 % 2 ≤ 1 := fun i => by omega
  have en : nI q + 2 + nI i = nI (q + 2 + i) := by
    rw [show nI q + 2 = nI (q + 2) from nI_ad q 2, nI_ad]
  have e30 : (1 : Int32) + (nI (g (q + 2 + i)) - nI (g (q + 2 + i)) / (30 : Int32) * (30 : Int32)) = nI (1 + g (q + 2 + i) % 30) := by
    rw [show nI (g (q + 2 + i)) - nI (g (q + 2 + i)) / (30 : Int32) * (30 : Int32) = nI (g (q + 2 + i) % 30) from md gl (d := 30) (by decide) (by decide)]
    exact nI_ad 1 _
  have e32 : nI (g (q + 2 + i)) / (32 : Int32) - nI (g (q + 2 + i)) / (32 : Int32) / (2 : Int32) * (2 : Int32) = nI (g (q + 2 + i) / 32 % 2) := by
    rw [show nI (g (q + 2 + i)) / (32 : Int32) = nI (g (q + 2 + i) / 32) from dv gl (d := 32) (by decide) (by decide)]
    exact md (by omega) (d := 2) (by decide) (by decide)
  have e7 : (7 : Int32) + (4 : Int32) * nI i = nI (6 + 4 * i + 1) := by
    rw [show (4 : Int32) * nI i = nI (4 * i) from nI_mul 4 i, show (7 : Int32) + nI (4 * i) = nI (7 + 4 * i) from nI_ad 7 _, show 7 + 4 * i = 6 + 4 * i + 1 by omega]
  have e9 : (9 : Int32) + (4 : Int32) * nI i = nI (6 + 4 * i + 3) := by
    rw [show (4 : Int32) * nI i = nI (4 * i) from nI_mul 4 i, show (9 : Int32) + nI (4 * i) = nI (9 + 4 * i) from nI_ad 9 _, show 9 + 4 * i = 6 + 4 * i + 3 by omega]
  obtain ⟨p1, p2⟩ := dgt (c := g (q + 2 + i) / 32 % 2) (by omega)
  obtain ⟨C1, D1, e1, t1⟩ := h.put (v := 98) (by omega) (by decide)
  have hh1 := hh.up (w := 98) (show 6 ≤ 6 + 4 * i by omega)
  have hb1 := hb.up (v := 98) (Nat.le_refl _)
  have x1 : up x (6 + 4 * i) 98 (6 + 4 * i) = 98 := up_same _ _ _
  generalize up x (6 + 4 * i) 98 = y1 at *
  obtain ⟨C2, e2, t2⟩ := t1.el (rd_be hh1 v2 v8 h0 h1 ra rf (by omega) hb1 (by omega) x1 (bo_1 x1 rfl))
  obtain ⟨C3, D3, e3, t3⟩ := t2.two (c := 1 + g (q + 2 + i) % 30) (by omega) (by have := ra i; omega)
  have hh3 := (hh1.up (w := nI (48 + (1 + g (q + 2 + i) % 30) / 10)) (show 6 ≤ 6 + 4 * i + 1 by omega)).up (w := nI (48 + (1 + g (q + 2 + i) % 30) % 10)) (show 6 ≤ 6 + 4 * i + 1 + 1 by omega)
  have hb3 := (hb1.up (v := nI (48 + (1 + g (q + 2 + i) % 30) / 10)) (show 6 + 4 * i ≤ 6 + 4 * i + 1 by omega)).up (v := nI (48 + (1 + g (q + 2 + i) % 30) % 10)) (show 6 + 4 * i ≤ 6 + 4 * i + 1 + 1 by omega)
  have x3 : up (up y1 (6 + 4 * i + 1) (nI (48 + (1 + g (q + 2 + i) % 30) / 10))) (6 + 4 * i + 1 + 1) (nI (48 + (1 + g (q + 2 + i) % 30) % 10)) (6 + 4 * i) = 98 := by rw [up_ne _ _ (by omega), up_ne _ _ (by omega)]; exact x1
  have x4 : up (up y1 (6 + 4 * i + 1) (nI (48 + (1 + g (q + 2 + i) % 30) / 10))) (6 + 4 * i + 1 + 1) (nI (48 + (1 + g (q + 2 + i) % 30) % 10)) (6 + 4 * i + 1) = nI (48 + (1 + g (q + 2 + i) % 30) / 10) := by rw [up_ne _ _ (by omega), up_same]
  have x5 : up (up y1 (6 + 4 * i + 1) (nI (48 + (1 + g (q + 2 + i) % 30) / 10))) (6 + 4 * i + 1 + 1) (nI (48 + (1 + g (q + 2 + i) % 30) % 10)) (6 + 4 * i + 2) = nI (48 + (1 + g (q + 2 + i) % 30) % 10) := up_same _ _ _
  generalize up (up y1 (6 + 4 * i + 1) (nI (48 + (1 + g (q + 2 + i) % 30) / 10))) (6 + 4 * i + 1 + 1) (nI (48 + (1 + g (q + 2 + i) % 30) % 10)) = y3 at *
  have t3' : T2 (6 + 4 * i + 3) y3 C0 D0 C3 D3 := t3
  obtain ⟨C4, e4, t4⟩ := t3'.el (rd_be hh3 v2 v8 h0 h1 ra rf (by omega) hb3 (by omega) x3 (bo_3 x3 x4 x5 rfl (ra i).1 (ra i).2))
  obtain ⟨C5, D5, e5, t5⟩ := t4.put (v := nI (48 + g (q + 2 + i) / 32 % 2)) (by omega) p2
  have hh5 := hh3.up (w := nI (48 + g (q + 2 + i) / 32 % 2)) (show 6 ≤ 6 + 4 * i + 3 by omega)
  have hb5 : BL (up y3 (6 + 4 * i + 3) (nI (48 + g (q + 2 + i) / 32 % 2))) (fun i => 1 + g (q + 2 + i) % 30) (fun i => g (q + 2 + i) / 32 % 2) (i + 1) := fun j hj => by
    by_cases e : j = i
    · subst e
      exact ⟨by rw [up_ne _ _ (by omega)]; exact x3, by rw [up_ne _ _ (by omega)]; exact x4, by rw [up_ne _ _ (by omega)]; exact x5, up_same _ _ _⟩
    · exact hb3.up (show 6 + 4 * i ≤ 6 + 4 * i + 3 by omega) j (by omega)
  generalize up y3 (6 + 4 * i + 3) (nI (48 + g (q + 2 + i) / 32 % 2)) = y5 at *
  have t5' : T2 (6 + 4 * (i + 1)) y5 C0 D0 C5 D5 := t5
  obtain ⟨c', -, hc⟩ := rd_bk hh5 v2 v8 h0 h1 ra rf (m := i + 1) (by omega) (by omega) hb5 (Nat.le_refl _) (fun r => absurd r.1 (by omega))
  have hr := hc _ _ (tt_no (x := y5) (T := 6 + 4 * (i + 1)) (L := v) (p := 6 + 4 * (i + 1)) (fun r => absurd r.1 (by omega)))
  rw [if_neg (by omega)] at hr
  obtain ⟨C6, e6, t6⟩ := t5'.er hr
  refine ⟨C6, D5, y5, ?_, t6, hh5, hb5⟩
  unfold S_L_told_134
  rw [if_neg (nI_ge hi (by omega)), if_neg (by decide), en, ge, b3_s, e1, b3_s, if_neg (by decide), e2, b2_s, if_pos e7.symm, e30, e3, b3_s, if_neg (by decide), e4, b2_s, if_pos e9.symm, e32, p1, e5, b3_s, if_neg (by decide), e6, b2_s, if_pos rfl, nm_s, nI_1]
theorem td_L {g : Nat → Nat} (hg : ∀ n, n < 1000 → g n < 2147483648 ∧ ∀ C D, F_L_number xs L (nI n) C D = some (nI (g n), C, D)) {q n : Nat} (hq : q ≤ 100) (hn : n ≤ 5) (v2 : 2 ≤ v) (v8 : v ≤ 8) (h0 : d0 ≤ 99) (h1 : d1 ≤ 99) : ∀ (j i : Nat) (C D : Mem) (x : Pg) (m : Nat), i + j = n → T2 (6 + 4 * i) x C0 D0 C D → HDR x v d0 d1 → BL x (fun i => 1 + g (q + 2 + i) % 30) (fun i => g (q + 2 + i) / 32 % 2) i → ∃ C' D' x', iter (fun x => S_L_told_134 xs L (nI q) (nI n) x.1 x.2.1 x.2.2.1 x.2.2.2) (j + 1 + m) ((1 : Int32), nI i, C, D) = some (1, nI n, C', D') ∧ T2 (6 + 4 * n) x' C0 D0 C' D' ∧ HDR x' v d0 d1 ∧ BL x' (fun i => 1 + g (q + 2 + i) % 30) (fun i => g (q + 2 + i) / 32 % 2) n := by
  intro j
  induction j with
  | zero =>
    intro i C D x m e h hh hb
    have : i = n := by omega
    subst this
    refine ⟨C, D, x, ?_, h, hh, hb⟩
    rw [show 0 + 1 + m = m + 1 by omega]
    refine iter_e _ ?_ m
    show S_L_told_134 xs L (nI q) (nI i) 1 (nI i) C D = _
    unfold S_L_told_134
    rw [if_pos (nI_le (Nat.le_refl _) (by omega))]
  | succ j ih =>
    intro i C D x m e h hh hb
    obtain ⟨C1, D1, x1, e1, t1, hh1, hb1⟩ := td_134 hg hq hn (show i < n by omega) v2 v8 h0 h1 h hh hb
    obtain ⟨C', D', x', e2, r⟩ := ih (i + 1) C1 D1 x1 m (by omega) t1 hh1 hb1
    refine ⟨C', D', x', ?_, r⟩
    rw [show j + 1 + 1 + m = (j + 1 + m) + 1 by omega]
    exact (iter_s _ e1 _).trans e2
end IN
end TOLD
