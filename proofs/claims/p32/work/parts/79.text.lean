/-! the numbers; the text by the law: a sign on both, what is wrong, loaded -/
section LTEXT
variable {C D : Mem} {N Y K : Nat} {z : Pg} {H : Nat} {hf : Nat → Pg} {s : Nat → Option Pg} {T : Nat} {x : Pg}
theorem as_n (v : Int32) : v = nI v.toBitVec.toNat := Int32.toBitVec_inj.mp (by
  show v.toBitVec = (Int32.ofNat v.toBitVec.toNat).toBitVec
  simp)
theorem msk (v : Int32) : ∃ X, X < 2147483648 ∧ v &&& 2147483647 = nI X := by
  have h := fa_mask v.toBitVec.toNat 31
  refine ⟨v.toBitVec.toNat % 2 ^ 31, Nat.mod_lt _ (by decide), ?_⟩
  rw [← h, ← as_n]
  rfl
theorem num_ok (xs : Nat → Int32) (L : Nat) (hL : L ≤ 260) {n : Nat} (hn : n < 1000) : ∃ X, X < 2147483648 ∧ ∀ C D, F_L_number xs L (nI n) C D = some (nI X, C, D) := by
  by_cases c : nI L ≤ nI n
  · obtain ⟨X, hX, e⟩ := msk (15515971 * (nI n + 5) + 10007)
    refine ⟨X, hX, fun C D => ?_⟩
    unfold F_L_number
    rw [show Int32.ofNat L = nI L from rfl, if_pos c, e]
  · obtain ⟨X, hX, e⟩ := msk (xs n)
    have c' : n < L := by
      rw [fa_le, ti L (by omega), ti n (by omega)] at c
      omega
    refine ⟨X, hX, fun C D => ?_⟩
    unfold F_L_number
    rw [show Int32.ofNat L = nI L from rfl, if_neg c, gi_n c' (by omega), nI_clamp (by omega), e]
/-- what the text's calls leave be -/
def Ke (C C' : Mem) : Prop := ∀ r, r ≠ 18 → r ≠ 19 → r ≠ 20 → r ≠ 21 → r ≠ 22 → C' r = C r
theorem Ke.rf (C : Mem) : Ke C C := fun _ _ _ _ _ _ => rfl
theorem Ke.tr {C C1 C2 : Mem} (h : Ke C C1) (g : Ke C1 C2) : Ke C C2 := fun r a b c d e => (g r a b c d e).trans (h r a b c d e)
theorem Fr.ke {C C1 : Mem} (h : Fr C C1) : Ke C C1 := fun r a _ b c d => h r a b c d
theorem Tx.fr {C C1 : Mem} (h : Tx T x C) (f : Fr C C1) (e : C1 18 1 = nI T) : Tx T x C1 := ⟨h.1, e, fun k hk => by rw [f 19 (by decide) (by decide) (by decide) (by decide)]; exact h.2.2 k hk⟩
theorem ap_ok (h : Tx T x C) (hT : T < 60) {v : Int32} (hv : 0 ≤ v ∧ v ≤ 255) : ∃ C', F_L_tryAppend v C = some (nI (T + 1), C') ∧ Tx (T + 1) (up x T v) C' ∧ Ke C C' := by
  obtain ⟨h60, t1, tx⟩ := h
  refine ⟨mu (mu C 19 T v) 18 1 (nI (T + 1)), ?_, ⟨by omega, mu_at _ _ _ _, fun k hk => ?_⟩, fun r a b _ _ _ => by rw [mu_r _ _ _ a, mu_r _ _ _ b]⟩
  · unfold F_L_tryAppend F_X8_append F_X4_add
    rw [rq, b2_s, if_pos hv, el_l, t1, if_neg (nI_pos (by omega)), if_pos (show nI T < (60 : Int32) from nI_lt (show T < 60 by omega) (by decide)), gi_n (by omega) (by decide), nI_clamp (by omega), nm_s, nm_s, mu_r _ _ _ (show 18 ≠ 19 by decide), t1, nI_1, b2_s, if_neg (by decide), mu_at, b2_s, el_l]
  · rw [mu_r _ _ _ (show 19 ≠ 18 by decide)]
    by_cases q : k = T
    · subst q; rw [mu_at, up_same]
    · rw [mu_o _ _ q, up_ne _ _ q]; exact tx k (by omega)
theorem put_ok (h : Tx T x C) (g : Tx T x D) (hT : T < 60) {v : Int32} (hv : 0 ≤ v ∧ v ≤ 255) : ∃ C' D', F_L_put v C D = some (1, C', D') ∧ Tx (T + 1) (up x T v) C' ∧ Tx (T + 1) (up x T v) D' ∧ Ke C C' ∧ Ke D D' := by
  obtain ⟨C', e1, h1, k1⟩ := ap_ok h hT hv
  obtain ⟨D', e2, h2, k2⟩ := ap_ok g hT hv
  refine ⟨C', D', ?_, h1, h2, k1, k2⟩
  have p : ¬ nI (T + 1) ≤ 0 := by rw [fa_le, ti _ (by omega)]; have e0 : (0 : Int32).toInt = 0 := rfl; omega
  unfold F_L_put
  rw [e1, b2_s, if_neg p, e2, b2_s, if_neg p]
theorem dgt {c : Nat} (hc : c ≤ 9) : (48 : Int32) + nI c = nI (48 + c) ∧ (0 : Int32) ≤ nI (48 + c) ∧ nI (48 + c) ≤ 255 := ⟨nI_ad 48 c, nI_pos' (by omega), nI_le (show 48 + c ≤ 255 by omega) (by decide)⟩
theorem two_ok (h : Tx T x C) (g : Tx T x D) (hT : T + 1 < 60) {c : Nat} (hc : c ≤ 99) : ∃ C' D', F_L_two (nI c) C D = some (1, C', D') ∧ Tx (T + 2) (up (up x T (nI (48 + c / 10))) (T + 1) (nI (48 + c % 10))) C' ∧ Tx (T + 2) (up (up x T (nI (48 + c / 10))) (T + 1) (nI (48 + c % 10))) D' ∧ Ke C C' ∧ Ke D D' := by
  obtain ⟨a1, a2⟩ := d10 c (by omega)
  obtain ⟨p1, p2⟩ := dgt (c := c / 10) (by omega)
  obtain ⟨q1, q2⟩ := dgt (c := c % 10) (by omega)
  obtain ⟨C1, D1, e1, h1, g1, k1, l1⟩ := put_ok h g (by omega) p2
  obtain ⟨C2, D2, e2, h2, g2, k2, l2⟩ := put_ok h1 g1 hT q2
  refine ⟨C2, D2, ?_, h2, g2, k1.tr k2, l1.tr l2⟩
  unfold F_L_two
  have b3_s : ∀ {α : Type} (a : Int32) (u w : Mem) (k : Int32 → Mem → Mem → Option α), b3 (some (a, u, w)) k = k a u w := fun _ _ _ _ => rfl
  rw [a1, a2, p1, q1, e1, b3_s, if_neg (by decide), e2, b3_s, if_neg (by decide)]
theorem er_l (h : Tx T x C) {e : Nat} (r : rd x T = .inl e) : ∃ C', F_X8_errorPosition C = some (nI e, C') ∧ Tx T x C' ∧ Ke C C' := by
  obtain ⟨C', f, t1, hr⟩ := c_read (C := C) (x := x) h.2.1 h.1 h.2.2
  rw [r] at hr
  refine ⟨C', ?_, h.fr f t1, f.ke⟩
  unfold F_X8_errorPosition
  rw [hr.1, b2_s]
theorem er_r (h : Tx T x C) {c : TC} (r : rd x T = .inr c) : ∃ C', F_X8_errorPosition C = some (-9, C') ∧ Tx T x C' ∧ Ke C C' := by
  obtain ⟨C', f, t1, hr⟩ := c_read (C := C) (x := x) h.2.1 h.1 h.2.2
  rw [r] at hr
  refine ⟨C', ?_, h.fr f t1, f.ke⟩
  unfold F_X8_errorPosition
  rw [hr.1, b2_s]
theorem ld_l (h : Tx T x C) {e : Nat} (r : rd x T = .inl e) : ∃ C', F_L_tryLoad C = some (-1003, C') ∧ Tx T x C' ∧ Ke C C' := by
  obtain ⟨C', f, t1, hr⟩ := c_read (C := C) (x := x) h.2.1 h.1 h.2.2
  rw [r] at hr
  refine ⟨C', ?_, h.fr f t1, f.ke⟩
  have e9 : ¬ nI e = -9 := nI_ne9 (by have := hr.2; have := h.1; omega)
  unfold F_L_tryLoad F_X8_load
  rw [hr.1, b2_s, if_neg e9, b2_s, el_r, if_pos rfl]
/-- a page that a text tells is sound -/
theorem bpg_sd {c : TC} (h : Ok c) (K : Nat) : SD c.1.2.1 K (bpg c) := by
  obtain ⟨⟨h4, hn1, hn5, hb⟩, ht⟩ := h
  have t0 : (0 : Int32).toInt = 0 := rfl
  refine ⟨fun _ => ⟨rfl, rfl⟩, ?_, rfl, ?_, ?_, fun i hi => ?_⟩
  · show 0 ≤ (0 : Int32).toInt ∧ (0 : Int32).toInt ≤ (0 : Int32).toInt
    omega
  · show 0 ≤ (0 : Int32).toInt ∧ (0 : Int32).toInt ≤ (K : Int)
    omega
  · show 0 ≤ (0 : Int32).toInt ∧ (0 : Int32).toInt ≤ (K : Int)
    omega
  · have zz : ∀ f, 2 ≤ f → f < 7 → bpg c (30 + 7 * i + f) = 0 := fun f a b => by rw [bpg_b c (by omega) b, if_neg (by omega), if_neg (by omega)]
    have z6 : bpg c 6 = 0 := rfl
    unfold SB
    rw [zz 4 (by decide) (by decide), zz 6 (by decide) (by decide), zz 5 (by decide) (by decide), zz 2 (by decide) (by decide), z6, t0]
    exact ⟨by omega, by omega, ⟨by omega, by omega⟩, Or.inr (Or.inl rfl), Or.inl rfl⟩
def s0 (T : Nat) : Nat → Option Pg := fun a => if a = 2 then some (fun _ => nI T) else none
theorem ld_r (hz : Zu N Y K z H hf s C) (h : Tx T x C) {c : TC} (r : rd x T = .inr c) (L : Nat) (hf' : Nat → Pg) : ∃ C', F_L_tryLoad C = some (nI c.1.2.1, C') ∧ Tx T x C' ∧ Zu c.1.2.1 c.1.1.1.1 L (bpg c) 0 hf' (s0 T) C' := by
  obtain ⟨D, fr, d1, hr⟩ := c_read (C := C) (x := x) h.2.1 h.1 h.2.2
  rw [r] at hr
  have ok := rd_ok r
  have gb := g_beginAs ok hr.2
  have y65 : cpg c.1.2.1 c.1.1.1.1 (bpg c) (D 0) 65 = nI c.1.2.1 := cpg_65 _ _ _ _
  have y66 : cpg c.1.2.1 c.1.1.1.1 (bpg c) (D 0) 66 = nI c.1.1.1.1 := cpg_66 _ _ _ _
  have ya : Agree c.1.2.1 c.1.1.1.1 (cpg c.1.2.1 c.1.1.1.1 (bpg c) (D 0)) (bpg c) := cpg_a _ _ _ _
  generalize cpg c.1.2.1 c.1.1.1.1 (bpg c) (D 0) = y at gb y65 y66 ya
  have cls : F_L_tryLoad C = some (nI c.1.2.1, mu (mu (mu (sr D 0 y) 23 2 0) 24 0 0) 24 1 0) := by
    unfold F_L_tryLoad F_X8_load F_X2_forgetAll
    rw [hr.1, b2_s, if_pos rfl, gb, b2_s, nm_s, b2_s, nm_s, nm_s, mu_r _ _ _ (show 0 ≠ 24 by decide), mu_r _ _ _ (show 0 ≠ 24 by decide), mu_r _ _ _ (show 0 ≠ 23 by decide), sr_same, y65, b2_s, el_l]
  have dr : ∀ r, r ≠ 0 → r ≠ 23 → r ≠ 24 → (mu (mu (mu (sr D 0 y) 23 2 0) 24 0 0) 24 1 0) r = D r := fun r a b c => by rw [mu_r _ _ _ c, mu_r _ _ _ c, mu_r _ _ _ b, sr_ne _ _ a]
  have d0 : (mu (mu (mu (sr D 0 y) 23 2 0) 24 0 0) 24 1 0) 0 = y := by rw [mu_r _ _ _ (show 0 ≠ 24 by decide), mu_r _ _ _ (show 0 ≠ 24 by decide), mu_r _ _ _ (show 0 ≠ 23 by decide), sr_same]
  have d23 : (mu (mu (mu (sr D 0 y) 23 2 0) 24 0 0) 24 1 0) 23 1 = C 23 1 ∧ (mu (mu (mu (sr D 0 y) 23 2 0) 24 0 0) 24 1 0) 23 2 = 0 := by
    rw [mu_r _ _ _ (show 23 ≠ 24 by decide), mu_r _ _ _ (show 23 ≠ 24 by decide), mu_at, mu_o _ _ (show 1 ≠ 2 by decide), sr_ne _ _ (show 23 ≠ 0 by decide), fr 23 (by decide) (by decide) (by decide) (by decide)]
    exact ⟨rfl, rfl⟩
  have d24 : ∀ k, k < 2 → (mu (mu (mu (sr D 0 y) 23 2 0) 24 0 0) 24 1 0) 24 k = 0 := fun k hk => by
    rcases (show k = 0 ∨ k = 1 by omega) with q | q
    · subst q; rw [mu_o _ _ (by decide), mu_at]
    · subst q; rw [mu_at]
  generalize mu (mu (mu (sr D 0 y) 23 2 0) 24 0 0) 24 1 0 = F at cls dr d0 d23 d24
  have f18 : F 18 1 = nI T := by rw [dr 18 (by decide) (by decide) (by decide), d1]
  obtain ⟨-, ⟨-, P, hP, e1, -, -⟩, -⟩ := hz
  obtain ⟨⟨⟨⟨hL28, -⟩, -⟩, hn1, hn5, -⟩, -⟩ := id ok
  refine ⟨F, cls, ⟨h.1, f18, fun k hk => ?_⟩, ⟨⟨⟨hn1, hn5⟩, hL28⟩, by rw [d0]; exact ⟨⟨y65, y66, (bpg_wf ok _).ag ya, ya⟩, bpg_sd ok _⟩⟩, ⟨by decide, P, hP, d23.1.trans e1, d23.2, fun j hj => absurd hj (Nat.not_lt_zero _)⟩, fun k hk => ⟨fun _ => d24 k hk, fun w e => ?_⟩, fun w e => ?_⟩
  · rw [dr 19 (by decide) (by decide) (by decide), fr 19 (by decide) (by decide) (by decide) (by decide)]
    exact h.2.2 k hk
  · unfold s0 at e
    rw [if_neg (by omega)] at e
    cases e
  · unfold s0 at e
    rw [if_pos rfl] at e
    cases e
    exact f18
theorem cl_ok (h : C 18 1 = nI T) : ∃ C', F_X8_clearText C = some (nI T, C') ∧ Tx 0 x C' ∧ Ke C C' := by
  refine ⟨mu C 18 1 0, ?_, ⟨by decide, mu_at _ _ _ _, fun k hk => absurd hk (Nat.not_lt_zero _)⟩, fun r a _ _ _ _ => mu_r C _ _ a⟩
  unfold F_X8_clearText
  rw [nm_s, nm_s, h]
/-- a plain keeping of the object, its text aside -/
theorem Zu.ke (h : Zu N Y K z H hf s C) (q : Ke C D) (hs : ∀ w, s 2 = some w → D 18 1 = w 0) : Zu N Y K z H hf s D := by
  have e : ∀ r, r ≠ 18 → r ≠ 19 → r ≠ 20 → r ≠ 21 → r ≠ 22 → D r = C r := q
  refine ⟨⟨h.1.1, by rw [e 0 (by decide) (by decide) (by decide) (by decide) (by decide)]; exact h.1.2⟩, h.2.1.cg (e 23 (by decide) (by decide) (by decide) (by decide) (by decide)) (fun r a b => e r (by omega) (by omega) (by omega) (by omega) (by omega)), fun k hk => ?_, hs⟩
  have e4 : D 24 = C 24 := e 24 (by decide) (by decide) (by decide) (by decide) (by decide)
  have e16 : D (16 + k) = C (16 + k) := e _ (by omega) (by omega) (by omega) (by omega) (by omega)
  rw [e4, e16]
  exact h.2.2.1 k hk
end LTEXT
