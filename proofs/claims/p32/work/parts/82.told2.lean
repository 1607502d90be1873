/-! told, the temperatures and the end -/
section TOLD2
variable {C D : Mem} {N Y K : Nat} {z : Pg} {H : Nat} {hf : Nat → Pg} {s : Nat → Option Pg} {T : Nat} {x : Pg} {xs : Nat → Int32} {L : Nat} {C0 D0 : Mem} {v d0 d1 n : Nat} {a f : Nat → Nat}
/-- the temperatures, the first t0 -/
def tF (B t0 : Nat) : Nat → Nat
  | 0 => t0
  | j + 1 => tF B t0 j + B / (1 + j) % 6
theorem tF_le {B t0 : Nat} (h : t0 ≤ 59) : ∀ j, tF B t0 j ≤ 59 + 5 * j
  | 0 => by show t0 ≤ _; omega
  | j + 1 => by
    have := tF_le (B := B) h j
    show tF B t0 j + B / (1 + j) % 6 ≤ _
    omega
theorem td_307 {B t0 : Nat} (hB : B < 2147483648) (ht : t0 ≤ 59) (n1 : 1 ≤ n) (n5 : n ≤ 5) (v2 : 2 ≤ v) (v8 : v ≤ 8) (h0 : d0 ≤ 99) (h1 : d1 ≤ 99) (ra : ∀ i, 1 ≤ a i ∧ a i ≤ 30) (rf : ∀ i, f i ≤ 1) {j : Nat} (hj : j < v) (h : T2 (7 + 4 * n + 2 * j) x C0 D0 C D) (hh : HDR x v d0 d1) (hb : BL x a f n) (hx : x (6 + 4 * n) = 116) (hm : TM x (7 + 4 * n) (tF B t0) j) : ∃ C' D' x', S_L_told_307 (nI B) (nI v) (nI (6 + 4 * n)) 1 (nI (tF B t0 j)) (nI j) C D = some (.inl (1, nI (tF B t0 (j + 1)), nI (j + 1), C', D')) ∧ T2 (7 + 4 * n + 2 * (j + 1)) x' C0 D0 C' D' ∧ HDR x' v d0 d1 ∧ BL x' a f n ∧ x' (6 + 4 * n) = 116 ∧ TM x' (7 + 4 * n) (tF B t0) (j + 1) := by
  have rt : ∀ i, i < 8 → tF B t0 i ≤ 99 := fun i hi => by have := tF_le (B := B) ht i; omega
  have mo : ∀ i, i + 1 < 8 → tF B t0 i ≤ tF B t0 (i + 1) := fun i _ => Nat.le_add_right _ _
  have ej : (nI (6 + 4 * n) + 1) + (2 : Int32) * nI j = nI (7 + 4 * n + 2 * j) := by
    rw [show (2 : Int32) * nI j = nI (2 * j) from nI_mul 2 j, nI_1, nI_ad, show 6 + 4 * n + 1 + 2 * j = 7 + 4 * n + 2 * j by omega]
  have hT : T2 (7 + 4 * n + 2 * j) x C0 D0 C D := h
  obtain ⟨c', hce, -⟩ := rd_bk (T := 7 + 4 * n + 2 * j) hh v2 v8 h0 h1 ra rf n1 n5 hb (by omega) (fun r => by rw [hx] at r; exact absurd r.2 (by decide))
  have tm := (tm_go (x := x) (T := 7 + 4 * n + 2 * j) rt mo (p0 := 7 + 4 * n) (L := v) (n := j) v8 (by omega) hm (Nat.le_refl _) v 0 0 (fun _ => 40) (by omega) (by omega) (fun _ => by omega)).2 hj rfl
  have hr : rd x (7 + 4 * n + 2 * j) = .inl (7 + 4 * n + 2 * j) := hce _ (by
    rw [tt_yes ⟨by omega, hx⟩, show 6 + 4 * n + 1 = 7 + 4 * n + 2 * 0 by omega]
    exact tm)
  obtain ⟨C1, e1, t1⟩ := h.el hr
  obtain ⟨C2, D2, e2, t2⟩ := t1.two (c := tF B t0 j) (by omega) (rt j (by omega))
  refine ⟨C2, D2, _, ?_, t2, (hh.up (by omega)).up (by omega), (hb.up (by omega)).up (by omega), by rw [up_ne _ _ (by omega), up_ne _ _ (by omega)]; exact hx, fun i hi => ?_⟩
  · have eg : nI B / ((1 : Int32) + nI j) - nI B / ((1 : Int32) + nI j) / (6 : Int32) * (6 : Int32) = nI (B / (1 + j) % 6) := by
      rw [show (1 : Int32) + nI j = nI (1 + j) from nI_ad 1 j, dv hB (d := 1 + j) (by omega) (by omega)]
      exact md (Nat.lt_of_le_of_lt (Nat.div_le_self _ _) hB) (d := 6) (by decide) (by decide)
    unfold S_L_told_307 J_L_told_350
    rw [if_neg (nI_ge hj (by omega)), if_neg (by decide), e1, b2_s, if_pos ej.symm, e2, b3_s, if_neg (by decide), gz_p (by rw [show (1 : Int32) + nI j = nI (1 + j) from nI_ad 1 j]; exact nI_ne0 (by omega) (by omega)), eg, nm_s, nm_s, nI_1, nI_ad]
    rfl
  · by_cases e : i = j
    · subst e
      exact ⟨by rw [up_ne _ _ (by omega), up_same], by rw [up_same]⟩
    · obtain ⟨b0, b1⟩ := hm i (by omega)
      exact ⟨by rw [up_ne _ _ (by omega), up_ne _ _ (by omega)]; exact b0, by rw [up_ne _ _ (by omega), up_ne _ _ (by omega)]; exact b1⟩
theorem td_T {B t0 : Nat} (hB : B < 2147483648) (ht : t0 ≤ 59) (n1 : 1 ≤ n) (n5 : n ≤ 5) (v2 : 2 ≤ v) (v8 : v ≤ 8) (h0 : d0 ≤ 99) (h1 : d1 ≤ 99) (ra : ∀ i, 1 ≤ a i ∧ a i ≤ 30) (rf : ∀ i, f i ≤ 1) : ∀ (k j : Nat) (C D : Mem) (x : Pg) (m : Nat), j + k = v → T2 (7 + 4 * n + 2 * j) x C0 D0 C D → HDR x v d0 d1 → BL x a f n → x (6 + 4 * n) = 116 → TM x (7 + 4 * n) (tF B t0) j → ∃ C' D' x' w, iter (fun x => S_L_told_307 (nI B) (nI v) (nI (6 + 4 * n)) x.1 x.2.1 x.2.2.1 x.2.2.2.1 x.2.2.2.2) (k + 1 + m) ((1 : Int32), nI (tF B t0 j), nI j, C, D) = some (1, w, nI v, C', D') ∧ T2 (7 + 4 * n + 2 * v) x' C0 D0 C' D' ∧ HDR x' v d0 d1 ∧ BL x' a f n ∧ x' (6 + 4 * n) = 116 ∧ TM x' (7 + 4 * n) (tF B t0) v := by
  intro k
  induction k with
  | zero =>
    intro j C D x m e h hh hb hx hm
    have : j = v := by omega
    subst this
    refine ⟨C, D, x, nI (tF B t0 j), ?_, h, hh, hb, hx, hm⟩
    rw [show 0 + 1 + m = m + 1 by omega]
    refine iter_e _ ?_ m
    show S_L_told_307 (nI B) (nI j) (nI (6 + 4 * n)) 1 (nI (tF B t0 j)) (nI j) C D = _
    unfold S_L_told_307
    rw [if_pos (nI_le (Nat.le_refl _) (by omega))]
  | succ k ih =>
    intro j C D x m e h hh hb hx hm
    obtain ⟨C1, D1, x1, e1, t1, hh1, hb1, hx1, hm1⟩ := td_307 hB ht n1 n5 v2 v8 h0 h1 ra rf (show j < v by omega) h hh hb hx hm
    obtain ⟨C', D', x', w, e2, r⟩ := ih (j + 1) C1 D1 x1 m (by omega) t1 hh1 hb1 hx1 hm1
    refine ⟨C', D', x', w, ?_, r⟩
    rw [show k + 1 + 1 + m = (k + 1 + m) + 1 by omega]
    exact (iter_s _ e1 _).trans e2
theorem Zu.nt (h : Zu N Y K z H hf s C) : Zu N Y K z H hf (fun a => if a = 2 then none else s a) C := ⟨h.1, h.2.1, fun k hk => by
  rw [show (fun a => if a = 2 then none else s a) k = s k from if_neg (by omega)]
  exact h.2.2.1 k hk, fun w e => by cases e⟩
/-- loaded by both, then a wrong sign behind -/
theorem td_384 (hC : Zu N Y K z H hf s C0) (hD : Zu N Y K z H hf s D0) (h : T2 T x C0 D0 C D) (hT : T < 60) {c : TC} (hr : rd x T = .inr c) (hx : rd (up x T 120) (T + 1) = .inl T) {A : Nat} (hA : A < 2147483648) (e0 : c.1.1.1.2 = A / 64 % 100) {w : Int32} (ew : nI (c.2 0) = w) (M : Nat) (hf' : Nat → Pg) : ∃ C' D', J_L_told_384 (nI A) (nI c.1.1.1.1) (nI c.1.2.1) 1 (nI T) w C D = some (1, C', D') ∧ Zu c.1.2.1 c.1.1.1.1 M (bpg c) 0 hf' (s0 (T + 1)) C' ∧ Zu c.1.2.1 c.1.1.1.1 M (bpg c) 0 hf' (s0 (T + 1)) D' := by
  obtain ⟨C1, e1, t1⟩ := h.er hr
  have z1 : Zu N Y K z H hf (fun a => if a = 2 then none else s a) C1 := hC.nt.ke t1.2.2.1 (fun w e => by cases e)
  have y1 : Zu N Y K z H hf (fun a => if a = 2 then none else s a) D := hD.nt.ke t1.2.2.2 (fun w e => by cases e)
  obtain ⟨C2, e2, x2, z2⟩ := ld_r z1 t1.1 hr M hf'
  obtain ⟨D2, e3, x3, y2⟩ := ld_r y1 t1.2.1 hr M hf'
  have hL := z2.1.1.2
  have l0 : F_L_tryLayer (0 : Int32) C2 = some (bpg c (22 + 0), C2) := tl z2.1 (j := 0) (by omega)
  have f0 : F_L_tryFlue (0 : Int32) (0 : Int32) C2 = some (bpg c 18, C2) := tf_0 z2.1 (f := 0) (by decide)
  have b18 : bpg c 18 = nI A / (64 : Int32) - nI A / (64 : Int32) / (100 : Int32) * (100 : Int32) := by
    rw [show nI A / (64 : Int32) = nI (A / 64) from dv hA (d := 64) (by decide) (by decide), show nI (A / 64) - nI (A / 64) / (100 : Int32) * (100 : Int32) = nI (A / 64 % 100) from md (by omega) (d := 100) (by decide) (by decide), ← e0]
    rfl
  have u0 := at_undo0 z2
  have r0 : F_L_tryRestore (1 : Int32) D2 = some (-1003, D2) := at_restore0 y2 (k := 1) (by decide) rfl
  have t2 : T2 T x C2 D2 C2 D2 := ⟨x2, x3, Ke.rf _, Ke.rf _⟩
  obtain ⟨C3, D3, e4, t3⟩ := t2.put hT (v := 120) (by decide)
  obtain ⟨C4, e5, t4⟩ := t3.el hx
  obtain ⟨C5, e6, x5, k5⟩ := ld_l t4.1 hx
  have s5 : ∀ w : Pg, s0 T 2 = some w → True := fun _ _ => trivial
  have zn : Zu c.1.2.1 c.1.1.1.1 M (bpg c) 0 hf' (fun a => if a = 2 then none else s0 T a) C5 := z2.nt.ke (t4.2.2.1.tr k5) (fun w e => by cases e)
  have yn : Zu c.1.2.1 c.1.1.1.1 M (bpg c) 0 hf' (fun a => if a = 2 then none else s0 T a) D3 := y2.nt.ke t4.2.2.2 (fun w e => by cases e)
  have fin : ∀ E : Mem, Zu c.1.2.1 c.1.1.1.1 M (bpg c) 0 hf' (fun a => if a = 2 then none else s0 T a) E → E 18 1 = nI (T + 1) → Zu c.1.2.1 c.1.1.1.1 M (bpg c) 0 hf' (s0 (T + 1)) E := fun E hE e => ⟨hE.1, hE.2.1, fun k hk => by
    have q := hE.2.2.1 k hk
    rw [show (fun a => if a = 2 then none else s0 T a) k = s0 (T + 1) k from by
      show (if k = 2 then none else s0 T k) = s0 (T + 1) k
      unfold s0
      rw [if_neg (by omega), if_neg (by omega), if_neg (by omega)]] at q
    exact q, fun w ew => by
      unfold s0 at ew
      rw [if_pos rfl] at ew
      cases ew
      exact e⟩
  refine ⟨C5, D3, ?_, fin C5 zn x5.2.1, fin D3 yn t4.2.1.2.1⟩
  unfold J_L_told_384
  rw [if_neg (by decide), e1, b2_s, if_pos rfl, e2, b2_s, if_pos rfl, e3, b2_s, if_pos rfl, ta_6 z2.1, b2_s, if_pos rfl, ta_7 z2.1, b2_s, if_pos rfl, l0, b2_s, if_pos (show bpg c (22 + 0) = w from (bpg_t c (by decide)).trans ew), f0, b2_s, if_pos b18, u0, b2_s, if_pos rfl, r0, b2_s, if_pos rfl, e4, b3_s, if_neg (by decide), e5, b2_s, if_pos rfl, e6, b2_s, if_pos rfl]
end TOLD2
