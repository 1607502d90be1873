/-! told, the whole of it -/
section TOLD3
variable {C D : Mem} {N Y K : Nat} {z : Pg} {H : Nat} {hf : Nat → Pg} {s : Nat → Option Pg} {T : Nat} {x : Pg} {xs : Nat → Int32} {L : Nat} {C0 D0 : Mem} {v d0 d1 n : Nat}
theorem td_129 {g : Nat → Nat} (hg : ∀ n, n < 1000 → g n < 2147483648 ∧ ∀ C D, F_L_number xs L (nI n) C D = some (nI (g n), C, D)) (hC : Zu N Y K z H hf s C0) (hD : Zu N Y K z H hf s D0) {A B q : Nat} (hA : A < 2147483648) (hB : B < 2147483648) (hq : q ≤ 100) (n1 : 1 ≤ n) (n5 : n ≤ 5) (v2 : 2 ≤ v) (v8 : v ≤ 8) (e0 : d0 = A / 64 % 100) (h1 : d1 ≤ 99) (h : T2 6 x C0 D0 C D) (hh : HDR x v d0 d1) (M : Nat) (hf' : Nat → Pg) : ∃ C' D' z' T', J_L_told_129 xs L (nI q) (nI A) (nI B) (nI v) (nI n) 1 C D = some (1, C', D') ∧ Zu n v M z' 0 hf' (s0 T') C' ∧ Zu n v M z' 0 hf' (s0 T') D' := by
  have h0 : d0 ≤ 99 := by omega
  have ra : ∀ i, 1 ≤ (fun i => 1 + g (q + 2 + i) % 30) i ∧ (fun i => 1 + g (q + 2 + i) % 30) i ≤ 30 := fun i => by
    show 1 ≤ 1 + g (q + 2 + i) % 30 ∧ 1 + g (q + 2 + i) % 30 ≤ 30
    omega
  have rf : ∀ i, (fun i => g (q + 2 + i) / 32 % 2) i ≤ 1 := fun i => by
    show g (q + 2 + i) / 32 % 2 ≤ 1
    omega
  obtain ⟨C1, D1, x1, e1, t1, hh1, hb1⟩ := td_L (C0 := C0) (D0 := D0) hg hq n5 v2 v8 h0 h1 n 0 C D x (5 - n) (by omega) h hh (fun i hi => absurd hi (Nat.not_lt_zero _))
  rw [show n + 1 + (5 - n) = 6 by omega] at e1
  have e1' : iter (fun x => S_L_told_134 xs L (nI q) (nI n) x.1 x.2.1 x.2.2.1 x.2.2.2) 6 ((1 : Int32), (0 : Int32), C, D) = some (1, nI n, C1, D1) := e1
  have e64 : (6 : Int32) + (4 : Int32) * nI n = nI (6 + 4 * n) := by
    rw [show (4 : Int32) * nI n = nI (4 * n) from nI_mul 4 n]
    exact nI_ad 6 _
  have un : ∀ {C' D' : Mem} {w : Int32} {tv : Int32}, J_L_told_129 xs L (nI q) (nI A) (nI B) (nI v) (nI n) 1 C D = some (w, C', D') ↔ (if nI B / (128 : Int32) - nI B / (128 : Int32) / (3 : Int32) * (3 : Int32) ≤ 0 then J_L_told_384 (nI A) (nI v) (nI n) 1 (nI (6 + 4 * n)) (40 : Int32) C1 D1 else (b3 (F_L_put (116 : Int32) C1 D1) fun r129 C131 D132 => b1 (iter (fun x => S_L_told_307 (nI B) (nI v) (nI (6 + 4 * n)) x.1 x.2.1 x.2.2.1 x.2.2.2.1 x.2.2.2.2) 9 (r129, nI B / (512 : Int32) - nI B / (512 : Int32) / (60 : Int32) * (60 : Int32), (0 : Int32), C131, D132)) (u5 fun v139 v140 v141 C142 D143 => J_L_told_384 (nI A) (nI v) (nI n) v139 (nI (6 + 4 * n) + ((1 : Int32) + (2 : Int32) * nI v)) (nI B / (512 : Int32) - nI B / (512 : Int32) / (60 : Int32) * (60 : Int32)) C142 D143))) = some (w, C', D') := fun {C' D' w tv} => by
    unfold J_L_told_129
    rw [e1', b1_s, u4_s, e64, nm_s, if_neg (show ¬ (1 : Int32) = 0 by decide)]
    exact Iff.rfl
  by_cases c : nI B / (128 : Int32) - nI B / (128 : Int32) / (3 : Int32) * (3 : Int32) ≤ 0
  · obtain ⟨c', -, hc⟩ := rd_bk hh1 v2 v8 h0 h1 ra rf n1 n5 hb1 (Nat.le_refl _) (fun r => absurd r.1 (by omega))
    have hr := hc _ _ (tt_no (x := x1) (T := 6 + 4 * n) (L := v) (p := 6 + 4 * n) (fun r => absurd r.1 (by omega)))
    rw [if_neg (by omega)] at hr
    have ux : up x1 (6 + 4 * n) 120 (6 + 4 * n) = 120 := up_same _ _ _
    obtain ⟨c2, -, hc2⟩ := rd_bk (T := 6 + 4 * n + 1) (hh1.up (w := 120) (show 6 ≤ 6 + 4 * n by omega)) v2 v8 h0 h1 ra rf n1 n5 (hb1.up (v := 120) (Nat.le_refl _)) (by omega) (fun r => by rw [ux] at r; exact absurd r.2 (by decide))
    have hx := hc2 _ _ (tt_no (L := v) (fun r => by rw [ux] at r; exact absurd r.2 (by decide)))
    rw [if_pos (by omega)] at hx
    obtain ⟨C2, D2, e2, z2, y2⟩ := td_384 hC hD t1 (by omega) hr hx hA e0 (w := 40) rfl M hf'
    exact ⟨C2, D2, _, _, (un (tv := 0)).mpr (by rw [if_pos c]; exact e2), z2, y2⟩
  · have e60 : nI B / (512 : Int32) - nI B / (512 : Int32) / (60 : Int32) * (60 : Int32) = nI (B / 512 % 60) := by
      rw [show nI B / (512 : Int32) = nI (B / 512) from dv hB (d := 512) (by decide) (by decide)]
      exact md (by omega) (d := 60) (by decide) (by decide)
    have ht : B / 512 % 60 ≤ 59 := by omega
    obtain ⟨C2, D2, e2, t2⟩ := t1.put (v := 116) (by omega) (by decide)
    have hh2 := hh1.up (w := 116) (show 6 ≤ 6 + 4 * n by omega)
    have hb2 := hb1.up (v := 116) (Nat.le_refl _)
    have hx2 : up x1 (6 + 4 * n) 116 (6 + 4 * n) = 116 := up_same _ _ _
    generalize up x1 (6 + 4 * n) 116 = x2 at *
    rw [show 6 + 4 * n + 1 = 7 + 4 * n + 2 * 0 by omega] at t2
    obtain ⟨C3, D3, x3, w3, e3, t3, hh3, hb3, hx3, hm3⟩ := td_T hB ht n1 n5 v2 v8 h0 h1 ra rf v 0 C2 D2 x2 (8 - v) (by omega) t2 hh2 hb2 hx2 (fun i hi => absurd hi (Nat.not_lt_zero _))
    rw [show v + 1 + (8 - v) = 9 by omega] at e3
    have e3' : iter (fun x => S_L_told_307 (nI B) (nI v) (nI (6 + 4 * n)) x.1 x.2.1 x.2.2.1 x.2.2.2.1 x.2.2.2.2) 9 ((1 : Int32), nI (B / 512 % 60), (0 : Int32), C2, D2) = some (1, w3, nI v, C3, D3) := e3
    have rt : ∀ i, i < 8 → tF B (B / 512 % 60) i ≤ 99 := fun i hi => by have := tF_le (B := B) ht i; omega
    have mo : ∀ i, i + 1 < 8 → tF B (B / 512 % 60) i ≤ tF B (B / 512 % 60) (i + 1) := fun i _ => Nat.le_add_right _ _
    obtain ⟨c', -, hc⟩ := rd_bk (T := 7 + 4 * n + 2 * v) hh3 v2 v8 h0 h1 ra rf n1 n5 hb3 (by omega) (fun r => by rw [hx3] at r; exact absurd r.2 (by decide))
    obtain ⟨ct, et, -, et0⟩ := (tm_go (x := x3) (T := 7 + 4 * n + 2 * v) rt mo (p0 := 7 + 4 * n) (L := v) (n := v) v8 (Nat.le_refl _) hm3 (Nat.le_refl _) v 0 0 (fun _ => 40) (by omega) (by omega) (fun _ => by omega)).1 rfl
    have hr := hc ct (7 + 4 * n + 2 * v) (by
      rw [tt_yes ⟨by omega, hx3⟩, show 6 + 4 * n + 1 = 7 + 4 * n + 2 * 0 by omega]
      exact et)
    rw [if_neg (by omega)] at hr
    have hx4 : up x3 (7 + 4 * n + 2 * v) 120 (6 + 4 * n) = 116 := by rw [up_ne _ _ (by omega)]; exact hx3
    obtain ⟨c2, -, hc2⟩ := rd_bk (T := 7 + 4 * n + 2 * v + 1) (hh3.up (w := 120) (show 6 ≤ 7 + 4 * n + 2 * v by omega)) v2 v8 h0 h1 ra rf n1 n5 (hb3.up (v := 120) (by omega)) (by omega) (fun r => by rw [hx4] at r; exact absurd r.2 (by decide))
    obtain ⟨ct2, et2, -, -⟩ := (tm_go (x := up x3 (7 + 4 * n + 2 * v) 120) (T := 7 + 4 * n + 2 * v + 1) rt mo (p0 := 7 + 4 * n) (L := v) (n := v) v8 (Nat.le_refl _) (hm3.up (Nat.le_refl _)) (by omega) v 0 0 (fun _ => 40) (by omega) (by omega) (fun _ => by omega)).1 rfl
    have hx := hc2 ct2 (7 + 4 * n + 2 * v) (by
      rw [tt_yes ⟨by omega, hx4⟩, show 6 + 4 * n + 1 = 7 + 4 * n + 2 * 0 by omega]
      exact et2)
    rw [if_pos (by omega)] at hx
    obtain ⟨C4, D4, e4, z4, y4⟩ := td_384 hC hD t3 (by omega) hr hx hA e0 (w := nI (B / 512 % 60)) (congrArg nI (et0 rfl (by omega))) M hf'
    have e161 : nI (6 + 4 * n) + ((1 : Int32) + (2 : Int32) * nI v) = nI (7 + 4 * n + 2 * v) := by
      rw [show (2 : Int32) * nI v = nI (2 * v) from nI_mul 2 v, show (1 : Int32) + nI (2 * v) = nI (1 + 2 * v) from nI_ad 1 _, nI_ad, show 6 + 4 * n + (1 + 2 * v) = 7 + 4 * n + 2 * v by omega]
    exact ⟨C4, D4, _, _, (un (tv := 0)).mpr (by rw [if_neg c, e2, b3_s, e60, e3', b1_s, u5_s, e161]; exact e4), z4, y4⟩
theorem told_ok (hL : L ≤ 260) (hC : Zu N Y K z H hf s C) (hD : Zu N Y K z H hf s D) (hs : s 2 = some (fun _ => nI T)) {q : Nat} (hq : q ≤ 100) (M : Nat) (hf' : Nat → Pg) : ∃ C' D' n v z' T', F_L_told xs L (nI q) C D = some (1, C', D') ∧ Zu n v M z' 0 hf' (s0 T') C' ∧ Zu n v M z' 0 hf' (s0 T') D' := by
  obtain ⟨g, hg⟩ := nums_ok xs L hL
  obtain ⟨gA, eA⟩ := hg q (by omega)
  obtain ⟨gB, eB⟩ := hg (q + 1) (by omega)
  generalize g q = A at *
  generalize g (q + 1) = B at *
  have c1 : C 18 1 = nI T := hC.2.2.2 _ hs
  have d1 : D 18 1 = nI T := hD.2.2.2 _ hs
  have e7 : (2 : Int32) + (nI A - nI A / (7 : Int32) * (7 : Int32)) = nI (2 + A % 7) := by
    rw [show nI A - nI A / (7 : Int32) * (7 : Int32) = nI (A % 7) from md gA (d := 7) (by decide) (by decide)]
    exact nI_ad 2 _
  have e5 : (1 : Int32) + (nI A / (8 : Int32) - nI A / (8 : Int32) / (5 : Int32) * (5 : Int32)) = nI (1 + A / 8 % 5) := by
    rw [show nI A / (8 : Int32) = nI (A / 8) from dv gA (d := 8) (by decide) (by decide), show nI (A / 8) - nI (A / 8) / (5 : Int32) * (5 : Int32) = nI (A / 8 % 5) from md (by omega) (d := 5) (by decide) (by decide)]
    exact nI_ad 1 _
  have e64 : nI A / (64 : Int32) - nI A / (64 : Int32) / (100 : Int32) * (100 : Int32) = nI (A / 64 % 100) := by
    rw [show nI A / (64 : Int32) = nI (A / 64) from dv gA (d := 64) (by decide) (by decide)]
    exact md (by omega) (d := 100) (by decide) (by decide)
  have e100 : nI B - nI B / (100 : Int32) * (100 : Int32) = nI (B % 100) := md gB (d := 100) (by decide) (by decide)
  have v2 : 2 ≤ 2 + A % 7 := by omega
  have v8 : 2 + A % 7 ≤ 8 := by omega
  have n1 : 1 ≤ 1 + A / 8 % 5 := by omega
  have n5 : 1 + A / 8 % 5 ≤ 5 := by omega
  have h0 : A / 64 % 100 ≤ 99 := by omega
  have h1 : B % 100 ≤ 99 := by omega
  generalize hv : 2 + A % 7 = v at *
  generalize hn : 1 + A / 8 % 5 = n at *
  generalize hd0 : A / 64 % 100 = d0 at *
  generalize hd1 : B % 100 = d1' at *
  obtain ⟨C1, f1, x1, k1⟩ := cl_ok (x := fun _ => 0) c1
  obtain ⟨D1, f2, x2, k2⟩ := cl_ok (x := fun _ => 0) d1
  have t0 : T2 0 (fun _ => 0) C D C1 D1 := ⟨x1, x2, k1, k2⟩
  obtain ⟨p1, p2⟩ := dgt (c := v) (by omega)
  obtain ⟨C2, D2, e2, t2⟩ := t0.put (v := 72) (by decide) (by decide)
  have a0 : up (fun _ => 0) 0 72 0 = 72 := up_same _ _ _
  generalize up (fun _ => (0 : Int32)) 0 72 = y2 at *
  obtain ⟨C3, e3, t3⟩ := t2.el (rd_h1 a0)
  obtain ⟨C4, D4, e4, t4⟩ := t3.put (v := nI (48 + v)) (by decide) p2
  obtain ⟨C6, D6, e6, t6⟩ := t4.two (c := d0) (by decide) h0
  have b0 : up (up (up y2 (0 + 1) (nI (48 + v))) (0 + 1 + 1) (nI (48 + d0 / 10))) (0 + 1 + 1 + 1) (nI (48 + d0 % 10)) 0 = 72 := by rw [up_ne _ _ (by decide), up_ne _ _ (by decide), up_ne _ _ (by decide)]; exact a0
  have b1 : up (up (up y2 (0 + 1) (nI (48 + v))) (0 + 1 + 1) (nI (48 + d0 / 10))) (0 + 1 + 1 + 1) (nI (48 + d0 % 10)) 1 = nI (48 + v) := by rw [up_ne _ _ (by decide), up_ne _ _ (by decide)]; exact up_same _ _ _
  have b2 : up (up (up y2 (0 + 1) (nI (48 + v))) (0 + 1 + 1) (nI (48 + d0 / 10))) (0 + 1 + 1 + 1) (nI (48 + d0 % 10)) 2 = nI (48 + d0 / 10) := by rw [up_ne _ _ (by decide)]; exact up_same _ _ _
  have b3 : up (up (up y2 (0 + 1) (nI (48 + v))) (0 + 1 + 1) (nI (48 + d0 / 10))) (0 + 1 + 1 + 1) (nI (48 + d0 % 10)) 3 = nI (48 + d0 % 10) := up_same _ _ _
  generalize up (up (up y2 (0 + 1) (nI (48 + v))) (0 + 1 + 1) (nI (48 + d0 / 10))) (0 + 1 + 1 + 1) (nI (48 + d0 % 10)) = y4 at *
  have t6' : T2 4 y4 C D C6 D6 := t6
  obtain ⟨C7, e7', t7⟩ := t6'.el (rd_h4 b0 b1 b2 b3 v2 v8 h0)
  obtain ⟨C8, D8, e8, t8⟩ := t7.two (c := d1') (by decide) h1
  have hh : HDR (up (up y4 4 (nI (48 + d1' / 10))) (4 + 1) (nI (48 + d1' % 10))) v d0 d1' := ⟨by rw [up_ne _ _ (by decide), up_ne _ _ (by decide)]; exact b0, by rw [up_ne _ _ (by decide), up_ne _ _ (by decide)]; exact b1, by rw [up_ne _ _ (by decide), up_ne _ _ (by decide)]; exact b2, by rw [up_ne _ _ (by decide), up_ne _ _ (by decide)]; exact b3, by rw [up_ne _ _ (by decide)]; exact up_same _ _ _, up_same _ _ _⟩
  generalize up (up y4 4 (nI (48 + d1' / 10))) (4 + 1) (nI (48 + d1' % 10)) = y6 at *
  have t8' : T2 6 y6 C D C8 D8 := t8
  obtain ⟨C9, e9, t9⟩ := t8'.el (rd_h6 hh v2 v8 h0 h1)
  obtain ⟨C', D', z', T', eR, zR, yR⟩ := td_129 (x := y6) hg hC hD gA gB hq n1 n5 v2 v8 hd0.symm h1 t9 hh M hf'
  refine ⟨C', D', n, v, z', T', ?_, zR, yR⟩
  have e3' : F_X8_errorPosition C2 = some (1, C3) := e3
  have e7'' : F_X8_errorPosition C6 = some (4, C7) := e7'
  have e9' : F_X8_errorPosition C8 = some (6, C9) := e9
  unfold F_L_told
  rw [eA, b3_s, show nI q + (1 : Int32) = nI (q + 1) from nI_ad q 1, eB, b3_s, e7, e5, nm_s, nm_s, e64, e100, p1, f1, b2_s, f2, b2_s, if_pos rfl, e2, b3_s, if_neg (by decide), e3', b2_s, if_pos rfl, e4, b3_s, if_neg (by decide), e6, b3_s, if_neg (by decide), e7'', b2_s, if_pos rfl, e8, b3_s, if_neg (by decide), e9', b2_s, if_pos rfl, eR]
end TOLD3
