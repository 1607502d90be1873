/-! a tick, ticks: class and model -/
def wk1 (Y i : Nat) (t : Pg) : Pg := htn Y (wkV t i).toNatClampNeg (wkP t i)
def wka (N Y : Nat) (t : Pg) : Pg := fe (wk1 Y) N t
def kb (y : Pg) : Pg := if y 6 - y 6 / 24 * 24 = y 5 then up y 8 1 else y
def tk (N Y d : Nat) (y : Pg) : Pg := inc (klT (stl Y (wka N Y (ctl N Y (kb (dl Y d y))))) (decide (stl Y (wka N Y (ctl N Y (kb (dl Y d y)))) 3 ≤ stl Y (wka N Y (ctl N Y (kb (dl Y d y)))) 22))) 6 1
def tkn (N Y d m : Nat) (y : Pg) : Pg := fe (fun _ => tk N Y d) m y
theorem wkV_n {K i : Nat} {y : Pg} (h : Bo K y i) : ∃ n : Nat, n ≤ 30 ∧ wkV y i = nI n := by
  unfold wkV
  split
  · exact ⟨(y (30 + 7 * i)).toInt.toNat, by have := h.1; omega, i_eq (by have := h.1; rw [ti _ (by omega)]; omega)⟩
  · exact ⟨0, by decide, rfl⟩
theorem WF.k_wkP {N Y K i : Nat} (hY : Y ≤ 8) {y : Pg} (h : WF N Y K y) (hB : Bo K (wkP y i) i) : WF N Y K (wkP y i) := h.b hY (fun _ ha => wkP_out ha) hB
theorem wk1_out {Y i : Nat} (hY : 1 ≤ Y) {t : Pg} {a : Nat} (h : a ≠ 13 ∧ a ≠ 16 ∧ (a < 22 ∨ 22 + Y ≤ a)) (h2 : a < 30 + 7 * i ∨ 30 + 7 * i + 7 ≤ a) : wk1 Y i t a = t a := (htn_out hY h _ _).trans (wkP_out h2)
/-- in the midst of the boilers' work -/
def Wi (N Y K i : Nat) (t : Pg) : Prop := WF N Y (K + 1) t ∧ ∀ j, i ≤ j → j < N → Bo K t j
theorem Wi.st {N Y K i : Nat} (h1 : 1 ≤ Y) (h8 : Y ≤ 8) (hK : K < 1000000) {t : Pg} (h : Wi N Y K i t) (hi : i < N) : Wi N Y K (i + 1) (wk1 Y i t) :=
  ⟨(h.1.k_wkP h8 ((h.2 i (Nat.le_refl i) hi).k_work hK)).k_htn h1 h8 _, fun j hj hjN => (h.2 j (by omega) hjN).cg fun f hf => wk1_out h1 (by omega) (by omega)⟩
theorem WF.k_wka {N Y K : Nat} (h1 : 1 ≤ Y) (h8 : Y ≤ 8) (hK : K < 1000000) {t : Pg} (h : WF N Y K t) : WF N Y (K + 1) (wka N Y t) :=
  (fe_inv (f := wk1 Y) (I := fun i u => Wi N Y K i u) ⟨h.mo (Nat.le_succ K), fun j _ hj => h.2.2.2.2.2.2 j hj⟩ fun _ _ hi hu => hu.st h1 h8 hK hi).1
theorem WF.k_kb {N Y K : Nat} {t : Pg} (h : WF N Y K t) : WF N Y K (kb t) := by
  unfold kb
  split
  · obtain ⟨g1, g2, g3, g4, g5, g6, g7⟩ := h
    exact ⟨fun j hj => by rw [up_ne _ _ (by omega)]; exact g1 j hj, Or.inr (up_same _ _ _), by rw [up_ne _ _ (by decide)]; exact g3, by rw [up_ne _ _ (by decide)]; exact g4, by rw [up_ne _ _ (by decide)]; exact g5, by rw [up_ne _ _ (by decide)]; exact g6, fun i hi => (g7 i hi).cg fun f hf => up_ne _ _ (by omega)⟩
  · exact h
theorem WF.k_tk {N Y K : Nat} (h1 : 1 ≤ Y) (h8 : Y ≤ 8) (hK : K < 1000000) {t : Pg} (h : WF N Y K t) (d : Nat) : WF N Y (K + 1) (tk N Y d t) := by
  unfold tk
  exact WF.k_inc ((((((h.k_dl h1 h8 d).k_kb).k_ctl h8).k_wka h1 h8 hK).k_stl h8).k_kl _) (by decide) (by decide) (by decide) (by decide) _
theorem WF.k_tkn {N Y K : Nat} (h1 : 1 ≤ Y) (h8 : Y ≤ 8) {t : Pg} (h : WF N Y K t) (d : Nat) : ∀ m : Nat, K + m < 1000000 → WF N Y (K + m) (tkn N Y d m t)
  | 0, _ => h
  | m + 1, hm => (WF.k_tkn h1 h8 h d m (by omega)).k_tk h1 h8 (by omega) d
/-! what lies behind the boilers stays -/
theorem klT_hi (y : Pg) (b : Bool) {k : Nat} (hk : 13 ≤ k) : klT y b k = y k := by
  have he : ∀ (z : Pg), z k = y k → kend z k = y k := fun z e => by unfold kend; rw [up_ne _ _ (by omega), up_ne _ _ (by omega), up_ne _ _ (by omega)]; exact e
  unfold klT
  by_cases h0 : y 8 = 0
  · rw [if_pos h0]
  · rw [if_neg h0]
    generalize (if b = true then y 9 + 1 else 0) = v
    have hz : (up (inc y 10 1) 9 v) k = y k := by rw [up_ne _ _ (by omega), inc_ne _ _ (by omega)]
    show (if (up (inc y 10 1) 9 v) 9 < (up (inc y 10 1) 9 v) 4 then (if (up (inc y 10 1) 9 v) 10 < 12 then up (inc y 10 1) 9 v else kend (inc (up (inc y 10 1) 9 v) 12 1)) else kend (inc (up (inc y 10 1) 9 v) 11 1)) k = y k
    split
    · split
      · exact hz
      · exact he _ ((inc_ne _ _ (by omega)).trans hz)
    · exact he _ ((inc_ne _ _ (by omega)).trans hz)
theorem stl_hi (Y : Nat) (y : Pg) (h8 : Y ≤ 8) {k : Nat} (hk : 30 ≤ k) : stl Y y k = y k := by
  unfold stl
  rw [fe_hi _ fun i t hi => srf_hi i t (by omega) hk, fe_hi _ fun i t hi => clf_hi i t (by omega) hk]
theorem wka_hi {N Y : Nat} (y : Pg) (h1 : 1 ≤ Y) (h8 : Y ≤ 8) (h5 : N ≤ 5) {k : Nat} (hk : 65 ≤ k) : wka N Y y k = y k := fe_hi _ fun i t hi => wk1_out h1 (by omega) (by omega)
theorem ctl_hi {N Y : Nat} (y : Pg) (h5 : N ≤ 5) {k : Nat} (hk : 65 ≤ k) : ctl N Y y k = y k := by
  unfold ctl
  split
  · split
    · exact up_ne _ _ (by omega)
    · cases hb : rs N (up y 7 0) with
      | none => exact up_ne _ _ (by omega)
      | some b =>
        have := rs_lt hb
        show lv (up y 7 0) b 3 k = y k
        rw [lv_out 3 (by omega)]
        exact up_ne _ _ (by omega)
  · cases hb : nx N (up y 7 0) with
    | none =>
      show up (up y 7 0) 7 _ k = y k
      rw [up_ne _ _ (by omega)]
      exact up_ne _ _ (by omega)
    | some b =>
      have := nx_lt hb
      show stt (up y 7 0) b _ k = y k
      rw [stt_out _ (by omega)]
      exact up_ne _ _ (by omega)
theorem kb_hi (y : Pg) {k : Nat} (hk : 9 ≤ k) : kb y k = y k := by
  unfold kb
  split
  · exact up_ne _ _ (by omega)
  · rfl
theorem tk_hi {N Y : Nat} (d : Nat) (y : Pg) (h1 : 1 ≤ Y) (h8 : Y ≤ 8) (h5 : N ≤ 5) {k : Nat} (hk : 65 ≤ k) : tk N Y d y k = y k := by
  unfold tk
  rw [inc_ne _ _ (by omega), klT_hi _ _ (by omega), stl_hi _ _ h8 (by omega), wka_hi _ h1 h8 h5 hk, ctl_hi _ h5 hk, kb_hi _ (by omega), dl_hi _ _ _ h8 (by omega)]
theorem tkn_hi {N Y : Nat} (d m : Nat) (y : Pg) (h1 : 1 ≤ Y) (h8 : Y ≤ 8) (h5 : N ≤ 5) {k : Nat} (hk : 65 ≤ k) : tkn N Y d m y k = y k := fe_hi y fun _ t _ => tk_hi d t h1 h8 h5 hk
theorem mv_hi {N : Nat} (f : Nat) (o : Bool) (y : Pg) (hf : f < 2) (h5 : N ≤ 5) {k : Nat} (hk : 65 ≤ k) : (mv N f o y).2 k = y k := by
  unfold mv
  cases o with
  | true => simp only [if_true]; exact up_ne _ _ (by omega)
  | false =>
    simp only [Bool.false_eq_true, if_false]
    exact fe_inv (f := mvf f) (I := fun (_ : Nat) (p : Int32 × Pg) => p.2 k = y k) (up_ne _ _ (by omega)) fun i p hi hp => (mvf_hi f i p (by omega) hk).trans hp
section TICK
variable {C : Mem} {q r N Y K : Nat} {y : Pg}
theorem g_works (hN : y 65 = nI N) (hY : y 66 = nI Y) (h5 : N ≤ 5) (h1 : 1 ≤ Y) (h8 : Y ≤ 8) (hK : K < 1000000) (hW : WF N Y K y) (q : Nat) : iter (fun w => S_X5_passTicks_72 q w.1 w.2) fuel ((0 : Int32), sr C q y) = some (nI N, sr C q (wka N Y y)) :=
  iter_emb (n := N) (t0 := y) (fun i t => (nI i, sr C q t)) (wk1 Y) (fun i t => Wi N Y K i t ∧ t 65 = nI N ∧ t 66 = nI Y) (fun t => (nI N, sr C q t)) (by omega) ⟨⟨hW.mo (Nat.le_succ K), fun j _ hj => hW.2.2.2.2.2.2 j hj⟩, hN, hY⟩ (fun i t hi ht => ⟨by
    show S_X5_passTicks_72 q (nI i) (sr C q t) = _
    have hB := ht.1.2 i (Nat.le_refl i) hi
    have hP := ht.1.1.k_wkP h8 (hB.k_work hK)
    obtain ⟨n, hn, en⟩ := wkV_n hB
    unfold S_X5_passTicks_72 wk1
    rw [sr_same, ht.2.1, if_neg (nI_ge hi (by omega)), gi_n (by omega) (by decide), nI_clamp (by omega), g_work, b2_s, en, g_warm (by rw [wkP_out (by omega)]; exact ht.2.2) h1 h8 hP.1 q (by omega), b2_s, nm_s, nI_1, nI_clamp (by omega)], ht.1.st h1 h8 hK hi, by rw [wk1_out h1 (by omega) (by omega)]; exact ht.2.1, by rw [wk1_out h1 (by omega) (by omega)]; exact ht.2.2⟩) (fun t ht => by
    show S_X5_passTicks_72 q (nI N) (sr C q t) = _
    unfold S_X5_passTicks_72
    rw [sr_same, ht.2.1, if_pos (nI_le (Nat.le_refl N) (by omega))])
theorem g_tickC (hN : y 65 = nI N) (hY : y 66 = nI Y) (h5 : N ≤ 5) (h1 : 1 ≤ Y) (h8 : Y ≤ 8) (hK : K < 1000000) (hW : WF N Y K y) (q : Nat) {d i m : Nat} (hd : d < 1000) (hi : i < m) (hm : m < 1000) : S_X5_passTicks_2 q (nI m) (nI d) (nI i) (sr C q y) = some (.inl (nI (i + 1), sr C q (tk N Y d y))) := by
  have hD := hW.k_dl h1 h8 d
  have hKb := hD.k_kb
  have hCt := hKb.k_ctl h8
  have hWa := hCt.k_wka h1 h8 hK
  have nD : kb (dl Y d y) 65 = nI N := by rw [kb_hi _ (by decide), dl_hi _ _ _ h8 (by decide)]; exact hN
  have yD : kb (dl Y d y) 66 = nI Y := by rw [kb_hi _ (by decide), dl_hi _ _ _ h8 (by decide)]; exact hY
  have nC : ctl N Y (kb (dl Y d y)) 65 = nI N := by rw [ctl_hi _ h5 (by decide)]; exact nD
  have yC : ctl N Y (kb (dl Y d y)) 66 = nI Y := by rw [ctl_hi _ h5 (by decide)]; exact yD
  have yW : wka N Y (ctl N Y (kb (dl Y d y))) 66 = nI Y := by rw [wka_hi _ h1 h8 h5 (by decide)]; exact yC
  have k143 : ∀ (s : Pg) (b : Bool), J_X5_passTicks_143 q (nI i) (sr C q s) (if b then 1 else 0) = some (.inl (nI (i + 1), sr C q (inc (klT s b) 6 1))) := fun s b => by
    unfold J_X5_passTicks_143
    rw [cl_4, sr_same, g_countTick, b2_s, nm_s, mu_sr, sr_same, nm_s, nI_1]
    rfl
  have k66 : J_X5_passTicks_66 q (nI i) (sr C q (kb (dl Y d y))) (ctlG (kb (dl Y d y))) = some (.inl (nI (i + 1), sr C q (tk N Y d y))) := by
    unfold J_X5_passTicks_66 tk
    rw [g_control nD yD h5 h1 h8 hK hKb, b2_s, g_works nC yC h5 h1 h8 hK hCt q, b1_s, u2_s, g_cool yW h8, b2_s, g_sort (by rw [fe_hi _ fun i t hi => clf_hi i t (by omega) (by decide)]; exact yW) h1 h8, b2_s]
    show b2 (F_X7_coldest q (sr C q (stl Y (wka N Y (ctl N Y (kb (dl Y d y))))))) _ = _
    rw [g_coldest (by rw [stl_hi _ _ h8 (by decide)]; exact yW) h8, b2_s, cd_stl h1 h8 hWa, cl_3, sr_same]
    by_cases hc : stl Y (wka N Y (ctl N Y (kb (dl Y d y)))) 22 < stl Y (wka N Y (ctl N Y (kb (dl Y d y)))) 3
    · rw [if_pos hc, show decide (stl Y (wka N Y (ctl N Y (kb (dl Y d y)))) 3 ≤ stl Y (wka N Y (ctl N Y (kb (dl Y d y)))) 22) = false by simpa using (fa_of_lt hc).2.1]
      exact k143 _ false
    · rw [if_neg hc, show decide (stl Y (wka N Y (ctl N Y (kb (dl Y d y)))) 3 ≤ stl Y (wka N Y (ctl N Y (kb (dl Y d y)))) 22) = true by simpa using fa_of_nlt hc]
      exact k143 _ true
  have k40 : J_X5_passTicks_40 q (nI i) (sr C q (kb (dl Y d y))) = some (.inl (nI (i + 1), sr C q (tk N Y d y))) := by
    unfold J_X5_passTicks_40
    rw [sr_same, cl_0, cl_3]
    split
    · rename_i h
      rw [show kb (dl Y d y) 0 = ctlG (kb (dl Y d y)) by unfold ctlG; rw [if_pos h]]
      exact k66
    · rename_i h
      rw [show kb (dl Y d y) 3 = ctlG (kb (dl Y d y)) by unfold ctlG; rw [if_neg h]]
      exact k66
  unfold S_X5_passTicks_2
  rw [if_neg (nI_ge hi (by omega)), g_deliver hY h1 h8 q hd, b2_s, cl_5, sr_same]
  by_cases hc : dl Y d y 6 - dl Y d y 6 / 24 * 24 = dl Y d y 5
  · rw [if_pos hc, nm_s, mu_sr, show up (dl Y d y) 8 1 = kb (dl Y d y) by unfold kb; rw [if_pos hc]]
    exact k40
  · rw [if_neg hc]
    have e : kb (dl Y d y) = dl Y d y := by unfold kb; rw [if_neg hc]
    rw [e] at k40
    exact k40
theorem g_passTicks (hN : y 65 = nI N) (hY : y 66 = nI Y) (h5 : N ≤ 5) (h1 : 1 ≤ Y) (h8 : Y ≤ 8) (q : Nat) {d m : Nat} (hd : d < 1000) (hm : m < 1000) (hK : K + m < 1000000) (hW : WF N Y K y) : F_X5_passTicks q (nI m) (nI d) (sr C q y) = some (0, sr C q (tkn N Y d m y)) := by
  have h : iter (fun w => S_X5_passTicks_2 q (nI m) (nI d) w.1 w.2) fuel ((0 : Int32), sr C q y) = some (nI m, sr C q (tkn N Y d m y)) :=
    iter_emb (n := m) (t0 := y) (fun i t => (nI i, sr C q t)) (fun _ => tk N Y d) (fun i t => WF N Y (K + i) t ∧ t 65 = nI N ∧ t 66 = nI Y) (fun t => (nI m, sr C q t)) hm ⟨hW, hN, hY⟩ (fun i t hi ht => ⟨g_tickC ht.2.1 ht.2.2 h5 h1 h8 (by omega) ht.1 q hd hi hm, ht.1.k_tk h1 h8 (by omega) d, (tk_hi d t h1 h8 h5 (by decide)).trans ht.2.1, (tk_hi d t h1 h8 h5 (by decide)).trans ht.2.2⟩) (fun t _ => by
      show S_X5_passTicks_2 q (nI m) (nI d) (nI m) (sr C q t) = _
      unfold S_X5_passTicks_2
      rw [if_pos (nI_le (Nat.le_refl m) (by omega))])
  unfold F_X5_passTicks
  rw [h, b1_s, u2_s]
/-! the model's -/
theorem left_0 {x : Int32} (h : 1 ≤ x.toInt ∧ x.toInt ≤ 5) : (x - 1 = 0 ↔ ¬ 0 < x - 1) ∧ (x - 1).toInt = x.toInt - 1 := by
  have e1 : (1 : Int32).toInt = 1 := rfl
  have e0 : (0 : Int32).toInt = 0 := rfl
  have es : (x - 1).toInt = x.toInt - 1 := fb_subI (by omega) (by omega)
  refine ⟨?_, es⟩
  rw [fa_eq, fa_lt, es, e0]
  omega
end TICK

