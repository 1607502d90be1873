/-! what counts alone decides -/
section SAME
variable {N Y : Nat} {y z : Pg}
theorem Agree.inc' (h : Agree N Y y z) {k : Nat} (hk : y k = z k) {v w : Int32} (e : v = w) : Agree N Y (inc y k v) (inc z k w) := h.put (by rw [hk, e])
theorem Agree.b1 (h : Agree N Y y z) {i : Nat} (hi : i < N) : y (30 + 7 * i + 1) = z (30 + 7 * i + 1) := h.2.2 i 1 hi (by decide)
theorem Agree.b2 (h : Agree N Y y z) {i : Nat} (hi : i < N) : y (30 + 7 * i + 2) = z (30 + 7 * i + 2) := h.2.2 i 2 hi (by decide)
theorem Agree.b3 (h : Agree N Y y z) {i : Nat} (hi : i < N) : y (30 + 7 * i + 3) = z (30 + 7 * i + 3) := h.2.2 i 3 hi (by decide)
theorem Agree.b4 (h : Agree N Y y z) {i : Nat} (hi : i < N) : y (30 + 7 * i + 4) = z (30 + 7 * i + 4) := h.2.2 i 4 hi (by decide)
theorem Agree.b5 (h : Agree N Y y z) {i : Nat} (hi : i < N) : y (30 + 7 * i + 5) = z (30 + 7 * i + 5) := h.2.2 i 5 hi (by decide)
theorem Agree.b6 (h : Agree N Y y z) {i : Nat} (hi : i < N) : y (30 + 7 * i + 6) = z (30 + 7 * i + 6) := h.2.2 i 6 hi (by decide)
theorem avg_c (h : Agree N Y y z) : avg Y y = avg Y z := by
  unfold avg
  rw [sm_cong fun j hj => h.2.1 j hj]
theorem fuS_c (h : Agree N Y y z) : fuS N y = fuS N z := sm_cong fun _ hi => h.b6 hi
theorem stS_c (h : Agree N Y y z) : stS N y = stS N z := sm_cong fun _ hi => h.b5 hi
theorem cnS_c (h : Agree N Y y z) (x : Int32) : cnS N x y = cnS N x z := sm_cong fun i hi => by rw [h.b2 hi]
theorem cfS_c (h : Agree N Y y z) (x : Int32) : cfS N x y = cfS N x z := sm_cong fun i hi => by rw [h.b1 hi]
theorem usS_c (h : Agree N Y y z) (x : Int32) : usS N x y = usS N x z := sm_cong fun i hi => by rw [h.b1 hi, h.b2 hi, h.b0 hi]
theorem pwS_c (h : Agree N Y y z) (x b : Int32) : pwS N x b y = pwS N x b z := sm_cong fun i hi => by rw [h.b1 hi, h.b0 hi]
theorem fiS_c (h : Agree N Y y z) {i : Nat} (hi : i < N) : fiS y i = fiS z i := by
  unfold fiS
  rw [h.b1 hi]
theorem rm_c (h : Agree N Y y z) {i : Nat} (hi : i < N) : rm N y i = rm N z i := by
  have hf := fiS_lt z i
  unfold rm
  rw [fiS_c h hi, h.1 (20 + fiS z i) (by omega), h.1 (18 + fiS z i) (by omega), h.b1 hi, usS_c h, h.b0 hi]
theorem wt_c (h : Agree N Y y z) {i : Nat} (hi : i < N) : wt y i = wt z i := by
  unfold wt
  rw [h.b2 hi]
theorem may_c (h : Agree N Y y z) {i : Nat} (hi : i < N) : may N y i = may N z i := by
  have e : wt y i ↔ wt z i := by rw [wt_c h hi]
  unfold may
  rw [rm_c h hi]
  congr 1
  exact decide_eq_decide.mpr e
theorem nxf_c (h : Agree N Y y z) {i : Nat} (hi : i < N) {t : Option Nat} (ht : ∀ b, t = some b → b < i) : nxf N y i t = nxf N z i t := by
  unfold nxf
  rw [may_c h hi]
  cases t with
  | none => rfl
  | some b =>
    have := ht b rfl
    show (if may N z i = true then (if y (30 + 7 * i + 4) < y (30 + 7 * b + 4) then _ else _) else _) = (if may N z i = true then (if z (30 + 7 * i + 4) < z (30 + 7 * b + 4) then _ else _) else _)
    rw [h.b4 hi, h.b4 (show b < N by omega)]
theorem nx_c (h : Agree N Y y z) : nx N y = nx N z :=
  (fe_rel (f := nxf N y) (g := nxf N z) (R := fun i t u => t = u ∧ ∀ b, t = some b → b < i) ⟨rfl, fun b e => by cases e⟩ fun i t u hi hR => by
    obtain ⟨rfl, hb⟩ := hR
    exact ⟨nxf_c h hi hb, nxf_lt hb⟩).1
theorem rsf_c (h : Agree N Y y z) {i : Nat} (hi : i < N) {t : Option Nat} (ht : ∀ b, t = some b → b < i) : rsf y i t = rsf z i t := by
  unfold rsf
  rw [h.b2 hi]
  cases t with
  | none => rfl
  | some b =>
    have := ht b rfl
    show (if _ then (if y (30 + 7 * i + 4) < y (30 + 7 * b + 4) then _ else _) else _) = (if _ then (if z (30 + 7 * i + 4) < z (30 + 7 * b + 4) then _ else _) else _)
    rw [h.b4 hi, h.b4 (show b < N by omega)]
theorem rs_c (h : Agree N Y y z) : rs N y = rs N z :=
  (fe_rel (f := rsf y) (g := rsf z) (R := fun i t u => t = u ∧ ∀ b, t = some b → b < i) ⟨rfl, fun b e => by cases e⟩ fun i t u hi hR => by
    obtain ⟨rfl, hb⟩ := hR
    exact ⟨rsf_c h hi hb, rsf_lt hb⟩).1
theorem whf_c (h : Agree N Y y z) {i : Nat} (hi : i < N) (v : Int32) : whf y i v = whf z i v := by
  have hf := fiS_lt z i
  by_cases hw : wt z i
  · rw [whf_t hw, whf_t (by rw [wt_c h hi]; exact hw), fiS_c h hi, h.1 (20 + fiS z i) (by omega)]
  · rw [whf_f hw, whf_f (by rw [wt_c h hi]; exact hw)]
theorem wh_c (h : Agree N Y y z) : wh N y = wh N z := fe_cong fun _ v hi => whf_c h hi v
theorem Agree.k_shf (h : Agree N Y y z) {i : Nat} (hi : i < Y - 1) : Agree N Y (shf Y i y) (shf Y i z) := h.put (h.2.1 _ (by omega))
theorem Agree.k_dr1 (h : Agree N Y y z) : Agree N Y (dr1 Y y) (dr1 Y z) := by
  have h0 : Agree N Y (fe (shf Y) (Y - 1) y) (fe (shf Y) (Y - 1) z) := fe_rel (R := fun _ t u => Agree N Y t u) h fun i t u hi hR => hR.k_shf hi
  have h1 : Agree N Y (up (fe (shf Y) (Y - 1) y) 22 10) (up (fe (shf Y) (Y - 1) z) 22 10) := h0.put rfl
  have h2 := h1.inc' (k := 14) (v := 10) (h1.1 14 (by decide)) rfl
  exact h2.inc' (h2.1 17 (by decide)) rfl
theorem dlv_c (h1 : 1 ≤ Y) (h : Agree N Y y z) (d : Nat) : (dlv Y d y).1 = (dlv Y d z).1 ∧ Agree N Y (dlv Y d y).2 (dlv Y d z).2 :=
  fe_rel (f := dlf Y) (g := dlf Y) (t := (0, y)) (u := (0, z)) (R := fun (_ : Nat) (p q : Int32 × Pg) => p.1 = q.1 ∧ Agree N Y p.2 q.2) ⟨rfl, h⟩ fun i p q hi hR => ⟨by
    show p.1 + p.2 (22 + (Y - 1)) = q.1 + q.2 (22 + (Y - 1))
    rw [hR.1, hR.2.2.1 (Y - 1) (by omega)], hR.2.k_dr1⟩
theorem Agree.k_dl (h1 : 1 ≤ Y) (h : Agree N Y y z) (d : Nat) : Agree N Y (dl Y d y) (dl Y d z) := (dlv_c h1 h d).2.inc' ((dlv_c h1 h d).2.1 15 (by decide)) (dlv_c h1 h d).1
theorem Agree.k_kb (h : Agree N Y y z) : Agree N Y (kb y) (kb z) := by
  unfold kb
  rw [h.1 6 (by decide), h.1 5 (by decide)]
  split
  · exact h.put rfl
  · exact h
theorem Agree.k_lv (h : Agree N Y y z) (i : Nat) (x : Int32) : Agree N Y (lv y i x) (lv z i x) := (h.put rfl).put rfl
theorem Agree.k_stt (h : Agree N Y y z) {i : Nat} (hi : i < N) {p p' : Int32} (e : p = p') : Agree N Y (stt y i p) (stt z i p') := by
  subst e
  unfold stt
  rw [h.b2 hi]
  split
  · have h1 : Agree N Y (up y (30 + 7 * i + 2) 2) (up z (30 + 7 * i + 2) 2) := h.put rfl
    exact h1.inc' (h1.b5 hi) rfl
  · have h1 : Agree N Y (up (up y (30 + 7 * i + 2) 1) (30 + 7 * i + 3) p) (up (up z (30 + 7 * i + 2) 1) (30 + 7 * i + 3) p) := (h.put rfl).put rfl
    exact h1.inc' (h1.b5 hi) rfl
theorem ctlG_c (h : Agree N Y y z) : ctlG y = ctlG z := by
  unfold ctlG
  rw [h.1 8 (by decide), h.1 0 (by decide), h.1 3 (by decide)]
theorem Agree.k_rst (h : Agree N Y y z) (t : Option Nat) : Agree N Y (rst y t) (rst z t) := by
  cases t with
  | none => exact h
  | some b => exact h.k_lv b 3
theorem Agree.k_sta (h : Agree N Y y z) (t : Option Nat) (ht : ∀ b, t = some b → b < N) : Agree N Y (sta N y t) (sta N z t) := by
  cases t with
  | none => exact h.put (wh_c h)
  | some b => exact h.k_stt (ht b rfl) (h.1 2 (by decide))
theorem Agree.k_ctl (h : Agree N Y y z) : Agree N Y (ctl N Y y) (ctl N Y z) := by
  have hz : Agree N Y (up y 7 0) (up z 7 0) := h.put rfl
  unfold ctl
  rw [ctlG_c h, avg_c h, h.1 1 (by decide), rs_c hz, nx_c hz]
  split
  · split
    · exact hz
    · exact hz.k_rst _
  · exact hz.k_sta _ fun b e => nx_lt e
theorem Agree.k_ht1 (h1 : 1 ≤ Y) (h : Agree N Y y z) : Agree N Y (ht1 Y y) (ht1 Y z) := by
  have hlo := (lo_spec Y h1 z).1
  unfold ht1
  rw [lo_cong h1 h.2.1, h.2.1 _ hlo]
  split
  · have g := h.inc' (k := 16) (v := 1) (h.1 16 (by decide)) rfl
    exact g.inc' (g.1 13 (by decide)) rfl
  · have g := h.inc' (k := 22 + lo Y z) (v := 1) (h.2.1 _ hlo) rfl
    exact g.inc' (g.1 13 (by decide)) rfl
theorem Agree.k_htn (h1 : 1 ≤ Y) (h : Agree N Y y z) (n : Nat) : Agree N Y (htn Y n y) (htn Y n z) := fe_rel (R := fun _ t u => Agree N Y t u) h fun _ _ _ _ hR => hR.k_ht1 h1
theorem Agree.k_wkP (h : Agree N Y y z) {i : Nat} (hi : i < N) : Agree N Y (wkP y i) (wkP z i) := by
  unfold wkP
  rw [h.b2 hi, h.b3 hi, h.b0 hi]
  split
  · split
    · exact h.put rfl
    · exact h.k_lv i 2
  · split
    · have g := h.inc' (k := 30 + 7 * i + 4) (v := 1) (h.b4 hi) rfl
      exact g.inc' (g.b6 hi) rfl
    · split
      · exact h.inc' (h.b6 hi) rfl
      · exact h
theorem wkV_c (h : Agree N Y y z) {i : Nat} (hi : i < N) : wkV y i = wkV z i := by
  unfold wkV
  rw [h.b2 hi, h.b0 hi]
theorem Agree.k_wka (h1 : 1 ≤ Y) (h : Agree N Y y z) : Agree N Y (wka N Y y) (wka N Y z) :=
  fe_rel (f := wk1 Y) (g := wk1 Y) (R := fun _ t u => Agree N Y t u) h fun i t u hi hR => by
    unfold wk1
    rw [wkV_c hR hi]
    exact (hR.k_wkP hi).k_htn h1 _
theorem Agree.k_clf (h : Agree N Y y z) {j : Nat} (hj : j < Y) : Agree N Y (clf j y) (clf j z) := by
  unfold clf
  rw [h.2.1 j hj]
  split
  · exact h
  · have g := h.inc' (k := 22 + j) (v := -((z (22 + j) - 20) / 20)) (h.2.1 j hj) rfl
    exact g.inc' (g.1 16 (by decide)) rfl
theorem ins_c (v : Int32) : ∀ (p : Nat) (y z : Pg), p < Y → Agree N Y y z → (ins v p y).1 = (ins v p z).1 ∧ Agree N Y (ins v p y).2 (ins v p z).2
  | 0, _, _, _, h => ⟨rfl, h⟩
  | p + 1, y, z, hp, h => by
    unfold ins
    rw [h.2.1 p (by omega)]
    split
    · exact ⟨rfl, h⟩
    · exact ins_c v p _ _ (by omega) (h.put rfl)
theorem Agree.k_srf (h : Agree N Y y z) {i : Nat} (hi : i + 1 < Y) : Agree N Y (srf i y) (srf i z) := by
  unfold srf
  rw [h.2.1 (i + 1) hi]
  obtain ⟨e, g⟩ := ins_c (N := N) (z (22 + (i + 1))) (i + 1) y z hi h
  rw [e]
  exact g.put rfl
theorem Agree.k_stl (h : Agree N Y y z) : Agree N Y (stl Y y) (stl Y z) := by
  unfold stl
  refine fe_rel (R := fun _ t u => Agree N Y t u) ?_ fun i t u hi hR => hR.k_srf (by omega)
  exact fe_rel (R := fun _ t u => Agree N Y t u) h fun i t u hi hR => hR.k_clf hi
theorem Agree.k_kend (h : Agree N Y y z) : Agree N Y (kend y) (kend z) := ((h.put rfl).put rfl).put rfl
theorem Agree.k_kl (h : Agree N Y y z) (b : Bool) : Agree N Y (klT y b) (klT z b) := by
  have g := h.inc' (k := 10) (v := 1) (h.1 10 (by decide)) rfl
  unfold klT
  rw [h.1 8 (by decide), h.1 9 (by decide)]
  by_cases h0 : z 8 = 0
  · rw [if_pos h0, if_pos h0]
    exact h
  · rw [if_neg h0, if_neg h0]
    generalize (if b = true then z 9 + 1 else 0) = v
    have k : Agree N Y (up (inc y 10 1) 9 v) (up (inc z 10 1) 9 v) := g.put rfl
    show Agree N Y (if (up (inc y 10 1) 9 v) 9 < (up (inc y 10 1) 9 v) 4 then (if (up (inc y 10 1) 9 v) 10 < 12 then up (inc y 10 1) 9 v else kend (inc (up (inc y 10 1) 9 v) 12 1)) else kend (inc (up (inc y 10 1) 9 v) 11 1)) (if (up (inc z 10 1) 9 v) 9 < (up (inc z 10 1) 9 v) 4 then (if (up (inc z 10 1) 9 v) 10 < 12 then up (inc z 10 1) 9 v else kend (inc (up (inc z 10 1) 9 v) 12 1)) else kend (inc (up (inc z 10 1) 9 v) 11 1))
    rw [k.1 9 (by decide), k.1 4 (by decide), k.1 10 (by decide)]
    split
    · split
      · exact k
      · exact Agree.k_kend (k.inc' (k.1 12 (by decide)) rfl)
    · exact Agree.k_kend (k.inc' (k.1 11 (by decide)) rfl)
theorem Agree.k_tk (h1 : 1 ≤ Y) (h : Agree N Y y z) (d : Nat) : Agree N Y (tk N Y d y) (tk N Y d z) := by
  have g := ((((h.k_dl h1 d).k_kb).k_ctl).k_wka h1).k_stl
  unfold tk
  rw [g.1 3 (by decide), show stl Y (wka N Y (ctl N Y (kb (dl Y d y)))) 22 = stl Y (wka N Y (ctl N Y (kb (dl Y d z)))) 22 from g.2.1 0 (by omega)]
  have k := g.k_kl (decide (stl Y (wka N Y (ctl N Y (kb (dl Y d z)))) 3 ≤ stl Y (wka N Y (ctl N Y (kb (dl Y d z)))) 22))
  exact k.inc' (k.1 6 (by decide)) rfl
theorem Agree.k_tkn (h1 : 1 ≤ Y) (h : Agree N Y y z) (d m : Nat) : Agree N Y (tkn N Y d m y) (tkn N Y d m z) := fe_rel (R := fun _ t u => Agree N Y t u) h fun _ _ _ _ hR => hR.k_tk h1 d
theorem mv_c (h : Agree N Y y z) (f : Nat) (o : Bool) : (mv N f o y).1 = (mv N f o z).1 ∧ Agree N Y (mv N f o y).2 (mv N f o z).2 := by
  unfold mv
  cases o with
  | true =>
    simp only [if_true]
    exact ⟨trivial, h.put rfl⟩
  | false =>
    simp only [Bool.false_eq_true, if_false]
    refine fe_rel (f := mvf f) (g := mvf f) (t := (0, up y (20 + f) 0)) (u := (0, up z (20 + f) 0)) (R := fun (_ : Nat) (p q : Int32 × Pg) => p.1 = q.1 ∧ Agree N Y p.2 q.2) ⟨rfl, h.put rfl⟩ fun i p q hi hR => ?_
    unfold mvf
    rw [hR.2.b1 hi, hR.2.b2 hi, hR.1]
    split
    · exact ⟨rfl, hR.2.k_lv i 0⟩
    · exact ⟨hR.1, hR.2⟩
end SAME

