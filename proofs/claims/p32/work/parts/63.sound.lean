/-! what the law calls sound -/
theorem u6_s {A B D E F I γ : Type} (f : A → B → D → E → F → I → γ) (a : A) (b : B) (d : D) (e : E) (g : F) (i : I) : u6 f (a, b, d, e, g, i) = f a b d e g i := rfl
section SOUND
variable {C : Mem} {z : Pg} {N Y K : Nat}
theorem heat_ok (h : Ob N Y K z C) : F_L_heat C = some (sm (fun j => z (22 + j)) Y, C) := by
  have hy := h.1.2
  have e : iter (fun x => S_L_heat_4 x.1 x.2.1 x.2.2) 9 ((0 : Int32), (0 : Int32), C) = some (fe (fun j v => v + z (22 + j)) Y 0, nI Y, C) :=
    iter_embF (fun j v => (v, nI j, C)) (fun j v => v + z (22 + j)) (fun _ _ => True) (fun v => (v, nI Y, C)) (by omega) trivial (fun j v hj _ => ⟨by
      show S_L_heat_4 v (nI j) C = _
      unfold S_L_heat_4
      rw [ta_7 h, b2_s, if_neg (nI_ge hj (by omega)), tl h hj, b2_s, nm_s, nm_s, nI_1], trivial⟩) (fun v _ => by
      show S_L_heat_4 v (nI Y) C = _
      unfold S_L_heat_4
      rw [ta_7 h, b2_s, if_pos (nI_le (Nat.le_refl _) (by omega))])
  unfold F_L_heat
  rw [e, b1_s, u3_s, fe_sm, Int32.zero_add]
theorem b1_fi {i : Nat} (h : WF N Y K z) (hi : i < N) : z (30 + 7 * i + 1) = nI (fiS z i) := by
  unfold fiS
  rcases (h.2.2.2.2.2.2 i hi).2.1 with q | q
  · rw [if_pos q]; exact q
  · rw [if_neg (by rw [q]; decide)]; exact q
theorem sd_234 (h : Ob N Y K z C) {i : Nat} (hi : i < N) (f : Nat → Int32) (v w : Int32) : J_L_sound_234 (nI i) f v w C = some (.inl (v, w, 1, nI (i + 1), C, f)) := by
  have hS := h.sz.2.2.2.2.2 i hi
  unfold J_L_sound_234
  rw [tb_4 h hi, b2_s]
  rcases hS.2.2.2.2 with q | q
  · rw [if_pos q, nm_s, nI_1]
  · by_cases q0 : z (30 + 7 * i + 4) = 0
    · rw [if_pos q0, nm_s, nI_1]
    · rw [if_neg q0, tb_5 h hi, b2_s, if_neg (fun e => by rw [fa_le] at e; have e0 : (0 : Int32).toInt = 0 := rfl; omega), nm_s, nI_1]
theorem sd_162 (h : Ob N Y K z C) (hK : K < 1000000) {i : Nat} (hi : i < N) (f : Nat → Int32) (v w b : Int32) : J_L_sound_162 (nI i) (z (30 + 7 * i + 2)) (z (30 + 7 * i + 3)) f v C w b b = some (.inl (v, w, 1, nI (i + 1), C, f)) := by
  have hS := h.sz.2.2.2.2.2 i hi
  have hB := h.wz.2.2.2.2.2.2 i hi
  have e0 : (0 : Int32).toInt = 0 := rfl
  have e5 : (5 : Int32).toInt = 5 := rfl
  have hl : ¬ (5 : Int32) < z (30 + 7 * i + 3) := fun e => by
    rw [fa_lt, e5] at e
    by_cases q : z (30 + 7 * i + 2) = 1
    · have := hB.2.2.2.1 q; omega
    · rw [hB.2.2.2.2.1 q, e0] at e; omega
  have hp : (z (30 + 7 * i) * z (30 + 7 * i + 4)).toInt = (z (30 + 7 * i)).toInt * (z (30 + 7 * i + 4)).toInt := by
    have a1 := hB.1
    have a2 := hB.2.2.2.2.2.1
    have k1 : (z (30 + 7 * i)).toInt * (z (30 + 7 * i + 4)).toInt ≤ 30 * (z (30 + 7 * i + 4)).toInt := Int.mul_le_mul_of_nonneg_right a1.2 a2.1
    have k0 : 0 ≤ (z (30 + 7 * i)).toInt * (z (30 + 7 * i + 4)).toInt := Int.mul_nonneg a1.1 a2.1
    exact fb_mulI (by omega) (by omega)
  unfold J_L_sound_162
  rw [if_pos rfl, if_neg hl, tb_6 h hi, b2_s, tb_0 h hi, b2_s, tb_4 h hi, b2_s, if_neg (fun e => by rw [fa_lt, hp] at e; have := hS.2.1; omega), tb_4 h hi, b2_s, ta_8 h, b2_s, if_neg (fun e => by rw [fa_lt] at e; have := hS.1; omega), tb_5 h hi, b2_s]
  by_cases s0 : 0 < z (30 + 7 * i + 5)
  · rw [if_pos s0, sd_234 h hi]
  · rw [if_neg s0]
    by_cases q0 : z (30 + 7 * i + 2) = 0
    · rw [if_pos q0, sd_234 h hi]
    · have q4 : z (30 + 7 * i + 2) = 4 := by
        rcases hS.2.2.2.1 with q | q | q
        · exact absurd ((fa_lt _ _).mpr (by rw [e0]; exact q)) s0
        · exact absurd q q0
        · exact q
      rw [if_neg q0, if_pos q4, sd_234 h hi]
theorem sd_126 (h : Ob N Y K z C) (hK : K < 1000000) {i : Nat} (hi : i < N) (f : Nat → Int32) (v b : Int32) : J_L_sound_126 v (fuS i z) (nI i) (z (30 + 7 * i + 2)) (z (30 + 7 * i + 3)) C f b = some (.inl (v + b, fuS (i + 1) z, 1, nI (i + 1), C, f)) := by
  have hB := h.wz.2.2.2.2.2.2 i hi
  have e0 : (0 : Int32).toInt = 0 := rfl
  unfold J_L_sound_126
  rw [nm_s, tb_6 h hi, b2_s, nm_s]
  by_cases q : z (30 + 7 * i + 2) = 1
  · have hl := hB.2.2.2.1 q
    rw [if_pos q]
    unfold J_L_sound_152
    rw [if_neg (fun e => by rw [fa_le, e0] at e; omega), sd_162 h hK hi]
    rfl
  · have hl := hB.2.2.2.2.1 q
    rw [if_neg q]
    unfold J_L_sound_152
    rw [if_pos (by rw [hl]; decide), sd_162 h hK hi]
    rfl
def pwU (z : Pg) (i : Nat) : Int32 := if z (30 + 7 * i + 2) = 1 ∨ z (30 + 7 * i + 2) = 2 then z (30 + 7 * i) else 0
def rowf (z : Pg) (i : Nat) (t : Nat → Int32) : Nat → Int32 := up t (fiS z i) (t (fiS z i) + pwU z i)
theorem sd_112 (h : Ob N Y K z C) (hK : K < 1000000) {i : Nat} (hi : i < N) (t : Nat → Int32) (v : Int32) (hv : v = pwU z i) : J_L_sound_112 (cnS i 2 z) (fuS i z) (nI i) t (z (30 + 7 * i + 2)) (z (30 + 7 * i + 3)) (z (30 + 7 * i + 1)) v C = some (.inl (cnS (i + 1) 2 z, fuS (i + 1) z, 1, nI (i + 1), C, rowf z i t)) := by
  have hf := fiS_lt z i
  subst hv
  unfold J_L_sound_112
  rw [b1_fi h.wz hi, gi_n hf (by decide), nI_clamp (by omega), nm_s]
  by_cases q : z (30 + 7 * i + 2) = 2
  · rw [if_pos q, sd_126 h hK hi]
    show some (Sum.inl (_, _, _, _, _, _)) = some (Sum.inl (cnS i 2 z + (if z (30 + 7 * i + 2) = 2 then 1 else 0), _, _, _, _, _))
    rw [if_pos q]
    rfl
  · rw [if_neg q, sd_126 h hK hi]
    show some (Sum.inl (_, _, _, _, _, _)) = some (Sum.inl (cnS i 2 z + (if z (30 + 7 * i + 2) = 2 then 1 else 0), _, _, _, _, _))
    rw [if_neg q]
    rfl
theorem sd_50 (h : Ob N Y K z C) (hK : K < 1000000) {i : Nat} (hi : i < N) (t : Nat → Int32) : S_L_sound_50 (nI N) (cnS i 2 z) (fuS i z) 1 (nI i) C t = some (.inl (cnS (i + 1) 2 z, fuS (i + 1) z, 1, nI (i + 1), C, rowf z i t)) := by
  have hN := h.1.1
  have hf := fiS_lt z i
  unfold S_L_sound_50
  rw [if_neg (nI_ge hi (by omega)), if_neg (by decide), tb_2 h hi, b2_s, tb_3 h hi, b2_s, tb_1 h hi, b2_s, show gi (z (30 + 7 * i + 1)) 2 = gi (nI (fiS z i)) 2 by rw [b1_fi h.wz hi], gi_n hf (by decide)]
  by_cases q1 : z (30 + 7 * i + 2) = 1
  · rw [if_pos q1, tb_0 h hi, b2_s, sd_112 h hK hi _ _ (by unfold pwU; rw [if_pos (Or.inl q1)])]
  · rw [if_neg q1]
    by_cases q2 : z (30 + 7 * i + 2) = 2
    · rw [if_pos q2, tb_0 h hi, b2_s, sd_112 h hK hi _ _ (by unfold pwU; rw [if_pos (Or.inr q2)])]
    · rw [if_neg q2, sd_112 h hK hi _ _ (by unfold pwU; rw [if_neg (fun e => e.elim q1 q2)])]
/-- the row after i boilers -/
def rowI (z : Pg) (i : Nat) (t : Nat → Int32) : Prop := t 0 = usS i 0 z ∧ t 1 = usS i 1 z
theorem rowI_s {i : Nat} (w : WF N Y K z) (hi : i < N) {t : Nat → Int32} (h : rowI z i t) : rowI z (i + 1) (rowf z i t) := by
  have b := b1_fi w hi
  have us : ∀ x : Int32, usS (i + 1) x z = usS i x z + (if z (30 + 7 * i + 1) = x ∧ (z (30 + 7 * i + 2) = 1 ∨ z (30 + 7 * i + 2) = 2) then z (30 + 7 * i) else 0) := fun _ => rfl
  unfold rowI
  rw [us, us]
  rcases (w.2.2.2.2.2.2 i hi).2.1 with q | q
  · have ef : fiS z i = 0 := by unfold fiS; rw [if_pos q]
    unfold rowf pwU
    rw [ef, up_same, up_ne _ _ (by decide), q, h.1, h.2]
    refine ⟨?_, ?_⟩
    · by_cases c : z (30 + 7 * i + 2) = 1 ∨ z (30 + 7 * i + 2) = 2
      · rw [if_pos c, if_pos ⟨rfl, c⟩]
      · rw [if_neg c, if_neg (fun e => c e.2)]
    · rw [if_neg (fun e => absurd e.1 (by decide)), Int32.add_zero]
  · have ef : fiS z i = 1 := by unfold fiS; rw [if_neg (by rw [q]; decide)]
    unfold rowf pwU
    rw [ef, up_same, up_ne _ _ (by decide), q, h.1, h.2]
    refine ⟨?_, ?_⟩
    · rw [if_neg (fun e => absurd e.1 (by decide)), Int32.add_zero]
    · by_cases c : z (30 + 7 * i + 2) = 1 ∨ z (30 + 7 * i + 2) = 2
      · rw [if_pos c, if_pos ⟨rfl, c⟩]
      · rw [if_neg c, if_neg (fun e => c e.2)]
theorem sd_L1 (h : Ob N Y K z C) (hK : K < 1000000) : ∃ t, rowI z N t ∧ iter (fun x => S_L_sound_50 (nI N) x.1 x.2.1 x.2.2.1 x.2.2.2.1 x.2.2.2.2.1 x.2.2.2.2.2) 6 ((0 : Int32), (0 : Int32), (1 : Int32), (0 : Int32), C, (fun _ => (0 : Int32))) = some (cnS N 2 z, fuS N z, 1, nI N, C, t) := by
  have hN := h.1.1
  have hI : rowI z N (fe (rowf z) N (fun _ => 0)) := fe_inv (I := fun i t => rowI z i t) (t := fun _ => (0 : Int32)) (show rowI z 0 (fun _ => (0 : Int32)) from ⟨rfl, rfl⟩) fun i t hi ht => rowI_s h.wz hi ht
  refine ⟨fe (rowf z) N (fun _ => 0), hI, ?_⟩
  exact iter_embF (fun i t => (cnS i 2 z, fuS i z, (1 : Int32), nI i, C, t)) (rowf z) (fun _ _ => True) (fun t => (cnS N 2 z, fuS N z, 1, nI N, C, t)) (by omega) trivial (fun i t hi _ => ⟨sd_50 h hK hi t, trivial⟩) (fun t _ => by
    show S_L_sound_50 (nI N) (cnS N 2 z) (fuS N z) 1 (nI N) C t = _
    unfold S_L_sound_50
    rw [if_pos (nI_le (Nat.le_refl _) (by omega))])
/-! the second loop -/
theorem sd_427 (h : Ob N Y K z C) {i : Nat} (hi : i < N) (w : Int32) : J_L_sound_427 (nI i) (rm N z i) (whV N z i) w C = some (.inl (w, 1, nI (i + 1), C)) := by
  have k : ∀ v : Int32, rm N z i = v → J_L_sound_447 (nI i) (whV N z i) w (rm N z i) C v = some (.inl (w, 1, nI (i + 1), C)) := fun v e => by
    unfold J_L_sound_447
    rw [if_pos e, tw h hi, b2_s, if_pos rfl, nm_s, nI_1]
  unfold J_L_sound_427
  rw [tb_7 h hi, b2_s]
  rcases rm_01 N z i with q | q
  · rw [if_pos q, k 0 q]
  · rw [if_neg (by rw [q]; decide), k 1 q]
theorem wh0 {i : Nat} : whV N z i = 0 ↔ may N z i = true := by
  unfold whV
  by_cases h4 : z (30 + 7 * i + 2) = 4
  · rw [if_pos h4]
    refine ⟨fun e => absurd e (by decide), fun e => absurd e (may_w (fun w => ?_))⟩
    rcases w with w | w <;> (rw [h4] at w; exact absurd w (by decide))
  · rw [if_neg h4]
    by_cases hw : wt z i
    · have hw' : z (30 + 7 * i + 2) = 0 ∨ z (30 + 7 * i + 2) = 3 := hw
      rw [if_pos hw']
      by_cases ho : z (20 + fiS z i) = 0
      · rw [if_pos ho]
        exact ⟨fun e => absurd e (by decide), fun e => absurd e (may_r (by unfold rm; rw [if_pos ho]))⟩
      · rw [if_neg ho]
        by_cases hr : rm N z i = 0
        · rw [if_pos hr]
          exact ⟨fun e => absurd e (by decide), fun e => absurd e (may_r hr)⟩
        · rw [if_neg hr]
          exact ⟨fun _ => may_t hw hr, fun _ => rfl⟩
    · have hw' : ¬ (z (30 + 7 * i + 2) = 0 ∨ z (30 + 7 * i + 2) = 3) := hw
      rw [if_neg hw']
      exact ⟨fun e => absurd e (by decide), fun e => absurd e (may_w hw)⟩
theorem sd_389 (h : Ob N Y K z C) {i : Nat} (hi : i < N) (t : Option Nat) (ht : ∀ b, t = some b → b < N) : J_L_sound_389 (enc t) (nI i) (rm N z i) (whV N z i) C = some (.inl (enc (nxf N z i t), 1, nI (i + 1), C)) := by
  have hN := h.1.1
  unfold J_L_sound_389
  by_cases q : whV N z i = 0
  · have hm := wh0.mp q
    rw [if_pos q]
    cases t with
    | none =>
      rw [if_pos (show enc none = -9 from rfl), sd_427 h hi, nxf_0 hm]
      rfl
    | some b =>
      have hb := ht b rfl
      rw [if_neg (enc_ne (show b < 5 by omega)), tb_4 h hi, b2_s, show F_L_tryBoiler (enc (some b)) (4 : Int32) C = some (z (30 + 7 * b + 4), C) from tb_4 h hb, b2_s]
      by_cases hl : z (30 + 7 * i + 4) < z (30 + 7 * b + 4)
      · rw [if_neg (fa_of_lt hl).2.1, sd_427 h hi, nxf_1 hm hl]
        rfl
      · rw [if_pos (fa_of_nlt hl), sd_427 h hi, nxf_2 hl]
  · have hm : ¬ may N z i = true := fun e => q (wh0.mpr e)
    rw [if_neg q, sd_427 h hi, nxf_no hm]
theorem sd_337 (h : Ob N Y K z C) {i : Nat} (hi : i < N) (t : Option Nat) (ht : ∀ b, t = some b → b < N) : J_L_sound_337 (enc t) (nI i) (z (30 + 7 * i + 1)) (z (30 + 7 * i + 2)) (rm N z i) C = some (.inl (enc (nxf N z i t), 1, nI (i + 1), C)) := by
  have hB := h.wz.2.2.2.2.2.2 i hi
  have hf := fiS_lt z i
  have k : ∀ v : Int32, whV N z i = v → J_L_sound_389 (enc t) (nI i) (rm N z i) v C = some (.inl (enc (nxf N z i t), 1, nI (i + 1), C)) := fun v e => by rw [← e]; exact sd_389 h hi t ht
  unfold J_L_sound_337
  have wv : ∀ s : Int32, z (30 + 7 * i + 2) = s → (s = 0 ∨ s = 3) → (if rm N z i = 0 then b2 (F_L_tryFlue (z (30 + 7 * i + 1)) (2 : Int32) C) fun r158 C160 => (if r158 = 0 then J_L_sound_389 (enc t) (nI i) (rm N z i) (3 : Int32) C160 else J_L_sound_389 (enc t) (nI i) (rm N z i) (4 : Int32) C160) else J_L_sound_389 (enc t) (nI i) (rm N z i) (0 : Int32) C) = some (.inl (enc (nxf N z i t), 1, nI (i + 1), C)) := fun s e c => by
    have c' : z (30 + 7 * i + 2) = 0 ∨ z (30 + 7 * i + 2) = 3 := by rw [e]; exact c
    have c4 : ¬ z (30 + 7 * i + 2) = 4 := by
      rw [e]
      rcases c with c | c <;> rw [c] <;> decide
    by_cases hr : rm N z i = 0
    · rw [if_pos hr, b1_fi h.wz hi, tf_2 h hf, b2_s]
      by_cases ho : z (20 + fiS z i) = 0
      · rw [if_pos ho]
        exact k 3 (by unfold whV; rw [if_neg c4, if_pos c', if_pos ho])
      · rw [if_neg ho]
        exact k 4 (by unfold whV; rw [if_neg c4, if_pos c', if_neg ho, if_pos hr])
    · rw [if_neg hr]
      have ho : ¬ z (20 + fiS z i) = 0 := fun e => hr (by unfold rm; rw [if_pos e])
      exact k 0 (by unfold whV; rw [if_neg c4, if_pos c', if_neg ho, if_neg hr])
  rcases hB.2.2.1 with s | s | s | s | s
  · rw [s, if_neg (by decide), if_neg (by decide), if_neg (by decide)]
    exact wv 0 s (Or.inl rfl)
  · rw [s, if_pos rfl]
    exact k 1 (by unfold whV; rw [s, if_neg (by decide), if_neg (by decide)])
  · rw [s, if_neg (by decide), if_pos rfl]
    exact k 1 (by unfold whV; rw [s, if_neg (by decide), if_neg (by decide)])
  · rw [s, if_neg (by decide), if_neg (by decide), if_neg (by decide)]
    exact wv 3 s (Or.inr rfl)
  · rw [s, if_neg (by decide), if_neg (by decide), if_pos rfl]
    exact k 2 (by unfold whV; rw [s, if_pos rfl])
theorem sd_270 (h : Ob N Y K z C) {i : Nat} (hi : i < N) (t : Option Nat) (ht : ∀ b, t = some b → b < N) {f : Nat → Int32} (hf : rowI z N f) : S_L_sound_270 (nI N) f (enc t) 1 (nI i) C = some (.inl (enc (nxf N z i t), 1, nI (i + 1), C)) := by
  have hN := h.1.1
  have hfl := fiS_lt z i
  have eb := b1_fi h.wz hi
  have ef : f (fiS z i) = usS N (z (30 + 7 * i + 1)) z := by
    rw [eb]
    rcases (show fiS z i = 0 ∨ fiS z i = 1 by omega) with q | q
    · rw [q]; exact hf.1
    · rw [q]; exact hf.2
  have k : ∀ v : Int32, rm N z i = v → J_L_sound_337 (enc t) (nI i) (nI (fiS z i)) (z (30 + 7 * i + 2)) v C = some (.inl (enc (nxf N z i t), 1, nI (i + 1), C)) := fun v e => by rw [← e, ← eb]; exact sd_337 h hi t ht
  unfold S_L_sound_270
  rw [if_neg (nI_ge hi (by omega)), if_neg (by decide), tb_1 h hi, b2_s, tb_2 h hi, b2_s, eb, tf_2 h hfl, b2_s]
  have hop : z (20 + fiS z i) = 0 ∨ z (20 + fiS z i) = 1 := by
    rcases (show fiS z i = 0 ∨ fiS z i = 1 by omega) with q | q
    · rw [q]; exact h.wz.2.2.2.2.1
    · rw [q]; exact h.wz.2.2.2.2.2.1
  rcases hop with o | o
  · rw [if_neg (by rw [o]; decide)]
    exact k 0 (by unfold rm; rw [if_pos o])
  · rw [if_pos o, gi_n hfl (by decide), tb_0 h hi, b2_s, tf_0 h hfl, b2_s, nI_clamp (by omega), ef]
    have ho : ¬ z (20 + fiS z i) = 0 := by rw [o]; decide
    by_cases c : z (18 + fiS z i) < usS N (z (30 + 7 * i + 1)) z + z (30 + 7 * i)
    · rw [if_pos c]
      exact k 0 (by unfold rm; rw [if_neg ho, if_pos c])
    · rw [if_neg c]
      exact k 1 (by unfold rm; rw [if_neg ho, if_neg c])
theorem sd_L2 (h : Ob N Y K z C) {f : Nat → Int32} (hf : rowI z N f) : iter (fun x => S_L_sound_270 (nI N) f x.1 x.2.1 x.2.2.1 x.2.2.2) 6 ((-9 : Int32), (1 : Int32), (0 : Int32), C) = some (enc (nx N z), 1, nI N, C) := by
  have hN := h.1.1
  exact iter_embF (fun i t => (enc t, (1 : Int32), nI i, C)) (nxf N z) (fun i t => ∀ b, t = some b → b < i) (fun t => (enc t, 1, nI N, C)) (n := N) (t0 := (none : Option Nat)) (by omega) (fun b e => by cases e) (fun i t hi ht => ⟨sd_270 h hi t (fun b e => by have := ht b e; omega) hf, nxf_lt ht⟩) (fun t _ => by
    show S_L_sound_270 (nI N) f (enc t) 1 (nI N) C = _
    unfold S_L_sound_270
    rw [if_pos (nI_le (Nat.le_refl _) (by omega))])
theorem cf_all (w : WF N Y K z) : ∀ n, n ≤ N → cfS n 0 z + cfS n 1 z = nI n
  | 0, _ => rfl
  | n + 1, hn => by
    have ih := cf_all w n (by omega)
    have c : ∀ x : Int32, cfS (n + 1) x z = cfS n x z + (if z (30 + 7 * n + 1) = x then 1 else 0) := fun _ => rfl
    rw [c, c, ← nI_1, ← ih]
    rcases (w.2.2.2.2.2.2 n (by omega)).2.1 with q | q
    · rw [q, if_pos rfl, if_neg (by decide), Int32.add_zero, Int32.add_assoc, Int32.add_comm 1, ← Int32.add_assoc]
    · rw [q, if_neg (by decide), if_pos rfl, Int32.add_zero, Int32.add_assoc]
theorem sound_ok (h : Ob N Y K z C) (hK : K < 1000000) : F_L_sound C = some (1, C) := by
  have hN := h.1.1
  have hY := h.1.2
  have hs := h.sz
  have e0 : (0 : Int32).toInt = 0 := rfl
  have e12 : (12 : Int32).toInt = 12 := rfl
  obtain ⟨t, ht, eL1⟩ := sd_L1 h hK
  have eL2 := sd_L2 h ht
  have f10 : F_L_tryFlue (0 : Int32) (1 : Int32) C = some (usS N 0 z, C) := tf_1 h (f := 0) (by decide)
  have f11 : F_L_tryFlue (1 : Int32) (1 : Int32) C = some (usS N 1 z, C) := tf_1 h (f := 1) (by decide)
  have f30 : F_L_tryFlue (0 : Int32) (3 : Int32) C = some (cfS N 0 z, C) := tf_3 h (f := 0) (by decide)
  have f31 : F_L_tryFlue (1 : Int32) (3 : Int32) C = some (cfS N 1 z, C) := tf_3 h (f := 1) (by decide)
  have j605 : J_L_sound_605 C = some (1, C) := by
    unfold J_L_sound_605
    rw [ta_12 h, b2_s, ta_13 h, b2_s, if_neg (fun e => by rw [fa_lt] at e; have := hs.2.1.2; omega), ta_13 h, b2_s, if_neg (fun e => by rw [fa_le, e12] at e; have := h.wz.2.2.1.2; omega)]
  have j489 : ∀ v : Int32, (v = 0 → z 8 = 0) → J_L_sound_489 (nI N) (cnS N 2 z) (fuS N z) t (enc (nx N z)) 1 C v = some (1, C) := fun v hv => by
    unfold J_L_sound_489
    rw [if_neg (by decide), f10, b2_s, cl_0, if_pos ht.1, f11, b2_s, cl_1, if_pos ht.2, ta_16 h, b2_s, if_pos rfl, tc_4 h, b2_s, if_pos rfl, tn h, b2_s, if_pos rfl, f30, b2_s, f31, b2_s, if_pos (cf_all h.wz N (Nat.le_refl _)), tc_1 h, b2_s, tc_5 h, b2_s, if_pos hs.2.2.1]
    by_cases q : v = 0
    · have k := hs.1 (hv q)
      rw [if_pos q, ta_12 h, b2_s, if_pos k.1, ta_13 h, b2_s, if_pos k.2, j605]
    · rw [if_neg q, j605]
  unfold F_L_sound
  rw [ta_6 h, b2_s, ta_9 h, b2_s, heat_ok h, b2_s, ta_7 h, b2_s, gz_p (nI_ne0 (by omega) (by omega)), if_pos (show avg Y z = sm (fun j => z (22 + j)) Y / nI Y from rfl)]
  unfold J_L_sound_45
  rw [eL1, b1_s, u6_s, eL2, b1_s, u4_s, ta_11 h, b2_s]
  by_cases q : z 8 = 1
  · rw [if_pos q, j489 1 (fun e => absurd e (by decide))]
  · rw [if_neg q, j489 0 (fun _ => h.wz.2.1.resolve_right q)]
end SOUND
