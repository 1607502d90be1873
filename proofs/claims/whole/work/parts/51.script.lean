/-! settings, scripts -/
theorem set_in (v : Int32) (C : Mem) : ∀ k : Nat, k < 6 → F_X8_isSetting (nI k) v C = some ((if kLeast k ≤ v ∧ v ≤ kMost k then 1 else 0), C) ∧ F_X9_isSetting (nI k) v C = some ((if kLeast k ≤ v ∧ v ≤ kMost k then 1 else 0), C) := fun k hk => by
  have cls : F_X8_isSetting (nI k) v C = some ((if kLeast k ≤ v ∧ v ≤ kMost k then 1 else 0), C) := by
    unfold F_X8_isSetting
    rw [if_neg (nI_pos (by omega)), if_neg (show ¬ (6 : Int32) ≤ nI k from nI_ge hk (by decide)), gi_n hk (by decide), gi_n hk (by decide), nI_clamp (by omega)]
    by_cases h1 : v < kLeast k
    · rw [if_pos h1, if_neg (fun q => (fa_of_lt h1).2.1 q.1)]
    · rw [if_neg h1]
      by_cases h2 : kMost k < v
      · rw [if_pos h2, if_neg (fun q => (fa_of_lt h2).2.1 q.2)]
      · rw [if_neg h2, if_pos ⟨fa_of_nlt h1, fa_of_nlt h2⟩]
  refine ⟨cls, ?_⟩
  have gb' : ∀ c : Prop, ∀ _ : Decidable c, (gb (if c then (1 : Int32) else 0) (some ((if c then (1 : Int32) else 0), C)) : Option (Int32 × Mem)) = some ((if c then 1 else 0), C) := fun c _ => by
    split
    · rw [gb_p (Or.inr rfl)]
    · rw [gb_p (Or.inl rfl)]
  unfold F_X9_isSetting
  rcases (show k = 0 ∨ k = 1 ∨ k = 2 ∨ k = 3 ∨ k = 4 ∨ k = 5 by omega) with rfl | rfl | rfl | rfl | rfl | rfl
  · rw [if_pos (by decide), f_inL (b := 40) (c := 80) (by decide) (by decide), b2_s]
    exact gb' _ _
  · rw [if_neg (by decide), if_pos (by decide), f_inL (b := 1) (c := 9) (by decide) (by decide), b2_s]
    exact gb' _ _
  · rw [if_neg (by decide), if_neg (by decide), if_pos (by decide), f_inL (b := 1) (c := 5) (by decide) (by decide), b2_s]
    exact gb' _ _
  · rw [if_neg (by decide), if_neg (by decide), if_neg (by decide), if_pos (by decide), f_inL (b := 60) (c := 90) (by decide) (by decide), b2_s]
    exact gb' _ _
  · rw [if_neg (by decide), if_neg (by decide), if_neg (by decide), if_neg (by decide), if_pos (by decide), f_inL (b := 1) (c := 9) (by decide) (by decide), b2_s]
    exact gb' _ _
  · rw [if_neg (by decide), if_neg (by decide), if_neg (by decide), if_neg (by decide), if_neg (by decide), if_pos (by decide), f_inL (b := 0) (c := 23) (by decide) (by decide), b2_s]
    show (if (if (0 : Int32) ≤ v ∧ v ≤ 23 then (1 : Int32) else 0) = 0 then _ else _) = some ((if (0 : Int32) ≤ v ∧ v ≤ 23 then (1 : Int32) else 0), C)
    by_cases h : (0 : Int32) ≤ v ∧ v ≤ 23
    · rw [if_pos h, if_neg (by decide)]
    · rw [if_neg h, if_pos rfl]
theorem set_out (v : Int32) (C : Mem) {x : Int32} (h : ¬ (0 ≤ x ∧ x ≤ 5)) : F_X8_isSetting x v C = some (0, C) ∧ F_X9_isSetting x v C = some (0, C) := by
  have e0 : (0 : Int32).toInt = 0 := rfl
  have e5 : (5 : Int32).toInt = 5 := rfl
  have e6 : (6 : Int32).toInt = 6 := rfl
  have ne : ∀ k : Nat, k < 6 → x ≠ nI k := fun k hk e => h (by subst e; exact ⟨nI_pos' (by omega), nI_le (show k ≤ 5 by omega) (by decide)⟩)
  refine ⟨?_, ?_⟩
  · unfold F_X8_isSetting
    by_cases h1 : x < 0
    · rw [if_pos h1]
    · rw [if_neg h1, if_pos (by
        rw [fa_le, e6]
        rw [fa_lt, e0] at h1
        rw [fa_le, fa_le, e0, e5] at h
        omega)]
  · unfold F_X9_isSetting
    rw [if_neg (show ¬ x = 0 from ne 0 (by decide)), if_neg (show ¬ x = 1 from ne 1 (by decide)), if_neg (show ¬ x = 2 from ne 2 (by decide)), if_neg (show ¬ x = 3 from ne 3 (by decide)), if_neg (show ¬ x = 4 from ne 4 (by decide)), if_neg (show ¬ x = 5 from ne 5 (by decide))]
theorem WF.kset {N Y K : Nat} {y : Pg} (h : WF N Y K y) {k : Nat} (hk : k < 6) {v : Int32} (hv : kLeast k ≤ v ∧ v ≤ kMost k) : WF N Y K (up y k v) := by
  by_cases e : k = 2
  · subst e
    obtain ⟨n, n1, n5, rfl⟩ := in_n (a := kLeast 2) (b := kMost 2) (m := 1) (n := 5) rfl rfl hv
    have := h.p2 (i := n - 1) (by omega)
    rw [show n - 1 + 1 = n by omega] at this
    exact this
  · exact h.u (by omega) (by omega) (by omega) e v
def cmdf (N Y κ a n : Nat) (t : Pg) : Option Pg :=
  if κ = 1 then (if a ≤ 5 ∧ 1 ≤ n ∧ n ≤ 96 then some (tkn N Y a n t) else none)
  else if κ = 2 then (if a = 0 ∧ 1 ≤ n ∧ n ≤ 20 then some (dl Y n t) else none)
  else if κ = 3 then (if a < 6 ∧ kLeast a ≤ nI n ∧ nI n ≤ kMost a then some (up t a (nI n)) else none)
  else if κ = 4 then (if a < 2 ∧ n ≤ 1 then some (mv N a (decide (n = 1)) t).2 else none)
  else if κ = 5 then (if n = 0 ∧ a < N ∧ t (30 + 7 * a + 2) ≠ 4 then some (lv t a 4) else none)
  else if κ = 6 then (if n = 0 ∧ a < N ∧ t (30 + 7 * a + 2) = 4 then some (lv t a 0) else none)
  else if κ = 7 then (if a = 0 ∧ n ≤ 99 ∧ ¬ avg Y t < nI n then some t else none)
  else if κ = 8 then (if a < N ∧ t (30 + 7 * a + 2) = nI n then some t else none)
  else if κ = 9 then (if a = 0 ∧ n ≤ 9 ∧ t 11 = nI n then some t else none)
  else none
section CMD
variable {C : Mem} {K N Y : Nat}
theorem cmdf_c {y z : Pg} (h1 : 1 ≤ Y) (h : Agree N Y y z) (κ a n : Nat) : (cmdf N Y κ a n y = none ∧ cmdf N Y κ a n z = none) ∨ ∃ y' z', cmdf N Y κ a n y = some y' ∧ cmdf N Y κ a n z = some z' ∧ Agree N Y y' z' := by
  have two : ∀ (c c' : Prop) (_ : Decidable c) (_ : Decidable c') (u w : Pg), (c ↔ c') → (c → Agree N Y u w) → ((if c then some u else none) = none ∧ (if c' then some w else none) = none) ∨ ∃ y' z', (if c then some u else none) = some y' ∧ (if c' then some w else none) = some z' ∧ Agree N Y y' z' := fun c c' _ _ u w e g => by
    by_cases q : c
    · rw [if_pos q, if_pos (e.mp q)]
      exact Or.inr ⟨u, w, rfl, rfl, g q⟩
    · rw [if_neg q, if_neg (fun r => q (e.mpr r))]
      exact Or.inl ⟨rfl, rfl⟩
  unfold cmdf
  by_cases k1 : κ = 1
  · rw [if_pos k1, if_pos k1]
    exact two _ _ _ _ _ _ Iff.rfl fun _ => h.k_tkn h1 a n
  rw [if_neg k1, if_neg k1]
  by_cases k2 : κ = 2
  · rw [if_pos k2, if_pos k2]
    exact two _ _ _ _ _ _ Iff.rfl fun _ => h.k_dl h1 n
  rw [if_neg k2, if_neg k2]
  by_cases k3 : κ = 3
  · rw [if_pos k3, if_pos k3]
    exact two _ _ _ _ _ _ Iff.rfl fun _ => h.put rfl
  rw [if_neg k3, if_neg k3]
  by_cases k4 : κ = 4
  · rw [if_pos k4, if_pos k4]
    exact two _ _ _ _ _ _ Iff.rfl fun _ => (mv_c h a _).2
  rw [if_neg k4, if_neg k4]
  by_cases k5 : κ = 5
  · rw [if_pos k5, if_pos k5]
    exact two _ _ _ _ _ _ ⟨fun q => ⟨q.1, q.2.1, by rw [← h.b2 q.2.1]; exact q.2.2⟩, fun q => ⟨q.1, q.2.1, by rw [h.b2 q.2.1]; exact q.2.2⟩⟩ fun _ => h.k_lv a 4
  rw [if_neg k5, if_neg k5]
  by_cases k6 : κ = 6
  · rw [if_pos k6, if_pos k6]
    exact two _ _ _ _ _ _ ⟨fun q => ⟨q.1, q.2.1, by rw [← h.b2 q.2.1]; exact q.2.2⟩, fun q => ⟨q.1, q.2.1, by rw [h.b2 q.2.1]; exact q.2.2⟩⟩ fun _ => h.k_lv a 0
  rw [if_neg k6, if_neg k6]
  by_cases k7 : κ = 7
  · rw [if_pos k7, if_pos k7, avg_c h]
    exact two _ _ _ _ _ _ Iff.rfl fun _ => h
  rw [if_neg k7, if_neg k7]
  by_cases k8 : κ = 8
  · rw [if_pos k8, if_pos k8]
    exact two _ _ _ _ _ _ ⟨fun q => ⟨q.1, by rw [← h.b2 q.1]; exact q.2⟩, fun q => ⟨q.1, by rw [h.b2 q.1]; exact q.2⟩⟩ fun _ => h
  rw [if_neg k8, if_neg k8]
  by_cases k9 : κ = 9
  · rw [if_pos k9, if_pos k9, h.1 11 (by decide)]
    exact two _ _ _ _ _ _ Iff.rfl fun _ => h
  rw [if_neg k9, if_neg k9]
  exact Or.inl ⟨rfl, rfl⟩
theorem Tr.set {y : Pg} (h : Tr N Y K y) {k : Nat} (hk : k < 6) {v : Int32} (hv : kLeast k ≤ v ∧ v ≤ kMost k) : Tr N Y K (up y k v) := ⟨(up_ne _ _ (by omega)).trans h.1, (up_ne _ _ (by omega)).trans h.2.1, h.2.2.kset hk hv⟩
theorem Tr.lv {y : Pg} (h8 : Y ≤ 8) (h5 : N ≤ 5) (h : Tr N Y K y) {i : Nat} (hi : i < N) {x : Int32} (hx : x = 0 ∨ x = 2 ∨ x = 3 ∨ x = 4) : Tr N Y K (lv y i x) := ⟨(lv_out x (by omega)).trans h.1, (lv_out x (by omega)).trans h.2.1, h.2.2.k_lv h8 hi hx⟩
theorem Tr.mo {L : Nat} {y : Pg} (h : Tr N Y K y) (hK : K ≤ L) : Tr N Y L y := ⟨h.1, h.2.1, h.2.2.mo hK⟩
theorem WF.kcmd {y y' : Pg} (h1 : 1 ≤ Y) (h8 : Y ≤ 8) (h : WF N Y K y) (hK : K < 900000) {κ a n : Nat} (e : cmdf N Y κ a n y = some y') : WF N Y (K + 96) y' := by
  have two : ∀ (c : Prop) (_ : Decidable c) (u : Pg), (if c then some u else none) = some y' → (c → WF N Y (K + 96) u) → WF N Y (K + 96) y' := fun c _ u e g => by
    by_cases q : c
    · rw [if_pos q] at e
      cases e
      exact g q
    · rw [if_neg q] at e
      cases e
  have h' := h.mo (show K ≤ K + 96 by omega)
  unfold cmdf at e
  by_cases k1 : κ = 1
  · rw [if_pos k1] at e
    exact two _ _ _ e fun q => (h.k_tkn h1 h8 a n (by omega)).mo (by omega)
  rw [if_neg k1] at e
  by_cases k2 : κ = 2
  · rw [if_pos k2] at e
    exact two _ _ _ e fun q => h'.k_dl h1 h8 n
  rw [if_neg k2] at e
  by_cases k3 : κ = 3
  · rw [if_pos k3] at e
    exact two _ _ _ e fun q => h'.kset q.1 q.2
  rw [if_neg k3] at e
  by_cases k4 : κ = 4
  · rw [if_pos k4] at e
    exact two _ _ _ e fun q => h'.k_mv h8 q.1 _
  rw [if_neg k4] at e
  by_cases k5 : κ = 5
  · rw [if_pos k5] at e
    exact two _ _ _ e fun q => h'.k_lv h8 q.2.1 (Or.inr (Or.inr (Or.inr rfl)))
  rw [if_neg k5] at e
  by_cases k6 : κ = 6
  · rw [if_pos k6] at e
    exact two _ _ _ e fun q => h'.k_lv h8 q.2.1 (Or.inl rfl)
  rw [if_neg k6] at e
  by_cases k7 : κ = 7
  · rw [if_pos k7] at e
    exact two _ _ _ e fun q => h'
  rw [if_neg k7] at e
  by_cases k8 : κ = 8
  · rw [if_pos k8] at e
    exact two _ _ _ e fun q => h'
  rw [if_neg k8] at e
  by_cases k9 : κ = 9
  · rw [if_pos k9] at e
    exact two _ _ _ e fun q => h'
  rw [if_neg k9] at e
  cases e
theorem cmd_hi {y y' : Pg} (h1 : 1 ≤ Y) (h8 : Y ≤ 8) (h5 : N ≤ 5) {κ a n : Nat} (e : cmdf N Y κ a n y = some y') {k : Nat} (hk : 65 ≤ k) : y' k = y k := by
  have two : ∀ (c : Prop) (_ : Decidable c) (u : Pg), (if c then some u else none) = some y' → (c → u k = y k) → y' k = y k := fun c _ u e g => by
    by_cases q : c
    · rw [if_pos q] at e
      cases e
      exact g q
    · rw [if_neg q] at e
      cases e
  unfold cmdf at e
  by_cases k1 : κ = 1
  · rw [if_pos k1] at e
    exact two _ _ _ e fun q => tkn_hi a n y h1 h8 h5 hk
  rw [if_neg k1] at e
  by_cases k2 : κ = 2
  · rw [if_pos k2] at e
    exact two _ _ _ e fun q => dl_hi Y n y h8 (by omega)
  rw [if_neg k2] at e
  by_cases k3 : κ = 3
  · rw [if_pos k3] at e
    exact two _ _ _ e fun q => up_ne _ _ (by omega)
  rw [if_neg k3] at e
  by_cases k4 : κ = 4
  · rw [if_pos k4] at e
    exact two _ _ _ e fun q => mv_hi a _ y q.1 h5 hk
  rw [if_neg k4] at e
  by_cases k5 : κ = 5
  · rw [if_pos k5] at e
    exact two _ _ _ e fun q => lv_out 4 (by omega)
  rw [if_neg k5] at e
  by_cases k6 : κ = 6
  · rw [if_pos k6] at e
    exact two _ _ _ e fun q => lv_out 0 (by omega)
  rw [if_neg k6] at e
  by_cases k7 : κ = 7
  · rw [if_pos k7] at e
    exact two _ _ _ e fun q => rfl
  rw [if_neg k7] at e
  by_cases k8 : κ = 8
  · rw [if_pos k8] at e
    exact two _ _ _ e fun q => rfl
  rw [if_neg k8] at e
  by_cases k9 : κ = 9
  · rw [if_pos k9] at e
    exact two _ _ _ e fun q => rfl
  rw [if_neg k9] at e
  cases e
theorem has_n {y : Pg} (q : Nat) (hN : y 65 = nI N) (n1 : 1 ≤ N) (h5 : N ≤ 5) {a : Nat} (ha : a < 10) : F_X5_hasBoiler q (nI a) (sr C q y) = some ((if a < N then 1 else 0), sr C q y) := by
  rw [has_q (by rw [sr_same]; exact hN) n1 h5]
  by_cases c : a < N
  · rw [if_pos c, if_pos ⟨nI_pos' (by omega), nI_le (by omega) (by omega)⟩]
  · rw [if_neg c, if_neg (fun z => c (by have := (nI_leI (by omega) (by omega)).mp z.2; omega))]
/-- the class's command -/
theorem c_cmd {t : Pg} (n1 : 1 ≤ N) (h5 : N ≤ 5) (h1 : 1 ≤ Y) (h8 : Y ≤ 8) (hK : K < 800000) (hT : Tr N Y K t) {κ a n : Nat} (hκ : κ < 10) (ha : a < 10) (hn : n < 1000) : match cmdf N Y κ a n t with
    | none => F_X8_isAllowed (nI κ) (nI a) (nI n) (sr C 1 t) = some (0, sr C 1 t)
    | some t' => F_X8_isAllowed (nI κ) (nI a) (nI n) (sr C 1 t) = some (1, sr C 1 t) ∧ ∃ w, F_X8_carryOut (nI κ) (nI a) (nI n) (sr C 1 t) = some (w, sr C 1 t') := by
  have i1 : (sr C 1 t) 1 = t := sr_same C 1 t
  have eqz : ∀ m : Nat, m < 1000 → (nI m = 0 ↔ m = 0) := fun m hm => nI_eq (b := 0) (by omega) (by decide)
  unfold cmdf F_X8_isAllowed F_X8_carryOut
  rcases (show κ = 0 ∨ κ = 1 ∨ κ = 2 ∨ κ = 3 ∨ κ = 4 ∨ κ = 5 ∨ κ = 6 ∨ κ = 7 ∨ κ = 8 ∨ κ = 9 by omega) with rfl | rfl | rfl | rfl | rfl | rfl | rfl | rfl | rfl | rfl
  · repeat (first | rw [if_pos (by decide)] | rw [if_neg (by decide)])
  · rw [if_pos (show (1 : Nat) = 1 from rfl), if_pos (show nI 1 = 1 by decide), if_pos (show nI 1 = 1 by decide)]
    by_cases c1 : a ≤ 5
    · rw [if_neg (show ¬ (5 : Int32) < nI a from nI_nlt c1 (by decide))]
      by_cases c2 : 1 ≤ n
      · rw [if_neg (show ¬ nI n < (1 : Int32) from nI_nlt c2 (by omega))]
        by_cases c3 : n ≤ 96
        · rw [if_neg (show ¬ (96 : Int32) < nI n from nI_nlt c3 (by decide)), if_pos (show a ≤ 5 ∧ 1 ≤ n ∧ n ≤ 96 from ⟨c1, c2, c3⟩)]
          exact ⟨rfl, _, by rw [g_passTicks hT.1 hT.2.1 h5 h1 h8 1 (by omega) (by omega) (by omega) hT.2.2, b2_s]⟩
        · rw [if_pos (show (96 : Int32) < nI n from nI_lt (show 96 < n by omega) (by omega)), if_neg (show ¬ (a ≤ 5 ∧ 1 ≤ n ∧ n ≤ 96) from fun q => c3 q.2.2)]
      · rw [if_pos (show nI n < (1 : Int32) from nI_lt (show n < 1 by omega) (by decide)), if_neg (show ¬ (a ≤ 5 ∧ 1 ≤ n ∧ n ≤ 96) from fun q => c2 q.2.1)]
    · rw [if_pos (show (5 : Int32) < nI a from nI_lt (show 5 < a by omega) (by omega)), if_neg (show ¬ (a ≤ 5 ∧ 1 ≤ n ∧ n ≤ 96) from fun q => c1 q.1)]
  · rw [if_neg (show ¬ (2 : Nat) = 1 by decide), if_pos (show (2 : Nat) = 2 from rfl), if_neg (show ¬ nI 2 = 1 by decide), if_pos (show nI 2 = 2 by decide), if_neg (show ¬ nI 2 = 1 by decide), if_pos (show nI 2 = 2 by decide)]
    by_cases c1 : a = 0
    · rw [if_pos ((eqz a (by omega)).mpr c1)]
      by_cases c2 : 1 ≤ n
      · rw [if_neg (show ¬ nI n < (1 : Int32) from nI_nlt c2 (by omega))]
        by_cases c3 : n ≤ 20
        · rw [if_neg (show ¬ (20 : Int32) < nI n from nI_nlt c3 (by decide)), if_pos (show a = 0 ∧ 1 ≤ n ∧ n ≤ 20 from ⟨c1, c2, c3⟩)]
          exact ⟨rfl, _, by rw [g_deliver hT.2.1 h1 h8 1 (by omega), b2_s]⟩
        · rw [if_pos (show (20 : Int32) < nI n from nI_lt (show 20 < n by omega) (by omega)), if_neg (show ¬ (a = 0 ∧ 1 ≤ n ∧ n ≤ 20) from fun q => c3 q.2.2)]
      · rw [if_pos (show nI n < (1 : Int32) from nI_lt (show n < 1 by omega) (by decide)), if_neg (show ¬ (a = 0 ∧ 1 ≤ n ∧ n ≤ 20) from fun q => c2 q.2.1)]
    · rw [if_neg (show ¬ nI a = 0 from fun q => c1 ((eqz a (by omega)).mp q)), if_neg (show ¬ (a = 0 ∧ 1 ≤ n ∧ n ≤ 20) from fun q => c1 q.1)]
  · rw [if_neg (show ¬ (3 : Nat) = 1 by decide), if_neg (show ¬ (3 : Nat) = 2 by decide), if_pos (show (3 : Nat) = 3 from rfl), if_neg (show ¬ nI 3 = 1 by decide), if_neg (show ¬ nI 3 = 2 by decide), if_pos (show nI 3 = 3 by decide), if_neg (show ¬ nI 3 = 1 by decide), if_neg (show ¬ nI 3 = 2 by decide), if_pos (show nI 3 = 3 by decide)]
    by_cases c1 : a < 6
    · rw [(set_in (nI n) _ a c1).1, b2_s]
      by_cases c2 : kLeast a ≤ nI n ∧ nI n ≤ kMost a
      · rw [if_pos c2, if_pos (show a < 6 ∧ kLeast a ≤ nI n ∧ nI n ≤ kMost a from ⟨c1, c2⟩), gb_p (Or.inr rfl)]
        exact ⟨rfl, _, by rw [gi_n c1 (by decide), nI_clamp (by omega), nm_s, mu_sr]⟩
      · rw [if_neg c2, if_neg (show ¬ (a < 6 ∧ kLeast a ≤ nI n ∧ nI n ≤ kMost a) from fun q => c2 q.2), gb_p (Or.inl rfl)]
    · rw [(set_out (nI n) _ (fun q => c1 (by have := (nI_leI (a := a) (b := 5) (by omega) (by decide)).mp q.2; omega))).1, b2_s, if_neg (show ¬ (a < 6 ∧ kLeast a ≤ nI n ∧ nI n ≤ kMost a) from fun q => c1 q.1), gb_p (Or.inl rfl)]
  · rw [if_neg (show ¬ (4 : Nat) = 1 by decide), if_neg (show ¬ (4 : Nat) = 2 by decide), if_neg (show ¬ (4 : Nat) = 3 by decide), if_pos (show (4 : Nat) = 4 from rfl), if_neg (show ¬ nI 4 = 1 by decide), if_neg (show ¬ nI 4 = 2 by decide), if_neg (show ¬ nI 4 = 3 by decide), if_pos (show nI 4 = 4 by decide), if_neg (show ¬ nI 4 = 1 by decide), if_neg (show ¬ nI 4 = 2 by decide), if_neg (show ¬ nI 4 = 3 by decide), if_pos (show nI 4 = 4 by decide)]
    by_cases c1 : a < 2
    · rw [if_neg (show ¬ (2 : Int32) ≤ nI a from nI_ge c1 (by decide))]
      by_cases c2 : n ≤ 1
      · rw [if_neg (show ¬ (1 : Int32) < nI n from nI_nlt c2 (by decide)), if_pos (show a < 2 ∧ n ≤ 1 from ⟨c1, c2⟩)]
        refine ⟨rfl, 0, ?_⟩
        rcases (show n = 0 ∨ n = 1 by omega) with q | q
        · subst q
          have gm : F_X5_moveFlue 1 (nI a) 0 (sr C 1 t) = some ((mv N a false t).1, sr C 1 (mv N a false t).2) := g_moveFlue hT.1 h5 1 c1 false
          rw [if_neg (show ¬ nI 0 = 1 by decide), gm]
          rfl
        · subst q
          have gm : F_X5_moveFlue 1 (nI a) 1 (sr C 1 t) = some ((mv N a true t).1, sr C 1 (mv N a true t).2) := g_moveFlue hT.1 h5 1 c1 true
          rw [if_pos (show nI 1 = 1 by decide), gm]
          rfl
      · rw [if_pos (show (1 : Int32) < nI n from nI_lt (show 1 < n by omega) (by omega)), if_neg (show ¬ (a < 2 ∧ n ≤ 1) from fun q => c2 q.2)]
    · rw [if_pos (show (2 : Int32) ≤ nI a from nI_le (show 2 ≤ a by omega) (by omega)), if_neg (show ¬ (a < 2 ∧ n ≤ 1) from fun q => c1 q.1)]
  · rw [if_neg (show ¬ (5 : Nat) = 1 by decide), if_neg (show ¬ (5 : Nat) = 2 by decide), if_neg (show ¬ (5 : Nat) = 3 by decide), if_neg (show ¬ (5 : Nat) = 4 by decide), if_pos (show (5 : Nat) = 5 from rfl), if_neg (show ¬ nI 5 = 1 by decide), if_neg (show ¬ nI 5 = 2 by decide), if_neg (show ¬ nI 5 = 3 by decide), if_neg (show ¬ nI 5 = 4 by decide), if_pos (show nI 5 = 5 by decide), if_neg (show ¬ nI 5 = 1 by decide), if_neg (show ¬ nI 5 = 2 by decide), if_neg (show ¬ nI 5 = 3 by decide), if_neg (show ¬ nI 5 = 4 by decide), if_pos (show nI 5 = 5 by decide)]
    by_cases c1 : n = 0
    · rw [if_pos ((eqz n hn).mpr c1), has_n 1 hT.1 n1 h5 ha, b2_s]
      by_cases c2 : a < N
      · rw [if_pos c2, if_neg (show ¬ (1 : Int32) = 0 by decide), gi_n (by omega) (by decide), nI_clamp (by omega), i1]
        by_cases c3 : t (30 + 7 * a + 2) = 4
        · rw [if_pos c3, if_neg (show ¬ (n = 0 ∧ a < N ∧ t (30 + 7 * a + 2) ≠ 4) from fun q => q.2.2 c3)]
        · rw [if_neg c3, if_pos (show n = 0 ∧ a < N ∧ t (30 + 7 * a + 2) ≠ 4 from ⟨c1, c2, c3⟩)]
          exact ⟨rfl, _, by rw [gi_n (by omega) (by decide), g_leave, b2_s]⟩
      · rw [if_neg c2, if_pos (show (0 : Int32) = 0 from rfl), if_neg (show ¬ (n = 0 ∧ a < N ∧ t (30 + 7 * a + 2) ≠ 4) from fun q => c2 q.2.1)]
    · rw [if_neg (show ¬ nI n = 0 from fun q => c1 ((eqz n hn).mp q)), if_neg (show ¬ (n = 0 ∧ a < N ∧ t (30 + 7 * a + 2) ≠ 4) from fun q => c1 q.1)]
  · rw [if_neg (show ¬ (6 : Nat) = 1 by decide), if_neg (show ¬ (6 : Nat) = 2 by decide), if_neg (show ¬ (6 : Nat) = 3 by decide), if_neg (show ¬ (6 : Nat) = 4 by decide), if_neg (show ¬ (6 : Nat) = 5 by decide), if_pos (show (6 : Nat) = 6 from rfl), if_neg (show ¬ nI 6 = 1 by decide), if_neg (show ¬ nI 6 = 2 by decide), if_neg (show ¬ nI 6 = 3 by decide), if_neg (show ¬ nI 6 = 4 by decide), if_neg (show ¬ nI 6 = 5 by decide), if_pos (show nI 6 = 6 by decide), if_neg (show ¬ nI 6 = 1 by decide), if_neg (show ¬ nI 6 = 2 by decide), if_neg (show ¬ nI 6 = 3 by decide), if_neg (show ¬ nI 6 = 4 by decide), if_neg (show ¬ nI 6 = 5 by decide), if_pos (show nI 6 = 6 by decide)]
    by_cases c1 : n = 0
    · rw [if_pos ((eqz n hn).mpr c1), has_n 1 hT.1 n1 h5 ha, b2_s]
      by_cases c2 : a < N
      · rw [if_pos c2, if_neg (show ¬ (1 : Int32) = 0 by decide), gi_n (by omega) (by decide), nI_clamp (by omega), i1]
        by_cases c3 : t (30 + 7 * a + 2) = 4
        · rw [if_pos c3, if_pos (show n = 0 ∧ a < N ∧ t (30 + 7 * a + 2) = 4 from ⟨c1, c2, c3⟩)]
          exact ⟨rfl, _, by rw [gi_n (by omega) (by decide), g_leave, b2_s]⟩
        · rw [if_neg c3, if_neg (show ¬ (n = 0 ∧ a < N ∧ t (30 + 7 * a + 2) = 4) from fun q => c3 q.2.2)]
      · rw [if_neg c2, if_pos (show (0 : Int32) = 0 from rfl), if_neg (show ¬ (n = 0 ∧ a < N ∧ t (30 + 7 * a + 2) = 4) from fun q => c2 q.2.1)]
    · rw [if_neg (show ¬ nI n = 0 from fun q => c1 ((eqz n hn).mp q)), if_neg (show ¬ (n = 0 ∧ a < N ∧ t (30 + 7 * a + 2) = 4) from fun q => c1 q.1)]
  · rw [if_neg (show ¬ (7 : Nat) = 1 by decide), if_neg (show ¬ (7 : Nat) = 2 by decide), if_neg (show ¬ (7 : Nat) = 3 by decide), if_neg (show ¬ (7 : Nat) = 4 by decide), if_neg (show ¬ (7 : Nat) = 5 by decide), if_neg (show ¬ (7 : Nat) = 6 by decide), if_pos (show (7 : Nat) = 7 from rfl), if_neg (show ¬ nI 7 = 1 by decide), if_neg (show ¬ nI 7 = 2 by decide), if_neg (show ¬ nI 7 = 3 by decide), if_neg (show ¬ nI 7 = 4 by decide), if_neg (show ¬ nI 7 = 5 by decide), if_neg (show ¬ nI 7 = 6 by decide), if_pos (show nI 7 = 7 by decide), if_neg (show ¬ nI 7 = 1 by decide), if_neg (show ¬ nI 7 = 2 by decide), if_neg (show ¬ nI 7 = 3 by decide), if_neg (show ¬ nI 7 = 4 by decide), if_neg (show ¬ nI 7 = 5 by decide), if_neg (show ¬ nI 7 = 6 by decide)]
    by_cases c1 : a = 0
    · rw [if_pos ((eqz a (by omega)).mpr c1)]
      by_cases c2 : n ≤ 99
      · rw [if_neg (show ¬ (99 : Int32) < nI n from nI_nlt c2 (by decide)), f_mean (by rw [i1]; exact hT.2.1) h1 h8, b2_s, i1]
        by_cases c3 : avg Y t < nI n
        · rw [if_pos c3, if_neg (show ¬ (a = 0 ∧ n ≤ 99 ∧ ¬ avg Y t < nI n) from fun q => q.2.2 c3)]
        · rw [if_neg c3, if_pos (show a = 0 ∧ n ≤ 99 ∧ ¬ avg Y t < nI n from ⟨c1, c2, c3⟩)]
          exact ⟨rfl, _, rfl⟩
      · rw [if_pos (show (99 : Int32) < nI n from nI_lt (show 99 < n by omega) (by omega)), if_neg (show ¬ (a = 0 ∧ n ≤ 99 ∧ ¬ avg Y t < nI n) from fun q => c2 q.2.1)]
    · rw [if_neg (show ¬ nI a = 0 from fun q => c1 ((eqz a (by omega)).mp q)), if_neg (show ¬ (a = 0 ∧ n ≤ 99 ∧ ¬ avg Y t < nI n) from fun q => c1 q.1)]
  · rw [if_neg (show ¬ (8 : Nat) = 1 by decide), if_neg (show ¬ (8 : Nat) = 2 by decide), if_neg (show ¬ (8 : Nat) = 3 by decide), if_neg (show ¬ (8 : Nat) = 4 by decide), if_neg (show ¬ (8 : Nat) = 5 by decide), if_neg (show ¬ (8 : Nat) = 6 by decide), if_neg (show ¬ (8 : Nat) = 7 by decide), if_pos (show (8 : Nat) = 8 from rfl), if_neg (show ¬ nI 8 = 1 by decide), if_neg (show ¬ nI 8 = 2 by decide), if_neg (show ¬ nI 8 = 3 by decide), if_neg (show ¬ nI 8 = 4 by decide), if_neg (show ¬ nI 8 = 5 by decide), if_neg (show ¬ nI 8 = 6 by decide), if_neg (show ¬ nI 8 = 7 by decide), if_pos (show nI 8 = 8 by decide), if_neg (show ¬ nI 8 = 1 by decide), if_neg (show ¬ nI 8 = 2 by decide), if_neg (show ¬ nI 8 = 3 by decide), if_neg (show ¬ nI 8 = 4 by decide), if_neg (show ¬ nI 8 = 5 by decide), if_neg (show ¬ nI 8 = 6 by decide)]
    rw [has_n 1 hT.1 n1 h5 ha, b2_s]
    by_cases c2 : a < N
    · rw [if_pos c2, if_neg (show ¬ (1 : Int32) = 0 by decide), gi_n (by omega) (by decide), nI_clamp (by omega), i1]
      by_cases c3 : t (30 + 7 * a + 2) = nI n
      · rw [if_pos c3, if_pos (show a < N ∧ t (30 + 7 * a + 2) = nI n from ⟨c2, c3⟩)]
        exact ⟨rfl, _, rfl⟩
      · rw [if_neg c3, if_neg (show ¬ (a < N ∧ t (30 + 7 * a + 2) = nI n) from fun q => c3 q.2)]
    · rw [if_neg c2, if_pos (show (0 : Int32) = 0 from rfl), if_neg (show ¬ (a < N ∧ t (30 + 7 * a + 2) = nI n) from fun q => c2 q.1)]
  · rw [if_neg (show ¬ (9 : Nat) = 1 by decide), if_neg (show ¬ (9 : Nat) = 2 by decide), if_neg (show ¬ (9 : Nat) = 3 by decide), if_neg (show ¬ (9 : Nat) = 4 by decide), if_neg (show ¬ (9 : Nat) = 5 by decide), if_neg (show ¬ (9 : Nat) = 6 by decide), if_neg (show ¬ (9 : Nat) = 7 by decide), if_neg (show ¬ (9 : Nat) = 8 by decide), if_pos (show (9 : Nat) = 9 from rfl), if_neg (show ¬ nI 9 = 1 by decide), if_neg (show ¬ nI 9 = 2 by decide), if_neg (show ¬ nI 9 = 3 by decide), if_neg (show ¬ nI 9 = 4 by decide), if_neg (show ¬ nI 9 = 5 by decide), if_neg (show ¬ nI 9 = 6 by decide), if_neg (show ¬ nI 9 = 7 by decide), if_neg (show ¬ nI 9 = 8 by decide), if_pos (show nI 9 = 9 by decide), if_neg (show ¬ nI 9 = 1 by decide), if_neg (show ¬ nI 9 = 2 by decide), if_neg (show ¬ nI 9 = 3 by decide), if_neg (show ¬ nI 9 = 4 by decide), if_neg (show ¬ nI 9 = 5 by decide), if_neg (show ¬ nI 9 = 6 by decide)]
    by_cases c1 : a = 0
    · rw [if_pos ((eqz a (by omega)).mpr c1)]
      by_cases c2 : n ≤ 9
      · rw [if_neg (show ¬ (9 : Int32) < nI n from nI_nlt c2 (by decide)), i1]
        by_cases c3 : t 11 = nI n
        · rw [if_pos c3, if_pos (show a = 0 ∧ n ≤ 9 ∧ t 11 = nI n from ⟨c1, c2, c3⟩)]
          exact ⟨rfl, _, rfl⟩
        · rw [if_neg c3, if_neg (show ¬ (a = 0 ∧ n ≤ 9 ∧ t 11 = nI n) from fun q => c3 q.2.2)]
      · rw [if_pos (show (9 : Int32) < nI n from nI_lt (show 9 < n by omega) (by omega)), if_neg (show ¬ (a = 0 ∧ n ≤ 9 ∧ t 11 = nI n) from fun q => c2 q.2.1)]
    · rw [if_neg (show ¬ nI a = 0 from fun q => c1 ((eqz a (by omega)).mp q)), if_neg (show ¬ (a = 0 ∧ n ≤ 9 ∧ t 11 = nI n) from fun q => c1 q.1)]
theorem has_mn {D : Mem} (e4 : D 30 4 = nI N) (n1 : 1 ≤ N) (h5 : N ≤ 5) (t : Pg) {a : Nat} (ha : a < 10) : F_X9_isBoiler (nI a) (sr D 34 t) = some ((if a < N then 1 else 0), sr D 34 t) := by
  rw [has_m (N := N) (by rw [sr_ne _ _ (show 30 ≠ 34 by decide)]; exact e4) n1]
  by_cases c : a < N
  · rw [if_pos c, if_pos ⟨nI_pos' (by omega), nI_le (by omega) (by omega)⟩]
  · rw [if_neg c, if_neg (fun z => c (by have := (nI_leI (by omega) (by omega)).mp z.2; omega))]
/-- the model's command -/
theorem m_cmd {D : Mem} {t : Pg} (e4 : D 30 4 = nI N) (e5 : D 30 5 = nI Y) (n1 : 1 ≤ N) (h5 : N ≤ 5) (h1 : 1 ≤ Y) (h8 : Y ≤ 8) (hK : K < 800000) (hT : WF N Y K t) {κ a n : Nat} (hκ : κ < 10) (ha : a < 10) (hn : n < 1000) : F_X9_does (nI κ) (nI a) (nI n) (sr D 34 t) = match cmdf N Y κ a n t with
    | none => some (0, sr D 34 t)
    | some t' => some (1, sr D 34 t') := by
  have i1 : (sr D 34 t) 34 = t := sr_same D 34 t
  have eqz : ∀ m : Nat, m < 1000 → (nI m = 0 ↔ m = 0) := fun m hm => nI_eq (b := 0) (by omega) (by decide)
  have a34 : alen 34 = 65 := rfl
  have tick2 : (nI n).toInt64 = (nI n).toInt64 := rfl
  unfold cmdf F_X9_does
  rw [has_mn e4 n1 h5 t ha, b2_s]
  rcases (show κ = 0 ∨ κ = 1 ∨ κ = 2 ∨ κ = 3 ∨ κ = 4 ∨ κ = 5 ∨ κ = 6 ∨ κ = 7 ∨ κ = 8 ∨ κ = 9 by omega) with rfl | rfl | rfl | rfl | rfl | rfl | rfl | rfl | rfl | rfl
  · repeat (first | rw [if_pos (by decide)] | rw [if_neg (by decide)])
  · rw [if_pos (show (1 : Nat) = 1 from rfl), if_pos (show nI 1 = 1 by decide)]
    by_cases c0 : n ≤ 99
    · rw [if_neg (show ¬ (99 : Int32) < nI n from nI_nlt c0 (by decide)), arT, b2_s]
      by_cases c1 : a ≤ 5 ∧ 1 ≤ n ∧ n ≤ 96
      · rw [if_pos (show ((1 : Int32) ≤ nI n ∧ nI n ≤ 96) ∧ (0 : Int32) ≤ nI a ∧ nI a ≤ 5 from ⟨⟨nI_le c1.2.1 (by omega), nI_le c1.2.2 (by decide)⟩, nI_pos' (by omega), nI_le c1.1 (by decide)⟩), if_neg (show ¬ (1 : Int32) = 0 by decide), if_pos (show a ≤ 5 ∧ 1 ≤ n ∧ n ≤ 96 from c1), g_ticksOn e4 e5 h5 h1 h8 34 (by decide) rfl (by omega) (by omega) (K := K) (by omega) hT, b2_s]
      · rw [if_neg (show ¬ (((1 : Int32) ≤ nI n ∧ nI n ≤ 96) ∧ (0 : Int32) ≤ nI a ∧ nI a ≤ 5) from fun q => c1 ⟨(nI_leI (b := 5) (by omega) (by decide)).mp q.2.2, (nI_leI (a := 1) (by decide) (by omega)).mp q.1.1, (nI_leI (b := 96) (by omega) (by decide)).mp q.1.2⟩), if_pos (show (0 : Int32) = 0 from rfl), if_neg (show ¬ (a ≤ 5 ∧ 1 ≤ n ∧ n ≤ 96) from c1)]
    · rw [if_pos (show (99 : Int32) < nI n from nI_lt (show 99 < n by omega) (by omega)), if_neg (show ¬ (a ≤ 5 ∧ 1 ≤ n ∧ n ≤ 96) from fun q => c0 (by omega))]
  · rw [if_neg (show ¬ (2 : Nat) = 1 by decide), if_pos (show (2 : Nat) = 2 from rfl), if_neg (show ¬ nI 2 = 1 by decide), if_pos (show nI 2 = 2 by decide)]
    by_cases c0 : a = 0
    · rw [if_pos ((eqz a (by omega)).mpr c0), f_inL (b := 1) (c := 20) (by decide) (by decide), b2_s]
      by_cases c1 : 1 ≤ n ∧ n ≤ 20
      · rw [if_pos (show (1 : Int32) ≤ nI n ∧ nI n ≤ 20 from ⟨nI_le c1.1 (by omega), nI_le c1.2 (by decide)⟩), if_neg (show ¬ (1 : Int32) = 0 by decide), if_pos (show a = 0 ∧ 1 ≤ n ∧ n ≤ 20 from ⟨c0, c1⟩), g_drawOn e5 h1 h8 34 (by decide) rfl (by omega), b2_s]
      · rw [if_neg (show ¬ ((1 : Int32) ≤ nI n ∧ nI n ≤ 20) from fun q => c1 ⟨(nI_leI (a := 1) (by decide) (by omega)).mp q.1, (nI_leI (b := 20) (by omega) (by decide)).mp q.2⟩), if_pos (show (0 : Int32) = 0 from rfl), if_neg (show ¬ (a = 0 ∧ 1 ≤ n ∧ n ≤ 20) from fun q => c1 q.2)]
    · rw [if_neg (show ¬ nI a = 0 from fun q => c0 ((eqz a (by omega)).mp q)), if_neg (show ¬ (a = 0 ∧ 1 ≤ n ∧ n ≤ 20) from fun q => c0 q.1)]
  · rw [if_neg (show ¬ (3 : Nat) = 1 by decide), if_neg (show ¬ (3 : Nat) = 2 by decide), if_pos (show (3 : Nat) = 3 from rfl), if_neg (show ¬ nI 3 = 1 by decide), if_neg (show ¬ nI 3 = 2 by decide), if_pos (show nI 3 = 3 by decide)]
    by_cases c0 : n ≤ 99
    · rw [if_neg (show ¬ (99 : Int32) < nI n from nI_nlt c0 (by decide))]
      by_cases c1 : a < 6
      · rw [(set_in (nI n) _ a c1).2, b2_s]
        by_cases c2 : kLeast a ≤ nI n ∧ nI n ≤ kMost a
        · rw [if_pos c2, if_neg (show ¬ (1 : Int32) = 0 by decide), if_pos (show a < 6 ∧ kLeast a ≤ nI n ∧ nI n ≤ kMost a from ⟨c1, c2⟩), a34, gi_n (by omega) (by decide), nI_clamp (by omega), nm_s, mu_sr]
        · rw [if_neg c2, if_pos (show (0 : Int32) = 0 from rfl), if_neg (show ¬ (a < 6 ∧ kLeast a ≤ nI n ∧ nI n ≤ kMost a) from fun q => c2 q.2)]
      · rw [(set_out (nI n) _ (fun q => c1 (by have := (nI_leI (a := a) (b := 5) (by omega) (by decide)).mp q.2; omega))).2, b2_s, if_pos (show (0 : Int32) = 0 from rfl), if_neg (show ¬ (a < 6 ∧ kLeast a ≤ nI n ∧ nI n ≤ kMost a) from fun q => c1 q.1)]
    · have hbig : ∀ b : Nat, b < 6 → ¬ nI n ≤ kMost b := fun b hb q => by
        have hm : ∀ b : Nat, b < 6 → (kMost b).toInt ≤ 90 := by decide +kernel
        have := hm b hb
        rw [fa_le, ti _ (by omega)] at q
        omega
      rw [if_pos (show (99 : Int32) < nI n from nI_lt (show 99 < n by omega) (by omega)), if_neg (show ¬ (a < 6 ∧ kLeast a ≤ nI n ∧ nI n ≤ kMost a) from fun q => hbig a q.1 q.2.2)]
  · rw [if_neg (show ¬ (4 : Nat) = 1 by decide), if_neg (show ¬ (4 : Nat) = 2 by decide), if_neg (show ¬ (4 : Nat) = 3 by decide), if_pos (show (4 : Nat) = 4 from rfl), if_neg (show ¬ nI 4 = 1 by decide), if_neg (show ¬ nI 4 = 2 by decide), if_neg (show ¬ nI 4 = 3 by decide), if_pos (show nI 4 = 4 by decide)]
    by_cases c1 : a < 2
    · rw [if_neg (show ¬ (1 : Int32) < nI a from nI_nlt (show a ≤ 1 by omega) (by decide))]
      have hst : ∀ j, j < N → t (30 + 7 * j + 2) = 0 ∨ t (30 + 7 * j + 2) = 1 ∨ t (30 + 7 * j + 2) = 2 ∨ t (30 + 7 * j + 2) = 3 ∨ t (30 + 7 * j + 2) = 4 := fun j hj => (hT.2.2.2.2.2.2 j hj).2.2.1
      by_cases c2 : n ≤ 1
      · rw [if_pos (show nI n ≤ (1 : Int32) from nI_le c2 (by decide)), if_pos (show a < 2 ∧ n ≤ 1 from ⟨c1, c2⟩)]
        rcases (show n = 0 ∨ n = 1 by omega) with q | q
        · subst q
          have gm : F_X9_flueOn 34 (nI a) 0 (sr D 34 t) = some ((mv N a false t).1, sr D 34 (mv N a false t).2) := g_flueOn e4 h5 34 (by decide) rfl c1 false hst
          rw [if_neg (show ¬ nI 0 = 1 by decide), gm]
          rfl
        · subst q
          have gm : F_X9_flueOn 34 (nI a) 1 (sr D 34 t) = some ((mv N a true t).1, sr D 34 (mv N a true t).2) := g_flueOn e4 h5 34 (by decide) rfl c1 true hst
          rw [if_pos (show nI 1 = 1 by decide), gm]
          rfl
      · rw [if_neg (show ¬ nI n ≤ (1 : Int32) from nI_ge (show 1 < n by omega) (by omega)), if_neg (show ¬ (a < 2 ∧ n ≤ 1) from fun q => c2 q.2)]
    · rw [if_pos (show (1 : Int32) < nI a from nI_lt (show 1 < a by omega) (by omega)), if_neg (show ¬ (a < 2 ∧ n ≤ 1) from fun q => c1 q.1)]
  · rw [if_neg (show ¬ (5 : Nat) = 1 by decide), if_neg (show ¬ (5 : Nat) = 2 by decide), if_neg (show ¬ (5 : Nat) = 3 by decide), if_neg (show ¬ (5 : Nat) = 4 by decide), if_pos (show (5 : Nat) = 5 from rfl), if_neg (show ¬ nI 5 = 1 by decide), if_neg (show ¬ nI 5 = 2 by decide), if_neg (show ¬ nI 5 = 3 by decide), if_neg (show ¬ nI 5 = 4 by decide), if_pos (show nI 5 = 5 by decide)]
    by_cases c2 : a < N
    · rw [if_pos c2, if_neg (show ¬ (1 : Int32) = 0 by decide)]
      by_cases c1 : n = 0
      · rw [if_pos ((eqz n hn).mpr c1), at_s, a2, a34, gi_n (by omega) (by decide), nI_clamp (by omega), i1]
        by_cases c3 : t (30 + 7 * a + 2) = 4
        · rw [if_pos c3, if_neg (show ¬ (n = 0 ∧ a < N ∧ t (30 + 7 * a + 2) ≠ 4) from fun q => q.2.2 c3)]
        · rw [if_neg c3, if_pos (show n = 0 ∧ a < N ∧ t (30 + 7 * a + 2) ≠ 4 from ⟨c1, c2, c3⟩), g_put 34 (by omega) _ rfl, b2_s]
      · rw [if_neg (show ¬ nI n = 0 from fun q => c1 ((eqz n hn).mp q)), if_neg (show ¬ (n = 0 ∧ a < N ∧ t (30 + 7 * a + 2) ≠ 4) from fun q => c1 q.1)]
    · rw [if_neg c2, if_pos (show (0 : Int32) = 0 from rfl), if_neg (show ¬ (n = 0 ∧ a < N ∧ t (30 + 7 * a + 2) ≠ 4) from fun q => c2 q.2.1)]
  · rw [if_neg (show ¬ (6 : Nat) = 1 by decide), if_neg (show ¬ (6 : Nat) = 2 by decide), if_neg (show ¬ (6 : Nat) = 3 by decide), if_neg (show ¬ (6 : Nat) = 4 by decide), if_neg (show ¬ (6 : Nat) = 5 by decide), if_pos (show (6 : Nat) = 6 from rfl), if_neg (show ¬ nI 6 = 1 by decide), if_neg (show ¬ nI 6 = 2 by decide), if_neg (show ¬ nI 6 = 3 by decide), if_neg (show ¬ nI 6 = 4 by decide), if_neg (show ¬ nI 6 = 5 by decide), if_pos (show nI 6 = 6 by decide)]
    by_cases c2 : a < N
    · rw [if_pos c2, if_neg (show ¬ (1 : Int32) = 0 by decide)]
      by_cases c1 : n = 0
      · rw [if_pos ((eqz n hn).mpr c1), at_s, a2, a34, gi_n (by omega) (by decide), nI_clamp (by omega), i1]
        by_cases c3 : t (30 + 7 * a + 2) = 4
        · rw [if_pos c3, if_pos (show n = 0 ∧ a < N ∧ t (30 + 7 * a + 2) = 4 from ⟨c1, c2, c3⟩), g_put 34 (by omega) _ rfl, b2_s]
        · rw [if_neg c3, if_neg (show ¬ (n = 0 ∧ a < N ∧ t (30 + 7 * a + 2) = 4) from fun q => c3 q.2.2)]
      · rw [if_neg (show ¬ nI n = 0 from fun q => c1 ((eqz n hn).mp q)), if_neg (show ¬ (n = 0 ∧ a < N ∧ t (30 + 7 * a + 2) = 4) from fun q => c1 q.1)]
    · rw [if_neg c2, if_pos (show (0 : Int32) = 0 from rfl), if_neg (show ¬ (n = 0 ∧ a < N ∧ t (30 + 7 * a + 2) = 4) from fun q => c2 q.2.1)]
  · rw [if_neg (show ¬ (7 : Nat) = 1 by decide), if_neg (show ¬ (7 : Nat) = 2 by decide), if_neg (show ¬ (7 : Nat) = 3 by decide), if_neg (show ¬ (7 : Nat) = 4 by decide), if_neg (show ¬ (7 : Nat) = 5 by decide), if_neg (show ¬ (7 : Nat) = 6 by decide), if_pos (show (7 : Nat) = 7 from rfl), if_neg (show ¬ nI 7 = 1 by decide), if_neg (show ¬ nI 7 = 2 by decide), if_neg (show ¬ nI 7 = 3 by decide), if_neg (show ¬ nI 7 = 4 by decide), if_neg (show ¬ nI 7 = 5 by decide), if_neg (show ¬ nI 7 = 6 by decide), if_pos (show nI 7 = 7 by decide)]
    by_cases c1 : a = 0
    · rw [if_pos ((eqz a (by omega)).mpr c1)]
      by_cases c2 : n ≤ 99
      · rw [if_neg (show ¬ (100 : Int32) ≤ nI n from nI_ge (show n < 100 by omega) (by decide)), f_meanOf (by rw [sr_ne _ _ (show 30 ≠ 34 by decide)]; exact e5) h1 h8 rfl, b2_s, i1]
        by_cases c3 : avg Y t < nI n
        · rw [if_pos c3, if_neg (show ¬ (a = 0 ∧ n ≤ 99 ∧ ¬ avg Y t < nI n) from fun q => q.2.2 c3)]
        · rw [if_neg c3, if_pos (show a = 0 ∧ n ≤ 99 ∧ ¬ avg Y t < nI n from ⟨c1, c2, c3⟩)]
      · rw [if_pos (show (100 : Int32) ≤ nI n from nI_le (show 100 ≤ n by omega) (by omega)), if_neg (show ¬ (a = 0 ∧ n ≤ 99 ∧ ¬ avg Y t < nI n) from fun q => c2 q.2.1)]
    · rw [if_neg (show ¬ nI a = 0 from fun q => c1 ((eqz a (by omega)).mp q)), if_neg (show ¬ (a = 0 ∧ n ≤ 99 ∧ ¬ avg Y t < nI n) from fun q => c1 q.1)]
  · rw [if_neg (show ¬ (8 : Nat) = 1 by decide), if_neg (show ¬ (8 : Nat) = 2 by decide), if_neg (show ¬ (8 : Nat) = 3 by decide), if_neg (show ¬ (8 : Nat) = 4 by decide), if_neg (show ¬ (8 : Nat) = 5 by decide), if_neg (show ¬ (8 : Nat) = 6 by decide), if_neg (show ¬ (8 : Nat) = 7 by decide), if_pos (show (8 : Nat) = 8 from rfl), if_neg (show ¬ nI 8 = 1 by decide), if_neg (show ¬ nI 8 = 2 by decide), if_neg (show ¬ nI 8 = 3 by decide), if_neg (show ¬ nI 8 = 4 by decide), if_neg (show ¬ nI 8 = 5 by decide), if_neg (show ¬ nI 8 = 6 by decide), if_neg (show ¬ nI 8 = 7 by decide), if_pos (show nI 8 = 8 by decide)]
    by_cases c2 : a < N
    · rw [if_pos c2, if_neg (show ¬ (1 : Int32) = 0 by decide)]
      by_cases c4 : n < 10
      · rw [if_neg (show ¬ (10 : Int32) ≤ nI n from nI_ge c4 (by decide)), at_s, a2, a34, gi_n (by omega) (by decide), nI_clamp (by omega), i1]
        by_cases c3 : t (30 + 7 * a + 2) = nI n
        · rw [if_pos c3, if_pos (show a < N ∧ t (30 + 7 * a + 2) = nI n from ⟨c2, c3⟩)]
        · rw [if_neg c3, if_neg (show ¬ (a < N ∧ t (30 + 7 * a + 2) = nI n) from fun q => c3 q.2)]
      · have hne : ¬ t (30 + 7 * a + 2) = nI n := fun e => by
          have hs := (hT.2.2.2.2.2.2 a c2).2.2.1
          rw [e] at hs
          rcases hs with q | q | q | q | q
          · have := (nI_eq (a := n) (b := 0) (by omega) (by decide)).mp q; omega
          · have := (nI_eq (a := n) (b := 1) (by omega) (by decide)).mp q; omega
          · have := (nI_eq (a := n) (b := 2) (by omega) (by decide)).mp q; omega
          · have := (nI_eq (a := n) (b := 3) (by omega) (by decide)).mp q; omega
          · have := (nI_eq (a := n) (b := 4) (by omega) (by decide)).mp q; omega
        rw [if_pos (show (10 : Int32) ≤ nI n from nI_le (show 10 ≤ n by omega) (by omega)), if_neg (show ¬ (a < N ∧ t (30 + 7 * a + 2) = nI n) from fun q => hne q.2)]
    · rw [if_neg c2, if_pos (show (0 : Int32) = 0 from rfl), if_neg (show ¬ (a < N ∧ t (30 + 7 * a + 2) = nI n) from fun q => c2 q.1)]
  · rw [if_neg (show ¬ (9 : Nat) = 1 by decide), if_neg (show ¬ (9 : Nat) = 2 by decide), if_neg (show ¬ (9 : Nat) = 3 by decide), if_neg (show ¬ (9 : Nat) = 4 by decide), if_neg (show ¬ (9 : Nat) = 5 by decide), if_neg (show ¬ (9 : Nat) = 6 by decide), if_neg (show ¬ (9 : Nat) = 7 by decide), if_neg (show ¬ (9 : Nat) = 8 by decide), if_pos (show (9 : Nat) = 9 from rfl), if_neg (show ¬ nI 9 = 1 by decide), if_neg (show ¬ nI 9 = 2 by decide), if_neg (show ¬ nI 9 = 3 by decide), if_neg (show ¬ nI 9 = 4 by decide), if_neg (show ¬ nI 9 = 5 by decide), if_neg (show ¬ nI 9 = 6 by decide), if_neg (show ¬ nI 9 = 7 by decide), if_neg (show ¬ nI 9 = 8 by decide), if_pos (show nI 9 = 9 by decide)]
    by_cases c1 : a = 0
    · rw [if_pos ((eqz a (by omega)).mpr c1)]
      by_cases c2 : n ≤ 9
      · rw [if_neg (show ¬ (10 : Int32) ≤ nI n from nI_ge (show n < 10 by omega) (by decide)), a34, gl_11, cl_11, i1]
        by_cases c3 : t 11 = nI n
        · rw [if_pos c3, if_pos (show a = 0 ∧ n ≤ 9 ∧ t 11 = nI n from ⟨c1, c2, c3⟩)]
        · rw [if_neg c3, if_neg (show ¬ (a = 0 ∧ n ≤ 9 ∧ t 11 = nI n) from fun q => c3 q.2.2)]
      · rw [if_pos (show (10 : Int32) ≤ nI n from nI_le (show 10 ≤ n by omega) (by omega)), if_neg (show ¬ (a = 0 ∧ n ≤ 9 ∧ t 11 = nI n) from fun q => c2 q.2.1)]
    · rw [if_neg (show ¬ nI a = 0 from fun q => c1 ((eqz a (by omega)).mp q)), if_neg (show ¬ (a = 0 ∧ n ≤ 9 ∧ t 11 = nI n) from fun q => c1 q.1)]
end CMD
