/-! settings, scripts -/
theorem WF.kset {N Y K : Nat} {y : Pg} (h : WF N Y K y) {k : Nat} (hk : k < 6) {v : Int32} (hv : kLeast k ≤ v ∧ v ≤ kMost k) : WF N Y K (up y k v) := by
  by_cases e : k = 2
  · subst e
    obtain ⟨n, n1, n5, rfl⟩ := in_n (a := kLeast 2) (b := kMost 2) (m := 1) (n := 5) rfl rfl hv
    have := h.p2 (i := n - 1) (by omega)
    rw [show n - 1 + 1 = n by omega] at this
    exact this
  · exact h.u (by omega) (by omega) (by omega) e v
def cmdf (N Y κ a n : Nat) (t : Pg) : Option Pg :=
  if κ = 1 then (if a ≤ 5 ∧ 1 ≤ n ∧ n ≤ 96 then some (tkn N Y a n t) else none)
  else if κ = 2 then (if a = 0 ∧ 1 ≤ n ∧ n ≤ 20 then some (dl Y n t) else none)
  else if κ = 3 then (if a < 6 ∧ kLeast a ≤ nI n ∧ nI n ≤ kMost a then some (up t a (nI n)) else none)
  else if κ = 4 then (if a < 2 ∧ n ≤ 1 then some (mv N a (decide (n = 1)) t).2 else none)
  else if κ = 5 then (if n = 0 ∧ a < N ∧ t (30 + 7 * a + 2) ≠ 4 then some (lv t a 4) else none)
  else if κ = 6 then (if n = 0 ∧ a < N ∧ t (30 + 7 * a + 2) = 4 then some (lv t a 0) else none)
  else if κ = 7 then (if a = 0 ∧ n ≤ 99 ∧ ¬ avg Y t < nI n then some t else none)
  else if κ = 8 then (if a < N ∧ t (30 + 7 * a + 2) = nI n then some t else none)
  else if κ = 9 then (if a = 0 ∧ n ≤ 9 ∧ t 11 = nI n then some t else none)
  else none
section CMD
variable {C : Mem} {K N Y : Nat}
theorem cmdf_c {y z : Pg} (h1 : 1 ≤ Y) (h : Agree N Y y z) (κ a n : Nat) : (cmdf N Y κ a n y = none ∧ cmdf N Y κ a n z = none) ∨ ∃ y' z', cmdf N Y κ a n y = some y' ∧ cmdf N Y κ a n z = some z' ∧ Agree N Y y' z' := by
  have two : ∀ (c c' : Prop) (_ : Decidable c) (_ : Decidable c') (u w : Pg), (c ↔ c') → (c → Agree N Y u w) → ((if c then some u else none) = none ∧ (if c' then some w else none) = none) ∨ ∃ y' z', (if c then some u else none) = some y' ∧ (if c' then some w else none) = some z' ∧ Agree N Y y' z' := fun c c' _ _ u w e g => by
    by_cases q : c
    · rw [if_pos q, if_pos (e.mp q)]
      exact Or.inr ⟨u, w, rfl, rfl, g q⟩
    · rw [if_neg q, if_neg (fun r => q (e.mpr r))]
      exact Or.inl ⟨rfl, rfl⟩
  unfold cmdf
  by_cases k1 : κ = 1
  · rw [if_pos k1, if_pos k1]
    exact two _ _ _ _ _ _ Iff.rfl fun _ => h.k_tkn h1 a n
  rw [if_neg k1, if_neg k1]
  by_cases k2 : κ = 2
  · rw [if_pos k2, if_pos k2]
    exact two _ _ _ _ _ _ Iff.rfl fun _ => h.k_dl h1 n
  rw [if_neg k2, if_neg k2]
  by_cases k3 : κ = 3
  · rw [if_pos k3, if_pos k3]
    exact two _ _ _ _ _ _ Iff.rfl fun _ => h.put rfl
  rw [if_neg k3, if_neg k3]
  by_cases k4 : κ = 4
  · rw [if_pos k4, if_pos k4]
    exact two _ _ _ _ _ _ Iff.rfl fun _ => (mv_c h a _).2
  rw [if_neg k4, if_neg k4]
  by_cases k5 : κ = 5
  · rw [if_pos k5, if_pos k5]
    exact two _ _ _ _ _ _ ⟨fun q => ⟨q.1, q.2.1, by rw [← h.b2 q.2.1]; exact q.2.2⟩, fun q => ⟨q.1, q.2.1, by rw [h.b2 q.2.1]; exact q.2.2⟩⟩ fun _ => h.k_lv a 4
  rw [if_neg k5, if_neg k5]
  by_cases k6 : κ = 6
  · rw [if_pos k6, if_pos k6]
    exact two _ _ _ _ _ _ ⟨fun q => ⟨q.1, q.2.1, by rw [← h.b2 q.2.1]; exact q.2.2⟩, fun q => ⟨q.1, q.2.1, by rw [h.b2 q.2.1]; exact q.2.2⟩⟩ fun _ => h.k_lv a 0
  rw [if_neg k6, if_neg k6]
  by_cases k7 : κ = 7
  · rw [if_pos k7, if_pos k7, avg_c h]
    exact two _ _ _ _ _ _ Iff.rfl fun _ => h
  rw [if_neg k7, if_neg k7]
  by_cases k8 : κ = 8
  · rw [if_pos k8, if_pos k8]
    exact two _ _ _ _ _ _ ⟨fun q => ⟨q.1, by rw [← h.b2 q.1]; exact q.2⟩, fun q => ⟨q.1, by rw [h.b2 q.1]; exact q.2⟩⟩ fun _ => h
  rw [if_neg k8, if_neg k8]
  by_cases k9 : κ = 9
  · rw [if_pos k9, if_pos k9, h.1 11 (by decide)]
    exact two _ _ _ _ _ _ Iff.rfl fun _ => h
  rw [if_neg k9, if_neg k9]
  exact Or.inl ⟨rfl, rfl⟩
theorem Tr.set {y : Pg} (h : Tr N Y K y) {k : Nat} (hk : k < 6) {v : Int32} (hv : kLeast k ≤ v ∧ v ≤ kMost k) : Tr N Y K (up y k v) := ⟨(up_ne _ _ (by omega)).trans h.1, (up_ne _ _ (by omega)).trans h.2.1, h.2.2.kset hk hv⟩
theorem Tr.lv {y : Pg} (h8 : Y ≤ 8) (h5 : N ≤ 5) (h : Tr N Y K y) {i : Nat} (hi : i < N) {x : Int32} (hx : x = 0 ∨ x = 2 ∨ x = 3 ∨ x = 4) : Tr N Y K (lv y i x) := ⟨(lv_out x (by omega)).trans h.1, (lv_out x (by omega)).trans h.2.1, h.2.2.k_lv h8 hi hx⟩
theorem Tr.mo {L : Nat} {y : Pg} (h : Tr N Y K y) (hK : K ≤ L) : Tr N Y L y := ⟨h.1, h.2.1, h.2.2.mo hK⟩
theorem WF.kcmd {y y' : Pg} (h1 : 1 ≤ Y) (h8 : Y ≤ 8) (h : WF N Y K y) (hK : K < 900000) {κ a n : Nat} (e : cmdf N Y κ a n y = some y') : WF N Y (K + 96) y' := by
  have two : ∀ (c : Prop) (_ : Decidable c) (u : Pg), (if c then some u else none) = some y' → (c → WF N Y (K + 96) u) → WF N Y (K + 96) y' := fun c _ u e g => by
    by_cases q : c
    · rw [if_pos q] at e
      cases e
      exact g q
    · rw [if_neg q] at e
      cases e
  have h' := h.mo (show K ≤ K + 96 by omega)
  unfold cmdf at e
  by_cases k1 : κ = 1
  · rw [if_pos k1] at e
    exact two _ _ _ e fun q => (h.k_tkn h1 h8 a n (by omega)).mo (by omega)
  rw [if_neg k1] at e
  by_cases k2 : κ = 2
  · rw [if_pos k2] at e
    exact two _ _ _ e fun q => h'.k_dl h1 h8 n
  rw [if_neg k2] at e
  by_cases k3 : κ = 3
  · rw [if_pos k3] at e
    exact two _ _ _ e fun q => h'.kset q.1 q.2
  rw [if_neg k3] at e
  by_cases k4 : κ = 4
  · rw [if_pos k4] at e
    exact two _ _ _ e fun q => h'.k_mv h8 q.1 _
  rw [if_neg k4] at e
  by_cases k5 : κ = 5
  · rw [if_pos k5] at e
    exact two _ _ _ e fun q => h'.k_lv h8 q.2.1 (Or.inr (Or.inr (Or.inr rfl)))
  rw [if_neg k5] at e
  by_cases k6 : κ = 6
  · rw [if_pos k6] at e
    exact two _ _ _ e fun q => h'.k_lv h8 q.2.1 (Or.inl rfl)
  rw [if_neg k6] at e
  by_cases k7 : κ = 7
  · rw [if_pos k7] at e
    exact two _ _ _ e fun q => h'
  rw [if_neg k7] at e
  by_cases k8 : κ = 8
  · rw [if_pos k8] at e
    exact two _ _ _ e fun q => h'
  rw [if_neg k8] at e
  by_cases k9 : κ = 9
  · rw [if_pos k9] at e
    exact two _ _ _ e fun q => h'
  rw [if_neg k9] at e
  cases e
theorem cmd_hi {y y' : Pg} (h1 : 1 ≤ Y) (h8 : Y ≤ 8) (h5 : N ≤ 5) {κ a n : Nat} (e : cmdf N Y κ a n y = some y') {k : Nat} (hk : 65 ≤ k) : y' k = y k := by
  have two : ∀ (c : Prop) (_ : Decidable c) (u : Pg), (if c then some u else none) = some y' → (c → u k = y k) → y' k = y k := fun c _ u e g => by
    by_cases q : c
    · rw [if_pos q] at e
      cases e
      exact g q
    · rw [if_neg q] at e
      cases e
  unfold cmdf at e
  by_cases k1 : κ = 1
  · rw [if_pos k1] at e
    exact two _ _ _ e fun q => tkn_hi a n y h1 h8 h5 hk
  rw [if_neg k1] at e
  by_cases k2 : κ = 2
  · rw [if_pos k2] at e
    exact two _ _ _ e fun q => dl_hi Y n y h8 (by omega)
  rw [if_neg k2] at e
  by_cases k3 : κ = 3
  · rw [if_pos k3] at e
    exact two _ _ _ e fun q => up_ne _ _ (by omega)
  rw [if_neg k3] at e
  by_cases k4 : κ = 4
  · rw [if_pos k4] at e
    exact two _ _ _ e fun q => mv_hi a _ y q.1 h5 hk
  rw [if_neg k4] at e
  by_cases k5 : κ = 5
  · rw [if_pos k5] at e
    exact two _ _ _ e fun q => lv_out 4 (by omega)
  rw [if_neg k5] at e
  by_cases k6 : κ = 6
  · rw [if_pos k6] at e
    exact two _ _ _ e fun q => lv_out 0 (by omega)
  rw [if_neg k6] at e
  by_cases k7 : κ = 7
  · rw [if_pos k7] at e
    exact two _ _ _ e fun q => rfl
  rw [if_neg k7] at e
  by_cases k8 : κ = 8
  · rw [if_pos k8] at e
    exact two _ _ _ e fun q => rfl
  rw [if_neg k8] at e
  by_cases k9 : κ = 9
  · rw [if_pos k9] at e
    exact two _ _ _ e fun q => rfl
  rw [if_neg k9] at e
  cases e
theorem has_n {y : Pg} (q : Nat) (hN : y 65 = nI N) (n1 : 1 ≤ N) (h5 : N ≤ 5) {a : Nat} (ha : a < 10) : F_X5_hasBoiler q (nI a) (sr C q y) = some ((if a < N then 1 else 0), sr C q y) := by
  rw [has_q (by rw [sr_same]; exact hN) n1 h5]
  by_cases c : a < N
  · rw [if_pos c, if_pos ⟨nI_pos' (by omega), nI_le (by omega) (by omega)⟩]
  · rw [if_neg c, if_neg (fun z => c (by have := (nI_leI (by omega) (by omega)).mp z.2; omega))]
end CMD

