/-! settings in range; a script's commands and runs (taken over from whole) -/
theorem set_in (v : Int32) (C : Mem) : ∀ k : Nat, k < 6 → F_X8_isSetting (nI k) v C = some ((if kLeast k ≤ v ∧ v ≤ kMost k then 1 else 0), C) ∧ True := fun k hk => by
  have cls : F_X8_isSetting (nI k) v C = some ((if kLeast k ≤ v ∧ v ≤ kMost k then 1 else 0), C) := by
    unfold F_X8_isSetting
    rw [if_neg (nI_pos (by omega)), if_neg (show ¬ (6 : Int32) ≤ nI k from nI_ge hk (by decide)), gi_n hk (by decide), gi_n hk (by decide), nI_clamp (by omega)]
    by_cases h1 : v < kLeast k
    · rw [if_pos h1, if_neg (fun q => (fa_of_lt h1).2.1 q.1)]
    · rw [if_neg h1]
      by_cases h2 : kMost k < v
      · rw [if_pos h2, if_neg (fun q => (fa_of_lt h2).2.1 q.2)]
      · rw [if_neg h2, if_pos ⟨fa_of_nlt h1, fa_of_nlt h2⟩]
  exact ⟨cls, trivial⟩
theorem set_out (v : Int32) (C : Mem) {x : Int32} (h : ¬ (0 ≤ x ∧ x ≤ 5)) : F_X8_isSetting x v C = some (0, C) ∧ True := by
  have e0 : (0 : Int32).toInt = 0 := rfl
  have e5 : (5 : Int32).toInt = 5 := rfl
  have e6 : (6 : Int32).toInt = 6 := rfl
  have ne : ∀ k : Nat, k < 6 → x ≠ nI k := fun k hk e => h (by subst e; exact ⟨nI_pos' (by omega), nI_le (show k ≤ 5 by omega) (by decide)⟩)
  refine ⟨?_, ?_⟩
  · unfold F_X8_isSetting
    by_cases h1 : x < 0
    · rw [if_pos h1]
    · rw [if_neg h1, if_pos (by
        rw [fa_le, e6]
        rw [fa_lt, e0] at h1
        rw [fa_le, fa_le, e0, e5] at h
        omega)]
  · trivial
section CMD
variable {C : Mem} {K N Y : Nat}
theorem c_cmd {t : Pg} (n1 : 1 ≤ N) (h5 : N ≤ 5) (h1 : 1 ≤ Y) (h8 : Y ≤ 8) (hK : K < 800000) (hT : Tr N Y K t) {κ a n : Nat} (hκ : κ < 10) (ha : a < 10) (hn : n < 1000) : match cmdf N Y κ a n t with
    | none => F_X8_isAllowed (nI κ) (nI a) (nI n) (sr C 1 t) = some (0, sr C 1 t)
    | some t' => F_X8_isAllowed (nI κ) (nI a) (nI n) (sr C 1 t) = some (1, sr C 1 t) ∧ ∃ w, F_X8_carryOut (nI κ) (nI a) (nI n) (sr C 1 t) = some (w, sr C 1 t') := by
  have i1 : (sr C 1 t) 1 = t := sr_same C 1 t
  have eqz : ∀ m : Nat, m < 1000 → (nI m = 0 ↔ m = 0) := fun m hm => nI_eq (b := 0) (by omega) (by decide)
  unfold cmdf F_X8_isAllowed F_X8_carryOut
  rcases (show κ = 0 ∨ κ = 1 ∨ κ = 2 ∨ κ = 3 ∨ κ = 4 ∨ κ = 5 ∨ κ = 6 ∨ κ = 7 ∨ κ = 8 ∨ κ = 9 by omega) with rfl | rfl | rfl | rfl | rfl | rfl | rfl | rfl | rfl | rfl
  · repeat (first | rw [if_pos (by decide)] | rw [if_neg (by decide)])
  · rw [if_pos (show (1 : Nat) = 1 from rfl), if_pos (show nI 1 = 1 by decide), if_pos (show nI 1 = 1 by decide)]
    by_cases c1 : a ≤ 5
    · rw [if_neg (show ¬ (5 : Int32) < nI a from nI_nlt c1 (by decide))]
      by_cases c2 : 1 ≤ n
      · rw [if_neg (show ¬ nI n < (1 : Int32) from nI_nlt c2 (by omega))]
        by_cases c3 : n ≤ 96
        · rw [if_neg (show ¬ (96 : Int32) < nI n from nI_nlt c3 (by decide)), if_pos (show a ≤ 5 ∧ 1 ≤ n ∧ n ≤ 96 from ⟨c1, c2, c3⟩)]
          exact ⟨rfl, _, by rw [g_passTicks hT.1 hT.2.1 h5 h1 h8 1 (by omega) (by omega) (by omega) hT.2.2, b2_s]⟩
        · rw [if_pos (show (96 : Int32) < nI n from nI_lt (show 96 < n by omega) (by omega)), if_neg (show ¬ (a ≤ 5 ∧ 1 ≤ n ∧ n ≤ 96) from fun q => c3 q.2.2)]
      · rw [if_pos (show nI n < (1 : Int32) from nI_lt (show n < 1 by omega) (by decide)), if_neg (show ¬ (a ≤ 5 ∧ 1 ≤ n ∧ n ≤ 96) from fun q => c2 q.2.1)]
    · rw [if_pos (show (5 : Int32) < nI a from nI_lt (show 5 < a by omega) (by omega)), if_neg (show ¬ (a ≤ 5 ∧ 1 ≤ n ∧ n ≤ 96) from fun q => c1 q.1)]
  · rw [if_neg (show ¬ (2 : Nat) = 1 by decide), if_pos (show (2 : Nat) = 2 from rfl), if_neg (show ¬ nI 2 = 1 by decide), if_pos (show nI 2 = 2 by decide), if_neg (show ¬ nI 2 = 1 by decide), if_pos (show nI 2 = 2 by decide)]
    by_cases c1 : a = 0
    · rw [if_pos ((eqz a (by omega)).mpr c1)]
      by_cases c2 : 1 ≤ n
      · rw [if_neg (show ¬ nI n < (1 : Int32) from nI_nlt c2 (by omega))]
        by_cases c3 : n ≤ 20
        · rw [if_neg (show ¬ (20 : Int32) < nI n from nI_nlt c3 (by decide)), if_pos (show a = 0 ∧ 1 ≤ n ∧ n ≤ 20 from ⟨c1, c2, c3⟩)]
          exact ⟨rfl, _, by rw [g_deliver hT.2.1 h1 h8 1 (by omega), b2_s]⟩
        · rw [if_pos (show (20 : Int32) < nI n from nI_lt (show 20 < n by omega) (by omega)), if_neg (show ¬ (a = 0 ∧ 1 ≤ n ∧ n ≤ 20) from fun q => c3 q.2.2)]
      · rw [if_pos (show nI n < (1 : Int32) from nI_lt (show n < 1 by omega) (by decide)), if_neg (show ¬ (a = 0 ∧ 1 ≤ n ∧ n ≤ 20) from fun q => c2 q.2.1)]
    · rw [if_neg (show ¬ nI a = 0 from fun q => c1 ((eqz a (by omega)).mp q)), if_neg (show ¬ (a = 0 ∧ 1 ≤ n ∧ n ≤ 20) from fun q => c1 q.1)]
  · rw [if_neg (show ¬ (3 : Nat) = 1 by decide), if_neg (show ¬ (3 : Nat) = 2 by decide), if_pos (show (3 : Nat) = 3 from rfl), if_neg (show ¬ nI 3 = 1 by decide), if_neg (show ¬ nI 3 = 2 by decide), if_pos (show nI 3 = 3 by decide), if_neg (show ¬ nI 3 = 1 by decide), if_neg (show ¬ nI 3 = 2 by decide), if_pos (show nI 3 = 3 by decide)]
    by_cases c1 : a < 6
    · rw [(set_in (nI n) _ a c1).1, b2_s]
      by_cases c2 : kLeast a ≤ nI n ∧ nI n ≤ kMost a
      · rw [if_pos c2, if_pos (show a < 6 ∧ kLeast a ≤ nI n ∧ nI n ≤ kMost a from ⟨c1, c2⟩), gb_p (Or.inr rfl)]
        exact ⟨rfl, _, by rw [gi_n c1 (by decide), nI_clamp (by omega), nm_s, mu_sr]⟩
      · rw [if_neg c2, if_neg (show ¬ (a < 6 ∧ kLeast a ≤ nI n ∧ nI n ≤ kMost a) from fun q => c2 q.2), gb_p (Or.inl rfl)]
    · rw [(set_out (nI n) _ (fun q => c1 (by have := (nI_leI (a := a) (b := 5) (by omega) (by decide)).mp q.2; omega))).1, b2_s, if_neg (show ¬ (a < 6 ∧ kLeast a ≤ nI n ∧ nI n ≤ kMost a) from fun q => c1 q.1), gb_p (Or.inl rfl)]
  · rw [if_neg (show ¬ (4 : Nat) = 1 by decide), if_neg (show ¬ (4 : Nat) = 2 by decide), if_neg (show ¬ (4 : Nat) = 3 by decide), if_pos (show (4 : Nat) = 4 from rfl), if_neg (show ¬ nI 4 = 1 by decide), if_neg (show ¬ nI 4 = 2 by decide), if_neg (show ¬ nI 4 = 3 by decide), if_pos (show nI 4 = 4 by decide), if_neg (show ¬ nI 4 = 1 by decide), if_neg (show ¬ nI 4 = 2 by decide), if_neg (show ¬ nI 4 = 3 by decide), if_pos (show nI 4 = 4 by decide)]
    by_cases c1 : a < 2
    · rw [if_neg (show ¬ (2 : Int32) ≤ nI a from nI_ge c1 (by decide))]
      by_cases c2 : n ≤ 1
      · rw [if_neg (show ¬ (1 : Int32) < nI n from nI_nlt c2 (by decide)), if_pos (show a < 2 ∧ n ≤ 1 from ⟨c1, c2⟩)]
        refine ⟨rfl, 0, ?_⟩
        rcases (show n = 0 ∨ n = 1 by omega) with q | q
        · subst q
          have gm : F_X5_moveFlue 1 (nI a) 0 (sr C 1 t) = some ((mv N a false t).1, sr C 1 (mv N a false t).2) := g_moveFlue hT.1 h5 1 c1 false
          rw [if_neg (show ¬ nI 0 = 1 by decide), gm]
          rfl
        · subst q
          have gm : F_X5_moveFlue 1 (nI a) 1 (sr C 1 t) = some ((mv N a true t).1, sr C 1 (mv N a true t).2) := g_moveFlue hT.1 h5 1 c1 true
          rw [if_pos (show nI 1 = 1 by decide), gm]
          rfl
      · rw [if_pos (show (1 : Int32) < nI n from nI_lt (show 1 < n by omega) (by omega)), if_neg (show ¬ (a < 2 ∧ n ≤ 1) from fun q => c2 q.2)]
    · rw [if_pos (show (2 : Int32) ≤ nI a from nI_le (show 2 ≤ a by omega) (by omega)), if_neg (show ¬ (a < 2 ∧ n ≤ 1) from fun q => c1 q.1)]
  · rw [if_neg (show ¬ (5 : Nat) = 1 by decide), if_neg (show ¬ (5 : Nat) = 2 by decide), if_neg (show ¬ (5 : Nat) = 3 by decide), if_neg (show ¬ (5 : Nat) = 4 by decide), if_pos (show (5 : Nat) = 5 from rfl), if_neg (show ¬ nI 5 = 1 by decide), if_neg (show ¬ nI 5 = 2 by decide), if_neg (show ¬ nI 5 = 3 by decide), if_neg (show ¬ nI 5 = 4 by decide), if_pos (show nI 5 = 5 by decide), if_neg (show ¬ nI 5 = 1 by decide), if_neg (show ¬ nI 5 = 2 by decide), if_neg (show ¬ nI 5 = 3 by decide), if_neg (show ¬ nI 5 = 4 by decide), if_pos (show nI 5 = 5 by decide)]
    by_cases c1 : n = 0
    · rw [if_pos ((eqz n hn).mpr c1), has_n 1 hT.1 n1 h5 ha, b2_s]
      by_cases c2 : a < N
      · rw [if_pos c2, if_neg (show ¬ (1 : Int32) = 0 by decide), gi_n (by omega) (by decide), nI_clamp (by omega), i1]
        by_cases c3 : t (30 + 7 * a + 2) = 4
        · rw [if_pos c3, if_neg (show ¬ (n = 0 ∧ a < N ∧ t (30 + 7 * a + 2) ≠ 4) from fun q => q.2.2 c3)]
        · rw [if_neg c3, if_pos (show n = 0 ∧ a < N ∧ t (30 + 7 * a + 2) ≠ 4 from ⟨c1, c2, c3⟩)]
          exact ⟨rfl, _, by rw [gi_n (by omega) (by decide), g_leave, b2_s]⟩
      · rw [if_neg c2, if_pos (show (0 : Int32) = 0 from rfl), if_neg (show ¬ (n = 0 ∧ a < N ∧ t (30 + 7 * a + 2) ≠ 4) from fun q => c2 q.2.1)]
    · rw [if_neg (show ¬ nI n = 0 from fun q => c1 ((eqz n hn).mp q)), if_neg (show ¬ (n = 0 ∧ a < N ∧ t (30 + 7 * a + 2) ≠ 4) from fun q => c1 q.1)]
  · rw [if_neg (show ¬ (6 : Nat) = 1 by decide), if_neg (show ¬ (6 : Nat) = 2 by decide), if_neg (show ¬ (6 : Nat) = 3 by decide), if_neg (show ¬ (6 : Nat) = 4 by decide), if_neg (show ¬ (6 : Nat) = 5 by decide), if_pos (show (6 : Nat) = 6 from rfl), if_neg (show ¬ nI 6 = 1 by decide), if_neg (show ¬ nI 6 = 2 by decide), if_neg (show ¬ nI 6 = 3 by decide), if_neg (show ¬ nI 6 = 4 by decide), if_neg (show ¬ nI 6 = 5 by decide), if_pos (show nI 6 = 6 by decide), if_neg (show ¬ nI 6 = 1 by decide), if_neg (show ¬ nI 6 = 2 by decide), if_neg (show ¬ nI 6 = 3 by decide), if_neg (show ¬ nI 6 = 4 by decide), if_neg (show ¬ nI 6 = 5 by decide), if_pos (show nI 6 = 6 by decide)]
    by_cases c1 : n = 0
    · rw [if_pos ((eqz n hn).mpr c1), has_n 1 hT.1 n1 h5 ha, b2_s]
      by_cases c2 : a < N
      · rw [if_pos c2, if_neg (show ¬ (1 : Int32) = 0 by decide), gi_n (by omega) (by decide), nI_clamp (by omega), i1]
        by_cases c3 : t (30 + 7 * a + 2) = 4
        · rw [if_pos c3, if_pos (show n = 0 ∧ a < N ∧ t (30 + 7 * a + 2) = 4 from ⟨c1, c2, c3⟩)]
          exact ⟨rfl, _, by rw [gi_n (by omega) (by decide), g_leave, b2_s]⟩
        · rw [if_neg c3, if_neg (show ¬ (n = 0 ∧ a < N ∧ t (30 + 7 * a + 2) = 4) from fun q => c3 q.2.2)]
      · rw [if_neg c2, if_pos (show (0 : Int32) = 0 from rfl), if_neg (show ¬ (n = 0 ∧ a < N ∧ t (30 + 7 * a + 2) = 4) from fun q => c2 q.2.1)]
    · rw [if_neg (show ¬ nI n = 0 from fun q => c1 ((eqz n hn).mp q)), if_neg (show ¬ (n = 0 ∧ a < N ∧ t (30 + 7 * a + 2) = 4) from fun q => c1 q.1)]
  · rw [if_neg (show ¬ (7 : Nat) = 1 by decide), if_neg (show ¬ (7 : Nat) = 2 by decide), if_neg (show ¬ (7 : Nat) = 3 by decide), if_neg (show ¬ (7 : Nat) = 4 by decide), if_neg (show ¬ (7 : Nat) = 5 by decide), if_neg (show ¬ (7 : Nat) = 6 by decide), if_pos (show (7 : Nat) = 7 from rfl), if_neg (show ¬ nI 7 = 1 by decide), if_neg (show ¬ nI 7 = 2 by decide), if_neg (show ¬ nI 7 = 3 by decide), if_neg (show ¬ nI 7 = 4 by decide), if_neg (show ¬ nI 7 = 5 by decide), if_neg (show ¬ nI 7 = 6 by decide), if_pos (show nI 7 = 7 by decide), if_neg (show ¬ nI 7 = 1 by decide), if_neg (show ¬ nI 7 = 2 by decide), if_neg (show ¬ nI 7 = 3 by decide), if_neg (show ¬ nI 7 = 4 by decide), if_neg (show ¬ nI 7 = 5 by decide), if_neg (show ¬ nI 7 = 6 by decide)]
    by_cases c1 : a = 0
    · rw [if_pos ((eqz a (by omega)).mpr c1)]
      by_cases c2 : n ≤ 99
      · rw [if_neg (show ¬ (99 : Int32) < nI n from nI_nlt c2 (by decide)), f_mean (by rw [i1]; exact hT.2.1) h1 h8, b2_s, i1]
        by_cases c3 : avg Y t < nI n
        · rw [if_pos c3, if_neg (show ¬ (a = 0 ∧ n ≤ 99 ∧ ¬ avg Y t < nI n) from fun q => q.2.2 c3)]
        · rw [if_neg c3, if_pos (show a = 0 ∧ n ≤ 99 ∧ ¬ avg Y t < nI n from ⟨c1, c2, c3⟩)]
          exact ⟨rfl, _, rfl⟩
      · rw [if_pos (show (99 : Int32) < nI n from nI_lt (show 99 < n by omega) (by omega)), if_neg (show ¬ (a = 0 ∧ n ≤ 99 ∧ ¬ avg Y t < nI n) from fun q => c2 q.2.1)]
    · rw [if_neg (show ¬ nI a = 0 from fun q => c1 ((eqz a (by omega)).mp q)), if_neg (show ¬ (a = 0 ∧ n ≤ 99 ∧ ¬ avg Y t < nI n) from fun q => c1 q.1)]
  · rw [if_neg (show ¬ (8 : Nat) = 1 by decide), if_neg (show ¬ (8 : Nat) = 2 by decide), if_neg (show ¬ (8 : Nat) = 3 by decide), if_neg (show ¬ (8 : Nat) = 4 by decide), if_neg (show ¬ (8 : Nat) = 5 by decide), if_neg (show ¬ (8 : Nat) = 6 by decide), if_neg (show ¬ (8 : Nat) = 7 by decide), if_pos (show (8 : Nat) = 8 from rfl), if_neg (show ¬ nI 8 = 1 by decide), if_neg (show ¬ nI 8 = 2 by decide), if_neg (show ¬ nI 8 = 3 by decide), if_neg (show ¬ nI 8 = 4 by decide), if_neg (show ¬ nI 8 = 5 by decide), if_neg (show ¬ nI 8 = 6 by decide), if_neg (show ¬ nI 8 = 7 by decide), if_pos (show nI 8 = 8 by decide), if_neg (show ¬ nI 8 = 1 by decide), if_neg (show ¬ nI 8 = 2 by decide), if_neg (show ¬ nI 8 = 3 by decide), if_neg (show ¬ nI 8 = 4 by decide), if_neg (show ¬ nI 8 = 5 by decide), if_neg (show ¬ nI 8 = 6 by decide)]
    rw [has_n 1 hT.1 n1 h5 ha, b2_s]
    by_cases c2 : a < N
    · rw [if_pos c2, if_neg (show ¬ (1 : Int32) = 0 by decide), gi_n (by omega) (by decide), nI_clamp (by omega), i1]
      by_cases c3 : t (30 + 7 * a + 2) = nI n
      · rw [if_pos c3, if_pos (show a < N ∧ t (30 + 7 * a + 2) = nI n from ⟨c2, c3⟩)]
        exact ⟨rfl, _, rfl⟩
      · rw [if_neg c3, if_neg (show ¬ (a < N ∧ t (30 + 7 * a + 2) = nI n) from fun q => c3 q.2)]
    · rw [if_neg c2, if_pos (show (0 : Int32) = 0 from rfl), if_neg (show ¬ (a < N ∧ t (30 + 7 * a + 2) = nI n) from fun q => c2 q.1)]
  · rw [if_neg (show ¬ (9 : Nat) = 1 by decide), if_neg (show ¬ (9 : Nat) = 2 by decide), if_neg (show ¬ (9 : Nat) = 3 by decide), if_neg (show ¬ (9 : Nat) = 4 by decide), if_neg (show ¬ (9 : Nat) = 5 by decide), if_neg (show ¬ (9 : Nat) = 6 by decide), if_neg (show ¬ (9 : Nat) = 7 by decide), if_neg (show ¬ (9 : Nat) = 8 by decide), if_pos (show (9 : Nat) = 9 from rfl), if_neg (show ¬ nI 9 = 1 by decide), if_neg (show ¬ nI 9 = 2 by decide), if_neg (show ¬ nI 9 = 3 by decide), if_neg (show ¬ nI 9 = 4 by decide), if_neg (show ¬ nI 9 = 5 by decide), if_neg (show ¬ nI 9 = 6 by decide), if_neg (show ¬ nI 9 = 7 by decide), if_neg (show ¬ nI 9 = 8 by decide), if_pos (show nI 9 = 9 by decide), if_neg (show ¬ nI 9 = 1 by decide), if_neg (show ¬ nI 9 = 2 by decide), if_neg (show ¬ nI 9 = 3 by decide), if_neg (show ¬ nI 9 = 4 by decide), if_neg (show ¬ nI 9 = 5 by decide), if_neg (show ¬ nI 9 = 6 by decide)]
    by_cases c1 : a = 0
    · rw [if_pos ((eqz a (by omega)).mpr c1)]
      by_cases c2 : n ≤ 9
      · rw [if_neg (show ¬ (9 : Int32) < nI n from nI_nlt c2 (by decide)), i1]
        by_cases c3 : t 11 = nI n
        · rw [if_pos c3, if_pos (show a = 0 ∧ n ≤ 9 ∧ t 11 = nI n from ⟨c1, c2, c3⟩)]
          exact ⟨rfl, _, rfl⟩
        · rw [if_neg c3, if_neg (show ¬ (a = 0 ∧ n ≤ 9 ∧ t 11 = nI n) from fun q => c3 q.2.2)]
      · rw [if_pos (show (9 : Int32) < nI n from nI_lt (show 9 < n by omega) (by omega)), if_neg (show ¬ (a = 0 ∧ n ≤ 9 ∧ t 11 = nI n) from fun q => c2 q.2.1)]
    · rw [if_neg (show ¬ nI a = 0 from fun q => c1 ((eqz a (by omega)).mp q)), if_neg (show ¬ (a = 0 ∧ n ≤ 9 ∧ t 11 = nI n) from fun q => c1 q.1)]
theorem c_run (n1 : 1 ≤ N) (h5 : N ≤ 5) (h1 : 1 ≤ Y) (h8 : Y ≤ 8) (hK : K < 700000) {s n : Nat} (hs : s < 1000000000000000) (hn : n ≤ 3) : ∀ (k i : Nat) (t : Pg) (m : Nat), i + k = n → Tr N Y (K + 96 * i) t → ∃ o t', iter (fun w => S_X8_runScript_74 (nI n) (lN s) w.1 w.2.1 w.2.2) (k + 1 + m) (lN (pw k / 100000), nI i, sr C 1 t) = some o ∧ Sum.elim (u3 fun (_ : Int64) (_ : Int32) C28 => (some (Sum.inl (-9 : Int32), C28) : Option (Rs × Mem))) (fun y => some y) o = some (.inl (scf N Y s k i t), sr C 1 t')
  | 0, i, t, m, hi, hT => by
    refine ⟨.inl (lN (pw 0 / 100000), nI i, sr C 1 t), t, ?_, rfl⟩
    rw [show 0 + 1 + m = m + 1 by omega]
    refine iter_e _ ?_ _
    show S_X8_runScript_74 (nI n) (lN s) (lN (pw 0 / 100000)) (nI i) (sr C 1 t) = _
    unfold S_X8_runScript_74
    rw [if_pos (nI_le (show n ≤ i by omega) (by omega))]
  | k + 1, i, t, m, hi, hT => by
    have hp := pw_s (show k ≤ 2 by omega)
    have hg : s / pw k % 100000 < 100000 := Nat.mod_lt _ (by decide)
    have ng := num_g hg
    have hsd : s / pw k < 4611686018427387904 := Nat.lt_of_le_of_lt (Nat.div_le_self _ _) (by omega)
    have hs0 : S_X8_runScript_74 (nI n) (lN s) (lN (pw k)) (nI i) (sr C 1 t) = b2 (F_X8_isAllowed (nI (s / pw k % 100000 / 10000)) (nI (s / pw k % 100000 / 1000 % 10)) (nI (s / pw k % 100000 % 1000)) (sr C 1 t)) fun r36 C37 => if r36 = 0 then some (Sum.inr (Sum.inr (Sum.inl (nI i), C37))) else b2 (F_X8_carryOut (nI (s / pw k % 100000 / 10000)) (nI (s / pw k % 100000 / 1000 % 10)) (nI (s / pw k % 100000 % 1000)) C37) fun r40 C41 => some (Sum.inl (lN (pw k / 100000), nI (i + 1), C41)) := by
      unfold S_X8_runScript_74
      rw [if_neg (nI_ge (show i < n by omega) (by omega)), if_neg (fun q => by
        have q' := (lg_cmp_le _ _).mp q
        rw [fa_le64, L_int (by omega)] at q'
        have e0 : (0 : Int64).toInt = 0 := rfl
        omega), gzL_p (L_ne (by omega) hp.1), nm_s, nm_s, nm_s, nm_s, nI_1, L_div (by omega) hp.1 (by omega), show lN (s / pw k) - lN (s / pw k) / (100000 : Int64) * (100000 : Int64) = lN (s / pw k % 100000) from L_rem (b := 100000) hsd (by decide) (by decide), lN_i, ng.1, ng.2.1, ng.2.2]
      simp only [nm_s]
      rw [show lN (pw k) / (100000 : Int64) = lN (pw k / 100000) from L_div (b := 100000) (by omega) (by decide) (by decide)]
    rw [pw_d, show k + 1 + 1 + m = (k + 1 + m) + 1 by omega]
    have hc := c_cmd (C := C) n1 h5 h1 h8 (by omega) hT (κ := s / pw k % 100000 / 10000) (a := s / pw k % 100000 / 1000 % 10) (n := s / pw k % 100000 % 1000) (by omega) (by omega) (by omega)
    unfold scf
    cases he : cmdf N Y (s / pw k % 100000 / 10000) (s / pw k % 100000 / 1000 % 10) (s / pw k % 100000 % 1000) t with
    | none =>
      rw [he] at hc
      have hc' : F_X8_isAllowed _ _ _ (sr C 1 t) = some (0, sr C 1 t) := hc
      rw [hc', b2_s, if_pos rfl] at hs0
      exact ⟨_, t, iter_e _ hs0 _, rfl⟩
    | some t' =>
      rw [he] at hc
      obtain ⟨c1, w, c2⟩ := hc
      rw [c1, b2_s, if_neg (by decide), c2, b2_s] at hs0
      have hT' : Tr N Y (K + 96 * (i + 1)) t' := ⟨(cmd_hi h1 h8 h5 he (by decide)).trans hT.1, (cmd_hi h1 h8 h5 he (by decide)).trans hT.2.1, (hT.2.2.kcmd h1 h8 (by omega) he).mo (by omega)⟩
      obtain ⟨o, t2, e1, e2⟩ := c_run n1 h5 h1 h8 hK hs hn k (i + 1) t' m (by omega) hT'
      exact ⟨o, t2, by rw [iter_s _ hs0]; exact e1, e2⟩
end CMD
