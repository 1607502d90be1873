/-! the cells by their kinds -/
section CA
variable {G : GG} {C : Mem} {q i f k : Nat}
theorem ca_casc : cellAt G C 0 = .inr (8, [.ref (bb G + 1), .ref (bb G + po 0), .ref (bb G + po 1), .ref (bb G + 32), .ref (bb G + (216 + 14 * 0)), .ref (bb G + (216 + 14 * 1))]) := rfl
theorem ca_plan : cellAt G C 1 = .inr (4, [.ref (bb G + 2), .int (C 18 1), .int (C 18 2), .int (C 18 3), .int (C 18 4), .int (C 18 5), .ref (bb G + 3), .ref (bb G + 4), .ref (bb G + 5), .int (C 18 9), .int (C 18 10)]) := rfl
theorem ca_signs : cellAt G C 2 = .inl (G.2.1 0, 60, .inl (tr 60 (C 19))) := rfl
theorem ca_powers : cellAt G C 3 = .inl (G.2.1 0, 5, .inl (tr 5 (C 20))) := rfl
theorem ca_flues : cellAt G C 4 = .inl (G.2.1 0, 5, .inl (tr 5 (C 21))) := rfl
theorem ca_ptemps : cellAt G C 5 = .inl (G.2.1 0, 8, .inl (tr 8 (C 22))) := rfl
theorem ca_hist : cellAt G C 32 = .inr (2, [.ref (bb G + 33), .int (C 23 1), .int (C 23 2)]) := rfl
theorem ca_states : cellAt G C 33 = .inl (G.2.1 3, 14, .inr (.inr (.inr (.inr (fun j => some (bb G + (34 + 13 * j))))))) := rfl
theorem po_hist {j : Nat} (h : j < 14) : po (2 + j) = 34 + 13 * j := by
  unfold po
  rw [if_neg (by omega), if_neg (by omega), if_pos (by omega), show 2 + j - 2 = j by omega]
theorem ca_slot (h : k < 2) : cellAt G C (216 + 14 * k) = .inr (6, [.ref (bb G + po (16 + k)), .int (C 24 k)]) := by
  match k, h with
  | 0, _ => rfl
  | 1, _ => rfl
theorem ca_plant (h : q < 18) : cellAt G C (po q) = .inr (5, [.ref (bb G + (po q + 1)), .int (C q 65), .ref (bb G + (po q + (2 + 0))), .ref (bb G + (po q + (2 + 1))), .ref (bb G + (po q + 4)), .ref (bb G + (po q + 5)), .ref (bb G + (po q + 7)), .int (C q 6), .int (C q 7)]) := cell_plant G C (j := 0) h (by decide)
theorem ca_barr (h : q < 18) : cellAt G C (po q + 1) = .inl (G.2.1 2, 5, .inr (.inr (.inr (.inr (fun j => some (bb G + (po q + (8 + j)))))))) := by
  rw [cell_plant G C (j := 1) h (by decide)]
  simp only [plantC, Nat.add_assoc]
theorem ca_flue (h : q < 18) (hf : f < 2) : cellAt G C (po q + (2 + f)) = .inr (1, [.int (C q (18 + f)), .int (C q (20 + f))]) := by
  rw [cell_plant G C (j := 2 + f) h (by omega)]
  match f, hf with
  | 0, _ => rfl
  | 1, _ => rfl
theorem ca_sett (h : q < 18) : cellAt G C (po q + 4) = .inl (G.2.1 0, 6, .inl (tr 6 (C q))) := cell_plant G C (j := 4) h (by decide)
theorem ca_tank (h : q < 18) : cellAt G C (po q + 5) = .inr (7, [.ref (bb G + (po q + 6)), .int (C q 66), .int (C q 13), .int (C q 14), .int (C q 15), .int (C q 16), .int (C q 17)]) := cell_plant G C (j := 5) h (by decide)
theorem ca_temps (h : q < 18) : cellAt G C (po q + 6) = .inl (G.2.1 0, 8, .inl (tr 8 (fun j => C q (22 + j)))) := cell_plant G C (j := 6) h (by decide)
theorem ca_kill (h : q < 18) : cellAt G C (po q + 7) = .inr (3, [.int (C q 8), .int (C q 9), .int (C q 10), .int (C q 11), .int (C q 12)]) := cell_plant G C (j := 7) h (by decide)
theorem ca_boiler (h : q < 18) (hi : i < 5) : cellAt G C (po q + (8 + i)) = .inr (0, [.int (C q (30 + 7 * i)), .int (C q (30 + 7 * i + 1)), .int (C q (30 + 7 * i + 2)), .int (C q (30 + 7 * i + 3)), .int (C q (30 + 7 * i + 4)), .int (C q (30 + 7 * i + 5)), .int (C q (30 + 7 * i + 6))]) := by
  rw [cell_plant G C (j := 8 + i) h (by omega), Nat.add_comm 8 i]
  rfl
theorem ca_model : cellAt G C 244 = .inr (9, [.int (C 30 0), .ref (bb G + (31 + 214)), .int (C 30 2), .int (C 30 3), .int (C 30 4), .int (C 30 5), .int (C 30 6), .int (C 30 7), .ref (bb G + (32 + 214)), .ref (bb G + (33 + 214)), .ref (bb G + (34 + 214)), .ref (bb G + (35 + 214)), .int (C 30 12), .ref (bb G + (36 + 214)), .ref (bb G + (37 + 214))]) := rfl
theorem ca_marr {r : Nat} (h : 31 ≤ r ∧ r ≤ 36) : cellAt G C (r + 214) = .inl (G.2.1 0, alen r, .inl (tr (alen r) (C r))) := by
  unfold cellAt
  rw [if_neg (by omega), if_neg (by omega), if_neg (by omega), if_neg (by omega), if_neg (by omega), if_neg (by omega), if_neg (by omega), if_neg (by omega), if_neg (by omega)]
  unfold fixM
  rw [if_neg (by omega), if_pos (by omega), show r + 214 - 214 = r by omega]
theorem ca_kept : cellAt G C (37 + 214) = .inl (G.2.1 1, 2, .inl (tr 2 (C 37))) := rfl
theorem ca_out : cellAt G C 252 = .inl (G.2.1 4, 1, .inr (.inl (fun j => (tr 1 (C 40) j).toInt64))) := rfl
theorem hm_boiler (hi : i < 5) (hf : f < 7) : hm (30 + 7 * i + f) = 8 + i := by
  unfold hm
  rw [if_neg (by omega), if_neg (by omega), if_neg (by omega), if_neg (by omega), if_neg (by omega), if_neg (by omega), if_neg (by omega), if_pos (by omega)]
  omega
theorem hm_temps (hi : i < 8) : hm (22 + i) = 6 := by
  unfold hm
  rw [if_neg (by omega), if_neg (by omega), if_neg (by omega), if_neg (by omega), if_neg (by omega), if_neg (by omega), if_pos (by omega)]
theorem hm_sett (hi : i < 6) : hm i = 4 := by
  unfold hm
  rw [if_pos hi]
theorem hm_flue (hf : f < 2) : hm (18 + f) = 2 + f ∧ hm (20 + f) = 2 + f := by
  match f, hf with
  | 0, _ => exact ⟨rfl, rfl⟩
  | 1, _ => exact ⟨rfl, rfl⟩
end CA
section AR
variable {p : Program} {l : Launch} {e : Env} {R : Room} {s : State} {m : MethodId} {args : Array Value} {below : List Frame} {meth : Method} {c : Code} {H : Heap} {locs : List Loc} {cells slots : Nat} {Q : State → Prop}
variable {cc : ByteArray} {pc : Nat} {ls : Array Slot} {rest st0 As : List Value} {own : String} {nL : Nat} {G : GG} {n : Nat} {C C1 : Mem} {q : Nat} {i x : Int32}
/-! rows of numbers, read and written -/
theorem lv_nmi {x y : Int32} (h : y = x) (k : W p l e R s m args below meth c H locs cells slots Q (F0 m pc ls (.int y :: rest))) : W p l e R s m args below meth c H locs cells slots Q (F0 m pc ls (.int x :: rest)) := h ▸ k
theorem lv_nml {x y : Int64} (h : y = x) (k : W p l e R s m args below meth c H locs cells slots Q (F0 m pc ls (.long y :: rest))) : W p l e R s m args below meth c H locs cells slots Q (F0 m pc ls (.long x :: rest)) := h ▸ k
theorem ld_at {a N : Nat} {g : Nat → Int32} (hC : Cx p s m args c cc own nL G) (hw : Wd G n C H) (ha : a < n) (he : cellAt G C a = .inl (G.2.1 0, N, .inl (tr N g))) (hin : vp_in i N) (hdg : decode cc pc = .ok (.iaload, 1)) (kk : W p l e R s m args below meth c H locs cells slots Q (F0 m (pc + 1) ls (.int (g i.toNatClampNeg) :: rest))) : W p l e R s m args below meth c H locs cells slots Q (F0 m pc ls (.int i :: .ref (bb G + a) :: rest)) :=
  m_iald hC hw ha he hin hdg (by rw [tr_lt g (vp_lt hin)]; exact kk)
theorem ld_signs (hC : Cx p s m args c cc own nL G) (hw : Wd G n C H) (hn : 244 ≤ n) (hin : vp_in i 60) (hdg : decode cc pc = .ok (.iaload, 1)) (kk : W p l e R s m args below meth c H locs cells slots Q (F0 m (pc + 1) ls (.int (C 19 i.toNatClampNeg) :: rest))) : W p l e R s m args below meth c H locs cells slots Q (F0 m pc ls (.int i :: .ref (bb G + 2) :: rest)) := ld_at hC hw (by omega) ca_signs hin hdg kk
theorem ld_powers (hC : Cx p s m args c cc own nL G) (hw : Wd G n C H) (hn : 244 ≤ n) (hin : vp_in i 5) (hdg : decode cc pc = .ok (.iaload, 1)) (kk : W p l e R s m args below meth c H locs cells slots Q (F0 m (pc + 1) ls (.int (C 20 i.toNatClampNeg) :: rest))) : W p l e R s m args below meth c H locs cells slots Q (F0 m pc ls (.int i :: .ref (bb G + 3) :: rest)) := ld_at hC hw (by omega) ca_powers hin hdg kk
theorem ld_flues (hC : Cx p s m args c cc own nL G) (hw : Wd G n C H) (hn : 244 ≤ n) (hin : vp_in i 5) (hdg : decode cc pc = .ok (.iaload, 1)) (kk : W p l e R s m args below meth c H locs cells slots Q (F0 m (pc + 1) ls (.int (C 21 i.toNatClampNeg) :: rest))) : W p l e R s m args below meth c H locs cells slots Q (F0 m pc ls (.int i :: .ref (bb G + 4) :: rest)) := ld_at hC hw (by omega) ca_flues hin hdg kk
theorem ld_ptemps (hC : Cx p s m args c cc own nL G) (hw : Wd G n C H) (hn : 244 ≤ n) (hin : vp_in i 8) (hdg : decode cc pc = .ok (.iaload, 1)) (kk : W p l e R s m args below meth c H locs cells slots Q (F0 m (pc + 1) ls (.int (C 22 i.toNatClampNeg) :: rest))) : W p l e R s m args below meth c H locs cells slots Q (F0 m pc ls (.int i :: .ref (bb G + 5) :: rest)) := ld_at hC hw (by omega) ca_ptemps hin hdg kk
theorem ld_sett (hC : Cx p s m args c cc own nL G) (hw : Wd G n C H) (hn : 244 ≤ n) (hq : q < 18) (hin : vp_in i 6) (hdg : decode cc pc = .ok (.iaload, 1)) (kk : W p l e R s m args below meth c H locs cells slots Q (F0 m (pc + 1) ls (.int (C q i.toNatClampNeg) :: rest))) : W p l e R s m args below meth c H locs cells slots Q (F0 m pc ls (.int i :: .ref (bb G + (po q + 4)) :: rest)) := ld_at hC hw (by have := po_lt hq; omega) (ca_sett hq) hin hdg kk
theorem ld_temps (hC : Cx p s m args c cc own nL G) (hw : Wd G n C H) (hn : 244 ≤ n) (hq : q < 18) (hin : vp_in i 8) (hdg : decode cc pc = .ok (.iaload, 1)) (kk : W p l e R s m args below meth c H locs cells slots Q (F0 m (pc + 1) ls (.int (C q (22 + i.toNatClampNeg)) :: rest))) : W p l e R s m args below meth c H locs cells slots Q (F0 m pc ls (.int i :: .ref (bb G + (po q + 6)) :: rest)) := ld_at hC hw (by have := po_lt hq; omega) (ca_temps hq) hin hdg kk
theorem ld_marr {r : Nat} (hC : Cx p s m args c cc own nL G) (hw : Wd G n C H) (hn : 252 ≤ n) (hr : 31 ≤ r ∧ r ≤ 36) (hin : vp_in i (alen r)) (hdg : decode cc pc = .ok (.iaload, 1)) (kk : W p l e R s m args below meth c H locs cells slots Q (F0 m (pc + 1) ls (.int (C r i.toNatClampNeg) :: rest))) : W p l e R s m args below meth c H locs cells slots Q (F0 m pc ls (.int i :: .ref (bb G + (r + 214)) :: rest)) := ld_at hC hw (by omega) (ca_marr hr) hin hdg kk
theorem ld_kept (hC : Cx p s m args c cc own nL G) (hw : Wd G n C H) (hn : 252 ≤ n) (hin : vp_in i 2) (hdg : decode cc pc = .ok (.baload, 1)) (kk : W p l e R s m args below meth c H locs cells slots Q (F0 m (pc + 1) ls (.int (C 37 i.toNatClampNeg) :: rest))) : W p l e R s m args below meth c H locs cells slots Q (F0 m pc ls (.int i :: .ref (bb G + (37 + 214)) :: rest)) :=
  m_zald hC hw (by omega) ca_kept hin hdg (by rw [tr_lt _ (vp_lt hin)]; exact kk)
theorem ld_barr (hC : Cx p s m args c cc own nL G) (hw : Wd G n C H) (hn : 244 ≤ n) (hq : q < 18) (hin : vp_in i 5) (hdg : decode cc pc = .ok (.aaload, 1)) (kk : W p l e R s m args below meth c H locs cells slots Q (F0 m (pc + 1) ls (.ref (bb G + (po q + (8 + i.toNatClampNeg))) :: rest))) : W p l e R s m args below meth c H locs cells slots Q (F0 m pc ls (.int i :: .ref (bb G + (po q + 1)) :: rest)) :=
  m_aald hC hw (by have := po_lt hq; omega) (f := fun j => bb G + (po q + (8 + j))) (ca_barr hq) (t0 := 2) rfl hin hdg kk
theorem ld_states (hC : Cx p s m args c cc own nL G) (hw : Wd G n C H) (hn : 244 ≤ n) (hin : vp_in i 14) (hdg : decode cc pc = .ok (.aaload, 1)) (kk : W p l e R s m args below meth c H locs cells slots Q (F0 m (pc + 1) ls (.ref (bb G + po (2 + i.toNatClampNeg)) :: rest))) : W p l e R s m args below meth c H locs cells slots Q (F0 m pc ls (.int i :: .ref (bb G + 33) :: rest)) :=
  m_aald hC hw (by omega) (f := fun j => bb G + (34 + 13 * j)) ca_states (t0 := 3) rfl hin hdg (by rw [← po_hist (vp_lt hin)]; exact kk)
theorem ld_out (hC : Cx p s m args c cc own nL G) (hw : Wd G n C H) (hn : 253 ≤ n) (hdg : decode cc pc = .ok (.laload, 1)) (kk : W p l e R s m args below meth c H locs cells slots Q (F0 m (pc + 1) ls (.long ((C 40 0).toInt64) :: rest))) : W p l e R s m args below meth c H locs cells slots Q (F0 m pc ls (.int 0 :: .ref (bb G + 252) :: rest)) :=
  m_lald hC hw (by omega) ca_out (i := 0) (by unfold vp_in; decide) hdg kk
theorem st_at {a N r k : Nat} {g : Nat → Int32} (hC : Cx p s m args c cc own nL G) (hw : Wd G n C H) (hS : LW G s H locs) (ha : a < n) (he : cellAt G C a = .inl (G.2.1 0, N, .inl (tr N g))) (hin : vp_in i N) (hs : cellAt G (mu C r k x) a = .inl (G.2.1 0, N, .inl (tr N (up g i.toNatClampNeg x)))) (ho : ∀ q, q < n → q ≠ a → cellAt G (mu C r k x) q = cellAt G C q) (hdg : decode cc pc = .ok (.iastore, 1))
    (kk : ∀ (H1 : Heap) (locs1 : List Loc), Wd G n (mu C r k x) H1 → LW G s H1 locs1 → H1.size = H.size → W p l e R s m args below meth c H1 locs1 cells slots Q (F0 m (pc + 1) ls rest)) : W p l e R s m args below meth c H locs cells slots Q (F0 m pc ls (.int x :: .int i :: .ref (bb G + a) :: rest)) :=
  m_iast hC hw hS ha he hin (by rw [hs, tr_upd g x (vp_lt hin)]) ho hdg kk
theorem st_fix {a N r : Nat} (hC : Cx p s m args c cc own nL G) (hw : Wd G n C H) (hS : LW G s H locs) (ha : a < n) (hn2 : n ≤ 253) (hr : 18 ≤ r ∧ r ≠ 24) (hh : ∀ k, hmF r k = a) (he : ∀ C : Mem, cellAt G C a = .inl (G.2.1 0, N, .inl (tr N (C r)))) (hin : vp_in i N) (hdg : decode cc pc = .ok (.iastore, 1))
    (kk : ∀ (H1 : Heap) (locs1 : List Loc), Wd G n (mu C r i.toNatClampNeg x) H1 → LW G s H1 locs1 → H1.size = H.size → W p l e R s m args below meth c H1 locs1 cells slots Q (F0 m (pc + 1) ls rest)) : W p l e R s m args below meth c H locs cells slots Q (F0 m pc ls (.int x :: .int i :: .ref (bb G + a) :: rest)) :=
  st_at hC hw hS ha (he C) hin (by rw [he, mu_same]) (fun q h1 h2 => cell_muF G C x hr.1 (fun e => absurd e hr.2) q (by omega) (by rw [hh]; exact h2)) hdg kk
theorem st_powers (hC : Cx p s m args c cc own nL G) (hw : Wd G n C H) (hS : LW G s H locs) (hn : 244 ≤ n) (hn2 : n ≤ 253) (hin : vp_in i 5) (hdg : decode cc pc = .ok (.iastore, 1)) (kk : ∀ (H1 : Heap) (locs1 : List Loc), Wd G n (mu C 20 i.toNatClampNeg x) H1 → LW G s H1 locs1 → H1.size = H.size → W p l e R s m args below meth c H1 locs1 cells slots Q (F0 m (pc + 1) ls rest)) : W p l e R s m args below meth c H locs cells slots Q (F0 m pc ls (.int x :: .int i :: .ref (bb G + 3) :: rest)) := st_fix hC hw hS (by omega) hn2 (by decide) (fun _ => rfl) (fun _ => ca_powers) hin hdg kk
theorem st_flues (hC : Cx p s m args c cc own nL G) (hw : Wd G n C H) (hS : LW G s H locs) (hn : 244 ≤ n) (hn2 : n ≤ 253) (hin : vp_in i 5) (hdg : decode cc pc = .ok (.iastore, 1)) (kk : ∀ (H1 : Heap) (locs1 : List Loc), Wd G n (mu C 21 i.toNatClampNeg x) H1 → LW G s H1 locs1 → H1.size = H.size → W p l e R s m args below meth c H1 locs1 cells slots Q (F0 m (pc + 1) ls rest)) : W p l e R s m args below meth c H locs cells slots Q (F0 m pc ls (.int x :: .int i :: .ref (bb G + 4) :: rest)) := st_fix hC hw hS (by omega) hn2 (by decide) (fun _ => rfl) (fun _ => ca_flues) hin hdg kk
theorem st_signs (hC : Cx p s m args c cc own nL G) (hw : Wd G n C H) (hS : LW G s H locs) (hn : 244 ≤ n) (hn2 : n ≤ 253) (hin : vp_in i 60) (hdg : decode cc pc = .ok (.iastore, 1)) (kk : ∀ (H1 : Heap) (locs1 : List Loc), Wd G n (mu C 19 i.toNatClampNeg x) H1 → LW G s H1 locs1 → H1.size = H.size → W p l e R s m args below meth c H1 locs1 cells slots Q (F0 m (pc + 1) ls rest)) : W p l e R s m args below meth c H locs cells slots Q (F0 m pc ls (.int x :: .int i :: .ref (bb G + 2) :: rest)) := st_fix hC hw hS (by omega) hn2 (by decide) (fun _ => rfl) (fun _ => ca_signs) hin hdg kk
theorem st_ptemps (hC : Cx p s m args c cc own nL G) (hw : Wd G n C H) (hS : LW G s H locs) (hn : 6 ≤ n) (hn2 : n ≤ 253) (hin : vp_in i 8) (hdg : decode cc pc = .ok (.iastore, 1)) (kk : ∀ (H1 : Heap) (locs1 : List Loc), Wd G n (mu C 22 i.toNatClampNeg x) H1 → LW G s H1 locs1 → H1.size = H.size → W p l e R s m args below meth c H1 locs1 cells slots Q (F0 m (pc + 1) ls rest)) : W p l e R s m args below meth c H locs cells slots Q (F0 m pc ls (.int x :: .int i :: .ref (bb G + 5) :: rest)) := st_fix hC hw hS (by omega) hn2 (by decide) (fun _ => rfl) (fun _ => ca_ptemps) hin hdg kk
theorem st_marr {r : Nat} (hC : Cx p s m args c cc own nL G) (hw : Wd G n C H) (hS : LW G s H locs) (hn : 252 ≤ n) (hn2 : n ≤ 253) (hr : 31 ≤ r ∧ r ≤ 36) (hin : vp_in i (alen r)) (hdg : decode cc pc = .ok (.iastore, 1)) (kk : ∀ (H1 : Heap) (locs1 : List Loc), Wd G n (mu C r i.toNatClampNeg x) H1 → LW G s H1 locs1 → H1.size = H.size → W p l e R s m args below meth c H1 locs1 cells slots Q (F0 m (pc + 1) ls rest)) : W p l e R s m args below meth c H locs cells slots Q (F0 m pc ls (.int x :: .int i :: .ref (bb G + (r + 214)) :: rest)) :=
  st_fix hC hw hS (by omega) hn2 (by omega) (fun k => by
    unfold hmF
    rw [if_neg (by omega), if_neg (by omega), if_neg (by omega), if_neg (by omega), if_neg (by omega), if_neg (by omega), if_neg (by omega), if_neg (by omega), if_neg (by omega)]) (fun _ => ca_marr hr) hin hdg kk
theorem st_sett (hC : Cx p s m args c cc own nL G) (hw : Wd G n C H) (hS : LW G s H locs) (hn : 244 ≤ n) (hq : q < 18) (hin : vp_in i 6) (hdg : decode cc pc = .ok (.iastore, 1)) (kk : ∀ (H1 : Heap) (locs1 : List Loc), Wd G n (mu C q i.toNatClampNeg x) H1 → LW G s H1 locs1 → H1.size = H.size → W p l e R s m args below meth c H1 locs1 cells slots Q (F0 m (pc + 1) ls rest)) : W p l e R s m args below meth c H locs cells slots Q (F0 m pc ls (.int x :: .int i :: .ref (bb G + (po q + 4)) :: rest)) :=
  st_at hC hw hS (by have := po_lt hq; omega) (ca_sett hq) hin (by rw [ca_sett hq, mu_same]) (fun a h1 h2 => cell_muP G C x hq (by have := vp_lt hin; omega) a (by rw [hm_sett (vp_lt hin)]; exact h2)) hdg kk
theorem st_temps (hC : Cx p s m args c cc own nL G) (hw : Wd G n C H) (hS : LW G s H locs) (hn : 244 ≤ n) (hq : q < 18) (hin : vp_in i 8) (hdg : decode cc pc = .ok (.iastore, 1)) (kk : ∀ (H1 : Heap) (locs1 : List Loc), Wd G n (mu C q (22 + i.toNatClampNeg) x) H1 → LW G s H1 locs1 → H1.size = H.size → W p l e R s m args below meth c H1 locs1 cells slots Q (F0 m (pc + 1) ls rest)) : W p l e R s m args below meth c H locs cells slots Q (F0 m pc ls (.int x :: .int i :: .ref (bb G + (po q + 6)) :: rest)) :=
  m_iast hC hw hS (by have := po_lt hq; omega) (ca_temps hq) hin (by rw [ca_temps hq, mu_same]; rw [tr_updS (C q) x (vp_lt hin)]) (fun a h1 h2 => cell_muP G C x hq (by have := vp_lt hin; omega) a (by rw [hm_temps (vp_lt hin)]; exact h2)) hdg kk
theorem st_kept (hC : Cx p s m args c cc own nL G) (hw : Wd G n C H) (hS : LW G s H locs) (hn : 252 ≤ n) (hn2 : n ≤ 253) (hin : vp_in i 2) (hv : x = 0 ∨ x = 1) (hdg : decode cc pc = .ok (.bastore, 1)) (kk : ∀ (H1 : Heap) (locs1 : List Loc), Wd G n (mu C 37 i.toNatClampNeg x) H1 → LW G s H1 locs1 → H1.size = H.size → W p l e R s m args below meth c H1 locs1 cells slots Q (F0 m (pc + 1) ls rest)) : W p l e R s m args below meth c H locs cells slots Q (F0 m pc ls (.int x :: .int i :: .ref (bb G + (37 + 214)) :: rest)) := by
  obtain ⟨hx, hb, -, hown, hts, hT, -⟩ := hC
  refine W.zast hx hb (hw.one (by omega) ca_kept 0 _ rfl) ((hT.1.2 1 _ rfl).1 2 (fun j => .int (tr 2 (C 37) j))) (fun q => by cases q) (by show ¬ (i < 0 ∨ (arrV _ _ _).slots.size ≤ _); rw [arrV_size]; exact hin) rfl rfl hdg fun H1 e1 z oq => ?_
  rw [z_nar hv] at e1
  refine kk H1 _ (hw.put z oq ?_ (fun q h1 h2 => cell_muF G C x (by decide) (fun e => absurd e (by decide)) q (by omega) h2)) (hS.put z oq (Nat.le_add_right _ _)) z
  show H1[_]? = some (vp_cell _ (2, .inl (tr 2 (mu C 37 i.toNatClampNeg x 37))))
  rw [e1, vp_cell_i, vp_cell_i, arrV_store]
  congr 2
  funext q
  rw [mu_same, ← tr_upd (C 37) x (vp_lt hin)]
  by_cases hq : q = i.toNatClampNeg
  · subst hq
    simp [updV, upd]
  · simp [updV, upd, hq]
theorem st_out (hC : Cx p s m args c cc own nL G) (hw : Wd G n C H) (hS : LW G s H locs) (hn : n = 253) (hdg : decode cc pc = .ok (.lastore, 1)) (kk : ∀ (H1 : Heap) (locs1 : List Loc), Wd G n (mu C 40 0 x) H1 → LW G s H1 locs1 → H1.size = H.size → W p l e R s m args below meth c H1 locs1 cells slots Q (F0 m (pc + 1) ls rest)) : W p l e R s m args below meth c H locs cells slots Q (F0 m pc ls (.long x.toInt64 :: .int 0 :: .ref (bb G + 252) :: rest)) := by
  obtain ⟨hx, hb, -, hown, hts, hT, -⟩ := hC
  refine W.last hx hb (hw.one (by omega) ca_out 0 _ rfl) ((hT.1.2 4 _ rfl).1 1 (fun j => .long (tr 1 (C 40) j).toInt64)) (fun q => by cases q) (by show ¬ ((0 : Int32) < 0 ∨ (arrV _ _ _).slots.size ≤ _); rw [arrV_size]; show ¬ ((0 : Int32) < 0 ∨ 1 ≤ Int32.toNatClampNeg 0); decide) rfl rfl hdg fun H1 e1 z oq => ?_
  refine kk H1 _ (hw.put z oq ?_ (fun q h1 h2 => cell_muF G C x (by decide) (fun e => absurd e (by decide)) q (by omega) h2)) (hS.put z oq (Nat.le_add_right _ _)) z
  show H1[_]? = some (vp_cell _ (1, .inr (.inl (fun j => (tr 1 (mu C 40 0 x 40) j).toInt64))))
  rw [e1, vp_cell_l, vp_cell_l, arrV_store]
  congr 2
  funext q
  rw [mu_same, ← tr_upd (C 40) x (by decide)]
  by_cases hq : q = 0
  · subst hq
    rfl
  · simp only [updV, upd]
    rw [if_neg (by simpa using hq), if_neg (by simpa using hq)]
end AR
/-! tuples that a loop leaves with -/
def u2 {A B γ : Type} (f : A → B → γ) (x : A × B) : γ := f x.1 x.2
def u3 {A B D γ : Type} (f : A → B → D → γ) (x : A × B × D) : γ := f x.1 x.2.1 x.2.2
def u4 {A B D E γ : Type} (f : A → B → D → E → γ) (x : A × B × D × E) : γ := f x.1 x.2.1 x.2.2.1 x.2.2.2
def u5 {A B D E F γ : Type} (f : A → B → D → E → F → γ) (x : A × B × D × E × F) : γ := f x.1 x.2.1 x.2.2.1 x.2.2.2.1 x.2.2.2.2
def u6 {A B D E F I γ : Type} (f : A → B → D → E → F → I → γ) (x : A × B × D × E × F × I) : γ := f x.1 x.2.1 x.2.2.1 x.2.2.2.1 x.2.2.2.2.1 x.2.2.2.2.2
theorem u2_t {A B γ : Type} {f : A → B → γ} {a : A} {b : B} {r : γ} (h : u2 f (a, b) = r) : f a b = r := h
theorem u3_t {A B D γ : Type} {f : A → B → D → γ} {a : A} {b : B} {d : D} {r : γ} (h : u3 f (a, b, d) = r) : f a b d = r := h
theorem u4_t {A B D E γ : Type} {f : A → B → D → E → γ} {a : A} {b : B} {d : D} {e : E} {r : γ} (h : u4 f (a, b, d, e) = r) : f a b d e = r := h
theorem u5_t {A B D E F γ : Type} {f : A → B → D → E → F → γ} {a : A} {b : B} {d : D} {e : E} {g : F} {r : γ} (h : u5 f (a, b, d, e, g) = r) : f a b d e g = r := h
theorem u6_t {A B D E F I γ : Type} {f : A → B → D → E → F → I → γ} {a : A} {b : B} {d : D} {e : E} {g : F} {i : I} {r : γ} (h : u6 f (a, b, d, e, g, i) = r) : f a b d e g i = r := h
section CALLS2
variable {p : Program} {l : Launch} {e : Env} {R : Room} {s : State} {m : MethodId} {args : Array Value} {below : List Frame} {meth : Method} {c : Code} {H : Heap} {locs : List Loc} {cells slots : Nat} {Q : State → Prop}
variable {cc : ByteArray} {pc : Nat} {ls : Array Slot} {rest st0 As : List Value} {own : String} {nL : Nat} {G : GG} {n : Nat} {C C1 : Mem} {index na mc ms maxL : Nat} {y : MethodName} {bytes : ByteArray} {ret : Option FieldType} {rm : Room} {o : Rs}
theorem call_Vi {q0 : Nat} (hC : Cx p s m args c cc own nL G) {v : Int32} (hM : Ct l y bytes maxL ret rm G n C (.ref (bb G + q0) :: As) (some (.int v)) C1) (hV : WV own index y bytes maxL ret na) (hR : rm.cells = 0 ∧ rm.slots = 0 ∧ rm.frames + 1 ≤ R.frames ∧ 8 + (maxL + 11) + rm.locals ≤ R.locals) (hw : Wd G n C H) (hS : LW G s H locs) {ci N : Nat} {T : u_T} {fs : List Value} (ha : q0 < n) (he : cellAt G C q0 = .inr (ci, fs)) (hc : vwCl[ci]? = some (y.cls, T, N)) (hls : ls.size = nL) (hna : As.length = na) (hst : st0 = As.reverse ++ .ref (bb G + q0) :: rest) (hWd : (rest.map fun v => v.category).sum ≤ 8) (hdg : decode cc pc = .ok (.invokevirtual index, 3)) (hf : cells + 0 ≤ R.cells ∧ slots + 0 ≤ R.slots)
    (kk : ∀ (H1 : Heap) (locs1 : List Loc), Wd G n C1 H1 → LW G s H1 locs1 → H.size ≤ H1.size ∧ H1.size ≤ s.heap.size + cells → W p l e R s m args below meth c H1 locs1 cells slots Q (F0 m (pc + 3) ls (.int v :: rest))) : W p l e R s m args below meth c H locs cells slots Q (F0 m pc ls st0) := call_V hC hM hV hR hw hS ha he hc hls hna hst hWd hdg hf kk
theorem call_Vv {q0 : Nat} (hC : Cx p s m args c cc own nL G) (hM : Ct l y bytes maxL ret rm G n C (.ref (bb G + q0) :: As) none C1) (hV : WV own index y bytes maxL ret na) (hR : rm.cells = 0 ∧ rm.slots = 0 ∧ rm.frames + 1 ≤ R.frames ∧ 8 + (maxL + 11) + rm.locals ≤ R.locals) (hw : Wd G n C H) (hS : LW G s H locs) {ci N : Nat} {T : u_T} {fs : List Value} (ha : q0 < n) (he : cellAt G C q0 = .inr (ci, fs)) (hc : vwCl[ci]? = some (y.cls, T, N)) (hls : ls.size = nL) (hna : As.length = na) (hst : st0 = As.reverse ++ .ref (bb G + q0) :: rest) (hWd : (rest.map fun v => v.category).sum ≤ 8) (hdg : decode cc pc = .ok (.invokevirtual index, 3)) (hf : cells + 0 ≤ R.cells ∧ slots + 0 ≤ R.slots)
    (kk : ∀ (H1 : Heap) (locs1 : List Loc), Wd G n C1 H1 → LW G s H1 locs1 → H.size ≤ H1.size ∧ H1.size ≤ s.heap.size + cells → W p l e R s m args below meth c H1 locs1 cells slots Q (F0 m (pc + 3) ls rest)) : W p l e R s m args below meth c H locs cells slots Q (F0 m pc ls st0) := call_V hC hM hV hR hw hS ha he hc hls hna hst hWd hdg hf kk
theorem call_Vr {q0 : Nat} (hC : Cx p s m args c cc own nL G) {v : Nat} (hM : Ct l y bytes maxL ret rm G n C (.ref (bb G + q0) :: As) (some (.ref v)) C1) (hV : WV own index y bytes maxL ret na) (hR : rm.cells = 0 ∧ rm.slots = 0 ∧ rm.frames + 1 ≤ R.frames ∧ 8 + (maxL + 11) + rm.locals ≤ R.locals) (hw : Wd G n C H) (hS : LW G s H locs) {ci N : Nat} {T : u_T} {fs : List Value} (ha : q0 < n) (he : cellAt G C q0 = .inr (ci, fs)) (hc : vwCl[ci]? = some (y.cls, T, N)) (hls : ls.size = nL) (hna : As.length = na) (hst : st0 = As.reverse ++ .ref (bb G + q0) :: rest) (hWd : (rest.map fun v => v.category).sum ≤ 8) (hdg : decode cc pc = .ok (.invokevirtual index, 3)) (hf : cells + 0 ≤ R.cells ∧ slots + 0 ≤ R.slots)
    (kk : ∀ (H1 : Heap) (locs1 : List Loc), Wd G n C1 H1 → LW G s H1 locs1 → H.size ≤ H1.size ∧ H1.size ≤ s.heap.size + cells → W p l e R s m args below meth c H1 locs1 cells slots Q (F0 m (pc + 3) ls (.ref v :: rest))) : W p l e R s m args below meth c H locs cells slots Q (F0 m pc ls st0) := call_V hC hM hV hR hw hS ha he hc hls hna hst hWd hdg hf kk
theorem call_Si (hC : Cx p s m args c cc own nL G) {v : Int32} (hM : Ct l y bytes maxL ret rm G n C As (some (.int v)) C1) (hV : WS own index y bytes maxL ret na) (hR : rm.cells = 0 ∧ rm.slots = 0 ∧ rm.frames + 1 ≤ R.frames ∧ 8 + (maxL + 11) + rm.locals ≤ R.locals) (hw : Wd G n C H) (hS : LW G s H locs) (hls : ls.size = nL) (hna : As.length = na) (hst : st0 = As.reverse ++ rest) (hWd : (rest.map fun v => v.category).sum ≤ 8) (hdg : decode cc pc = .ok (.invokestatic index, 3)) (hf : cells + 0 ≤ R.cells ∧ slots + 0 ≤ R.slots)
    (kk : ∀ (H1 : Heap) (locs1 : List Loc), Wd G n C1 H1 → LW G s H1 locs1 → H.size ≤ H1.size ∧ H1.size ≤ s.heap.size + cells → W p l e R s m args below meth c H1 locs1 cells slots Q (F0 m (pc + 3) ls (.int v :: rest))) : W p l e R s m args below meth c H locs cells slots Q (F0 m pc ls st0) := call_S hC hM hV hR hw hS hls hna hst hWd hdg hf kk
theorem call_Sv (hC : Cx p s m args c cc own nL G) (hM : Ct l y bytes maxL ret rm G n C As none C1) (hV : WS own index y bytes maxL ret na) (hR : rm.cells = 0 ∧ rm.slots = 0 ∧ rm.frames + 1 ≤ R.frames ∧ 8 + (maxL + 11) + rm.locals ≤ R.locals) (hw : Wd G n C H) (hS : LW G s H locs) (hls : ls.size = nL) (hna : As.length = na) (hst : st0 = As.reverse ++ rest) (hWd : (rest.map fun v => v.category).sum ≤ 8) (hdg : decode cc pc = .ok (.invokestatic index, 3)) (hf : cells + 0 ≤ R.cells ∧ slots + 0 ≤ R.slots)
    (kk : ∀ (H1 : Heap) (locs1 : List Loc), Wd G n C1 H1 → LW G s H1 locs1 → H.size ≤ H1.size ∧ H1.size ≤ s.heap.size + cells → W p l e R s m args below meth c H1 locs1 cells slots Q (F0 m (pc + 3) ls rest)) : W p l e R s m args below meth c H locs cells slots Q (F0 m pc ls st0) := call_S hC hM hV hR hw hS hls hna hst hWd hdg hf kk
theorem call_VXv {q0 : Nat} (hC : Cx p s m args c cc own nL G) (hM : CtX l y bytes maxL ret rm mc ms G n C (.ref (bb G + q0) :: As) (fun _ => none) o C1) (hV : WV own index y bytes maxL ret na) (hR : rm.cells = mc ∧ rm.slots = ms ∧ rm.frames + 1 ≤ R.frames ∧ 8 + (maxL + 11) + rm.locals ≤ R.locals) (hw : Wd G n C H) (hS : LW G s H locs) {ci N : Nat} {T : u_T} {fs : List Value} (ha : q0 < n) (he : cellAt G C q0 = .inr (ci, fs)) (hc : vwCl[ci]? = some (y.cls, T, N)) (hls : ls.size = nL) (hna : As.length = na) (hst : st0 = As.reverse ++ .ref (bb G + q0) :: rest) (hWd : (rest.map fun v => v.category).sum ≤ 8) (hdg : decode cc pc = .ok (.invokevirtual index, 3)) (hf : cells + mc ≤ R.cells ∧ slots + ms ≤ R.slots)
    (kx : ∀ (k : Nat) (ce : Cell) (q9 : Addr) (H1 : Heap) (locs1 : List Loc), o = .inr k → 1 ≤ k → k ≤ 3 → Wd G n C1 H1 → LW G s H1 locs1 → H1[q9]? = some ce → ce.vm = .none → s.vm.findClass (xN k) = some ce.cls → vx_W p l e R s m args below meth c H1 locs1 (cells + mc) (slots + ms) Q (F0 m pc ls rest) q9)
    (kk : ∀ (v : Int32) (H1 : Heap) (locs1 : List Loc), o = .inl v → Wd G n C1 H1 → LW G s H1 locs1 → W p l e R s m args below meth c H1 locs1 (cells + mc) (slots + ms) Q (F0 m (pc + 3) ls rest)) : W p l e R s m args below meth c H locs cells slots Q (F0 m pc ls st0) := call_VX hC hM hV hR hw hS ha he hc hls hna hst hWd hdg hf kx kk
theorem call_VXi {q0 : Nat} (hC : Cx p s m args c cc own nL G) (hM : CtX l y bytes maxL ret rm mc ms G n C (.ref (bb G + q0) :: As) (fun v => some (.int v)) o C1) (hV : WV own index y bytes maxL ret na) (hR : rm.cells = mc ∧ rm.slots = ms ∧ rm.frames + 1 ≤ R.frames ∧ 8 + (maxL + 11) + rm.locals ≤ R.locals) (hw : Wd G n C H) (hS : LW G s H locs) {ci N : Nat} {T : u_T} {fs : List Value} (ha : q0 < n) (he : cellAt G C q0 = .inr (ci, fs)) (hc : vwCl[ci]? = some (y.cls, T, N)) (hls : ls.size = nL) (hna : As.length = na) (hst : st0 = As.reverse ++ .ref (bb G + q0) :: rest) (hWd : (rest.map fun v => v.category).sum ≤ 8) (hdg : decode cc pc = .ok (.invokevirtual index, 3)) (hf : cells + mc ≤ R.cells ∧ slots + ms ≤ R.slots)
    (kx : ∀ (k : Nat) (ce : Cell) (q9 : Addr) (H1 : Heap) (locs1 : List Loc), o = .inr k → 1 ≤ k → k ≤ 3 → Wd G n C1 H1 → LW G s H1 locs1 → H1[q9]? = some ce → ce.vm = .none → s.vm.findClass (xN k) = some ce.cls → vx_W p l e R s m args below meth c H1 locs1 (cells + mc) (slots + ms) Q (F0 m pc ls rest) q9)
    (kk : ∀ (v : Int32) (H1 : Heap) (locs1 : List Loc), o = .inl v → Wd G n C1 H1 → LW G s H1 locs1 → W p l e R s m args below meth c H1 locs1 (cells + mc) (slots + ms) Q (F0 m (pc + 3) ls (.int v :: rest))) : W p l e R s m args below meth c H locs cells slots Q (F0 m pc ls st0) := call_VX hC hM hV hR hw hS ha he hc hls hna hst hWd hdg hf kx kk
theorem call_SXv (hC : Cx p s m args c cc own nL G) (hM : CtX l y bytes maxL ret rm mc ms G n C As (fun _ => none) o C1) (hV : WS own index y bytes maxL ret na) (hR : rm.cells = mc ∧ rm.slots = ms ∧ rm.frames + 1 ≤ R.frames ∧ 8 + (maxL + 11) + rm.locals ≤ R.locals) (hw : Wd G n C H) (hS : LW G s H locs) (hls : ls.size = nL) (hna : As.length = na) (hst : st0 = As.reverse ++ rest) (hWd : (rest.map fun v => v.category).sum ≤ 8) (hdg : decode cc pc = .ok (.invokestatic index, 3)) (hf : cells + mc ≤ R.cells ∧ slots + ms ≤ R.slots)
    (kx : ∀ (k : Nat) (ce : Cell) (q9 : Addr) (H1 : Heap) (locs1 : List Loc), o = .inr k → 1 ≤ k → k ≤ 3 → Wd G n C1 H1 → LW G s H1 locs1 → H1[q9]? = some ce → ce.vm = .none → s.vm.findClass (xN k) = some ce.cls → vx_W p l e R s m args below meth c H1 locs1 (cells + mc) (slots + ms) Q (F0 m pc ls rest) q9)
    (kk : ∀ (v : Int32) (H1 : Heap) (locs1 : List Loc), o = .inl v → Wd G n C1 H1 → LW G s H1 locs1 → W p l e R s m args below meth c H1 locs1 (cells + mc) (slots + ms) Q (F0 m (pc + 3) ls rest)) : W p l e R s m args below meth c H locs cells slots Q (F0 m pc ls st0) := call_SX hC hM hV hR hw hS hls hna hst hWd hdg hf kx kk
end CALLS2
