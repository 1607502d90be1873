/-! what the methods of the model do to the memory, by program out of the bytecode -/
def F_X9_thrown  (C : Mem) : Option (Int32 × Mem) :=
  some ((C 30 0), C)
def F_X9_refused (x0 : Int32) (C : Mem) : Option (Int32 × Mem) :=
  nm (mu C 30 0 x0) fun C1 =>
  (if x0 ≤ 0 then (
  some ((0 : Int32), C1)) else (
  some ((1 : Int32), C1)))
def F_X9_in (x0 : Int64) (x1 : Int64) (x2 : Int64) (C : Mem) : Option (Int32 × Mem) :=
  (if (lg_cmp x0 x1) < 0 then (
  some ((0 : Int32), C)) else (
  (if 0 < (lg_cmp x0 x2) then (
  some ((0 : Int32), C)) else (
  some ((1 : Int32), C)))))
def S_X9_copyPage_3 (r0 : Nat) (x1 : Int32) (r2 : Nat) (x3 : Int32) (v1 : Int32) (C2 : Mem) : Option ((Int32 × Mem) ⊕ (Int32 × Mem)) :=
  (if (65 : Int32) ≤ v1 then (
  some (Sum.inr (v1, C2))) else (
  gi (x1 + v1) (alen r0) (
  gi (x3 + v1) (alen r2) (
  nm (mu C2 r2 ((x3 + v1)).toNatClampNeg (C2 r0 ((x1 + v1)).toNatClampNeg)) fun C9 =>
  nm (v1 + (1 : Int32)) fun v10 =>
  some (Sum.inl (v10, C9))))))
def F_X9_copyPage (r0 : Nat) (x1 : Int32) (r2 : Nat) (x3 : Int32) (C : Mem) : Option (Int32 × Mem) :=
  b1 (iter (fun x => S_X9_copyPage_3 r0 x1 r2 x3 x.1 x.2) fuel ((0 : Int32), C)) (u2 fun v4 C5 =>
  some (0, C5))
def S_X9_begin_2 (r0 : Nat) (v1 : Int32) (C2 : Mem) : Option ((Int32 × Mem) ⊕ (Int32 × Mem)) :=
  (if (65 : Int32) ≤ v1 then (
  some (Sum.inr (v1, C2))) else (
  b2 (F_X9_in ((v1).toInt64) (22 : Int64) (29 : Int64) C2) fun r7 C8 =>
  (if r7 = 0 then (
  gi v1 (alen r0) (
  nm (mu C8 r0 (v1).toNatClampNeg (0 : Int32)) fun C12 =>
  nm (v1 + (1 : Int32)) fun v13 =>
  some (Sum.inl (v13, C12)))) else (
  gi v1 (alen r0) (
  nm (mu C8 r0 (v1).toNatClampNeg (40 : Int32)) fun C15 =>
  nm (v1 + (1 : Int32)) fun v16 =>
  some (Sum.inl (v16, C15)))))))
def F_X9_begin (r0 : Nat) (C : Mem) : Option (Int32 × Mem) :=
  b1 (iter (fun x => S_X9_begin_2 r0 x.1 x.2) fuel ((0 : Int32), C)) (u2 fun v4 C5 =>
  gi (0 : Int32) (alen r0) (
  nm (mu C5 r0 ((0 : Int32)).toNatClampNeg (60 : Int32)) fun C18 =>
  gi (1 : Int32) (alen r0) (
  nm (mu C18 r0 ((1 : Int32)).toNatClampNeg (3 : Int32)) fun C20 =>
  gi (2 : Int32) (alen r0) (
  nm (mu C20 r0 ((2 : Int32)).toNatClampNeg (2 : Int32)) fun C22 =>
  gi (3 : Int32) (alen r0) (
  nm (mu C22 r0 ((3 : Int32)).toNatClampNeg (70 : Int32)) fun C24 =>
  gi (4 : Int32) (alen r0) (
  nm (mu C24 r0 ((4 : Int32)).toNatClampNeg (2 : Int32)) fun C26 =>
  gi (5 : Int32) (alen r0) (
  nm (mu C26 r0 ((5 : Int32)).toNatClampNeg (2 : Int32)) fun C28 =>
  gi (20 : Int32) (alen r0) (
  nm (mu C28 r0 ((20 : Int32)).toNatClampNeg (1 : Int32)) fun C30 =>
  gi (21 : Int32) (alen r0) (
  nm (mu C30 r0 ((21 : Int32)).toNatClampNeg (1 : Int32)) fun C32 =>
  some (0, C32))))))))))
def F_X9_isSetting (x0 : Int32) (x1 : Int32) (C : Mem) : Option (Int32 × Mem) :=
  (if x0 = (0 : Int32) then (
  b2 (F_X9_in ((x1).toInt64) (40 : Int64) (80 : Int64) C) fun r6 C7 =>
  gb r6 (
  some (r6, C7))) else (
  (if x0 = (1 : Int32) then (
  b2 (F_X9_in ((x1).toInt64) (1 : Int64) (9 : Int64) C) fun r10 C11 =>
  gb r10 (
  some (r10, C11))) else (
  (if x0 = (2 : Int32) then (
  b2 (F_X9_in ((x1).toInt64) (1 : Int64) (5 : Int64) C) fun r14 C15 =>
  gb r14 (
  some (r14, C15))) else (
  (if x0 = (3 : Int32) then (
  b2 (F_X9_in ((x1).toInt64) (60 : Int64) (90 : Int64) C) fun r18 C19 =>
  gb r18 (
  some (r18, C19))) else (
  (if x0 = (4 : Int32) then (
  b2 (F_X9_in ((x1).toInt64) (1 : Int64) (9 : Int64) C) fun r22 C23 =>
  gb r22 (
  some (r22, C23))) else (
  (if x0 = (5 : Int32) then (
  b2 (F_X9_in ((x1).toInt64) (0 : Int64) (23 : Int64) C) fun r27 C28 =>
  (if r27 = 0 then (
  some ((0 : Int32), C28)) else (
  some ((1 : Int32), C28)))) else (
  some ((0 : Int32), C)))))))))))))
def F_X9_at (x0 : Int32) (C : Mem) : Option (Int32 × Mem) :=
  some (((30 : Int32) + ((7 : Int32) * x0)), C)
def F_X9_works (x0 : Int32) (C : Mem) : Option (Int32 × Mem) :=
  (if x0 = (1 : Int32) then (
  some ((1 : Int32), C)) else (
  (if x0 = (2 : Int32) then (
  some ((1 : Int32), C)) else (
  some ((0 : Int32), C)))))
def F_X9_idles (x0 : Int32) (C : Mem) : Option (Int32 × Mem) :=
  (if x0 = 0 then (
  some ((1 : Int32), C)) else (
  (if x0 = (3 : Int32) then (
  some ((1 : Int32), C)) else (
  some ((0 : Int32), C)))))
def S_X9_use_5 (r0 : Nat) (x1 : Int32) (v1 : Int32) (v2 : Int32) (C3 : Mem) : Option ((Int32 × Int32 × Mem) ⊕ (Int32 × Int32 × Mem)) :=
  (if (C3 30 4) ≤ v2 then (
  some (Sum.inr (v1, v2, C3))) else (
  b2 (F_X9_at v2 C3) fun r9 C10 =>
  gi (r9 + (1 : Int32)) (alen r0) (
  (if (C10 r0 ((r9 + (1 : Int32))).toNatClampNeg) = x1 then (
  b2 (F_X9_at v2 C10) fun r16 C17 =>
  gi (r16 + (2 : Int32)) (alen r0) (
  b2 (F_X9_works (C17 r0 ((r16 + (2 : Int32))).toNatClampNeg) C17) fun r20 C21 =>
  (if r20 = 0 then (
  nm (v1 + (0 : Int32)) fun v24 =>
  nm (v2 + (1 : Int32)) fun v25 =>
  some (Sum.inl (v24, v25, C21))) else (
  b2 (F_X9_at v2 C21) fun r26 C27 =>
  gi r26 (alen r0) (
  nm (v1 + (C27 r0 (r26).toNatClampNeg)) fun v30 =>
  nm (v2 + (1 : Int32)) fun v31 =>
  some (Sum.inl (v30, v31, C27))))))) else (
  nm (v1 + (0 : Int32)) fun v14 =>
  nm (v2 + (1 : Int32)) fun v15 =>
  some (Sum.inl (v14, v15, C10)))))))
def F_X9_use (r0 : Nat) (x1 : Int32) (C : Mem) : Option (Int32 × Mem) :=
  b1 (iter (fun x => S_X9_use_5 r0 x1 x.1 x.2.1 x.2.2) fuel ((0 : Int32), (0 : Int32), C)) (u3 fun v5 v6 C7 =>
  some (v5, C7))
def F_X9_canStart (r0 : Nat) (x1 : Int32) (C : Mem) : Option (Int32 × Mem) :=
  b2 (F_X9_at x1 C) fun r1 C2 =>
  gi (r1 + (1 : Int32)) (alen r0) (
  nm (C2 r0 ((r1 + (1 : Int32))).toNatClampNeg) fun v5 =>
  gi ((20 : Int32) + v5) (alen r0) (
  (if (C2 r0 (((20 : Int32) + v5)).toNatClampNeg) = (1 : Int32) then (
  b2 (F_X9_use r0 v5 C2) fun r8 C9 =>
  b2 (F_X9_at x1 C9) fun r11 C12 =>
  gi r11 (alen r0) (
  gi ((18 : Int32) + v5) (alen r0) (
  (if (C12 r0 (((18 : Int32) + v5)).toNatClampNeg) < (r8 + (C12 r0 (r11).toNatClampNeg)) then (
  some ((0 : Int32), C12)) else (
  some ((1 : Int32), C12)))))) else (
  some ((0 : Int32), C2)))))
def J_X9_nextOf_41 (r0 : Nat) (v1 : Int32) (v2 : Int32) (v17 : Int32) (C18 : Mem) : Option ((Int32 × Int32 × Mem) ⊕ (Int32 × Int32 × Mem)) :=
  (if v17 = 0 then (
  nm (v2 + (1 : Int32)) fun v20 =>
  some (Sum.inl (v1, v20, C18))) else (
  (if v1 = (-9 : Int32) then (
  nm (v2 + (1 : Int32)) fun v22 =>
  some (Sum.inl (v2, v22, C18))) else (
  b2 (F_X9_at v2 C18) fun r23 C24 =>
  gi (r23 + (4 : Int32)) (alen r0) (
  b2 (F_X9_at v1 C24) fun r27 C28 =>
  gi (r27 + (4 : Int32)) (alen r0) (
  (if (C28 r0 ((r27 + (4 : Int32))).toNatClampNeg) ≤ (C24 r0 ((r23 + (4 : Int32))).toNatClampNeg) then (
  nm (v2 + (1 : Int32)) fun v32 =>
  some (Sum.inl (v1, v32, C28))) else (
  nm (v2 + (1 : Int32)) fun v33 =>
  some (Sum.inl (v2, v33, C28))))))))))
def S_X9_nextOf_5 (r0 : Nat) (v1 : Int32) (v2 : Int32) (C3 : Mem) : Option ((Int32 × Int32 × Mem) ⊕ (Int32 × Int32 × Mem)) :=
  (if (C3 30 4) ≤ v2 then (
  some (Sum.inr (v1, v2, C3))) else (
  b2 (F_X9_at v2 C3) fun r9 C10 =>
  gi (r9 + (2 : Int32)) (alen r0) (
  b2 (F_X9_idles (C10 r0 ((r9 + (2 : Int32))).toNatClampNeg) C10) fun r13 C14 =>
  (if r13 = 0 then (
  J_X9_nextOf_41 r0 v1 v2 (0 : Int32) C14) else (
  b2 (F_X9_canStart r0 v2 C14) fun r34 C35 =>
  (if r34 = 0 then (
  J_X9_nextOf_41 r0 v1 v2 (0 : Int32) C35) else (
  J_X9_nextOf_41 r0 v1 v2 (1 : Int32) C35)))))))
def F_X9_nextOf (r0 : Nat) (C : Mem) : Option (Int32 × Mem) :=
  b1 (iter (fun x => S_X9_nextOf_5 r0 x.1 x.2.1 x.2.2) fuel ((-9 : Int32), (0 : Int32), C)) (u3 fun v5 v6 C7 =>
  some (v5, C7))
def S_X9_meanOf_4 (r0 : Nat) (v1 : Int32) (v2 : Int32) (C3 : Mem) : Option ((Int32 × Int32 × Mem) ⊕ (Int32 × Int32 × Mem)) :=
  (if (C3 30 5) ≤ v2 then (
  some (Sum.inr (v1, v2, C3))) else (
  gi ((22 : Int32) + v2) (alen r0) (
  nm (v1 + (C3 r0 (((22 : Int32) + v2)).toNatClampNeg)) fun v10 =>
  nm (v2 + (1 : Int32)) fun v11 =>
  some (Sum.inl (v10, v11, C3)))))
def F_X9_meanOf (r0 : Nat) (C : Mem) : Option (Int32 × Mem) :=
  b1 (iter (fun x => S_X9_meanOf_4 r0 x.1 x.2.1 x.2.2) fuel ((0 : Int32), (0 : Int32), C)) (u3 fun v5 v6 C7 =>
  gz (C7 30 5) (
  some ((v5 / (C7 30 5)), C7)))
def S_X9_fuelOf_4 (r0 : Nat) (v1 : Int32) (v2 : Int32) (C3 : Mem) : Option ((Int32 × Int32 × Mem) ⊕ (Int32 × Int32 × Mem)) :=
  (if (C3 30 4) ≤ v2 then (
  some (Sum.inr (v1, v2, C3))) else (
  b2 (F_X9_at v2 C3) fun r9 C10 =>
  gi (r9 + (6 : Int32)) (alen r0) (
  nm (v1 + (C10 r0 ((r9 + (6 : Int32))).toNatClampNeg)) fun v13 =>
  nm (v2 + (1 : Int32)) fun v14 =>
  some (Sum.inl (v13, v14, C10)))))
def F_X9_fuelOf (r0 : Nat) (C : Mem) : Option (Int32 × Mem) :=
  b1 (iter (fun x => S_X9_fuelOf_4 r0 x.1 x.2.1 x.2.2) fuel ((0 : Int32), (0 : Int32), C)) (u3 fun v5 v6 C7 =>
  some (v5, C7))
def S_X9_startsOf_4 (r0 : Nat) (v1 : Int32) (v2 : Int32) (C3 : Mem) : Option ((Int32 × Int32 × Mem) ⊕ (Int32 × Int32 × Mem)) :=
  (if (C3 30 4) ≤ v2 then (
  some (Sum.inr (v1, v2, C3))) else (
  b2 (F_X9_at v2 C3) fun r9 C10 =>
  gi (r9 + (5 : Int32)) (alen r0) (
  nm (v1 + (C10 r0 ((r9 + (5 : Int32))).toNatClampNeg)) fun v13 =>
  nm (v2 + (1 : Int32)) fun v14 =>
  some (Sum.inl (v13, v14, C10)))))
def F_X9_startsOf (r0 : Nat) (C : Mem) : Option (Int32 × Mem) :=
  b1 (iter (fun x => S_X9_startsOf_4 r0 x.1 x.2.1 x.2.2) fuel ((0 : Int32), (0 : Int32), C)) (u3 fun v5 v6 C7 =>
  some (v5, C7))
def S_X9_count_5 (r0 : Nat) (x1 : Int32) (v1 : Int32) (v2 : Int32) (C3 : Mem) : Option ((Int32 × Int32 × Mem) ⊕ (Int32 × Int32 × Mem)) :=
  (if (C3 30 4) ≤ v2 then (
  some (Sum.inr (v1, v2, C3))) else (
  b2 (F_X9_at v2 C3) fun r9 C10 =>
  gi (r9 + (2 : Int32)) (alen r0) (
  (if (C10 r0 ((r9 + (2 : Int32))).toNatClampNeg) = x1 then (
  nm (v1 + (1 : Int32)) fun v16 =>
  nm (v2 + (1 : Int32)) fun v17 =>
  some (Sum.inl (v16, v17, C10))) else (
  nm (v1 + (0 : Int32)) fun v14 =>
  nm (v2 + (1 : Int32)) fun v15 =>
  some (Sum.inl (v14, v15, C10)))))))
def F_X9_count (r0 : Nat) (x1 : Int32) (C : Mem) : Option (Int32 × Mem) :=
  b1 (iter (fun x => S_X9_count_5 r0 x1 x.1 x.2.1 x.2.2) fuel ((0 : Int32), (0 : Int32), C)) (u3 fun v5 v6 C7 =>
  some (v5, C7))
def S_X9_drawOn_33 (r0 : Nat) (v12 : Int32) (C13 : Mem) : Option ((Int32 × Mem) ⊕ (Int32 × Mem)) :=
  (if v12 ≤ 0 then (
  some (Sum.inr (v12, C13))) else (
  gi (((22 : Int32) + v12) - (1 : Int32)) (alen r0) (
  gi ((22 : Int32) + v12) (alen r0) (
  nm (mu C13 r0 (((22 : Int32) + v12)).toNatClampNeg (C13 r0 ((((22 : Int32) + v12) - (1 : Int32))).toNatClampNeg)) fun C20 =>
  nm (v12 + (-1 : Int32)) fun v21 =>
  some (Sum.inl (v21, C20))))))
def S_X9_drawOn_5 (r0 : Nat) (x1 : Int32) (v1 : Int32) (v2 : Int32) (C3 : Mem) : Option ((Int32 × Int32 × Mem) ⊕ (Int32 × Int32 × Mem)) :=
  (if x1 ≤ v2 then (
  some (Sum.inr (v1, v2, C3))) else (
  gi (((22 : Int32) + (C3 30 5)) - (1 : Int32)) (alen r0) (
  nm (v1 + (C3 r0 ((((22 : Int32) + (C3 30 5)) - (1 : Int32))).toNatClampNeg)) fun v10 =>
  nm ((C3 30 5) - (1 : Int32)) fun v11 =>
  b1 (iter (fun x => S_X9_drawOn_33 r0 x.1 x.2) fuel (v11, C3)) (u2 fun v15 C16 =>
  gi (22 : Int32) (alen r0) (
  nm (mu C16 r0 ((22 : Int32)).toNatClampNeg (10 : Int32)) fun C23 =>
  gi (14 : Int32) (alen r0) (
  gi (14 : Int32) (alen r0) (
  nm (mu C23 r0 ((14 : Int32)).toNatClampNeg ((C23 r0 ((14 : Int32)).toNatClampNeg) + (10 : Int32))) fun C26 =>
  gi (17 : Int32) (alen r0) (
  gi (17 : Int32) (alen r0) (
  nm (mu C26 r0 ((17 : Int32)).toNatClampNeg ((C26 r0 ((17 : Int32)).toNatClampNeg) + (1 : Int32))) fun C29 =>
  nm (v2 + (1 : Int32)) fun v30 =>
  some (Sum.inl (v10, v30, C29)))))))))))
def F_X9_drawOn (r0 : Nat) (x1 : Int32) (C : Mem) : Option (Int32 × Mem) :=
  b1 (iter (fun x => S_X9_drawOn_5 r0 x1 x.1 x.2.1 x.2.2) fuel ((0 : Int32), (0 : Int32), C)) (u3 fun v5 v6 C7 =>
  gi (15 : Int32) (alen r0) (
  gi (15 : Int32) (alen r0) (
  nm (mu C7 r0 ((15 : Int32)).toNatClampNeg ((C7 r0 ((15 : Int32)).toNatClampNeg) + v5)) fun C33 =>
  some (v5, C33))))
def J_X9_startOn_52 (r0 : Nat) (x1 : Int32) (r14 : Int32) (C15 : Mem) (v18 : Int32) : Option (Int32 × Mem) :=
  gi (r14 + (3 : Int32)) (alen r0) (
  nm (mu C15 r0 ((r14 + (3 : Int32))).toNatClampNeg v18) fun C20 =>
  b2 (F_X9_at x1 C20) fun r21 C22 =>
  gi (r21 + (5 : Int32)) (alen r0) (
  gi (r21 + (5 : Int32)) (alen r0) (
  nm (mu C22 r0 ((r21 + (5 : Int32))).toNatClampNeg ((C22 r0 ((r21 + (5 : Int32))).toNatClampNeg) + (1 : Int32))) fun C26 =>
  some (0, C26))))
def J_X9_startOn_33 (r0 : Nat) (x1 : Int32) (v6 : Int32) (r7 : Int32) (C8 : Mem) (v11 : Int32) : Option (Int32 × Mem) :=
  gi (r7 + (2 : Int32)) (alen r0) (
  nm (mu C8 r0 ((r7 + (2 : Int32))).toNatClampNeg v11) fun C13 =>
  b2 (F_X9_at x1 C13) fun r14 C15 =>
  (if v6 = 0 then (
  J_X9_startOn_52 r0 x1 r14 C15 (0 : Int32)) else (
  gi (2 : Int32) (alen r0) (
  J_X9_startOn_52 r0 x1 r14 C15 (C15 r0 ((2 : Int32)).toNatClampNeg)))))
def J_X9_startOn_16 (r0 : Nat) (x1 : Int32) (C2 : Mem) (v6 : Int32) : Option (Int32 × Mem) :=
  b2 (F_X9_at x1 C2) fun r7 C8 =>
  (if v6 = 0 then (
  J_X9_startOn_33 r0 x1 v6 r7 C8 (2 : Int32)) else (
  J_X9_startOn_33 r0 x1 v6 r7 C8 (1 : Int32)))
def F_X9_startOn (r0 : Nat) (x1 : Int32) (C : Mem) : Option (Int32 × Mem) :=
  b2 (F_X9_at x1 C) fun r1 C2 =>
  gi (r1 + (2 : Int32)) (alen r0) (
  (if (C2 r0 ((r1 + (2 : Int32))).toNatClampNeg) = 0 then (
  J_X9_startOn_16 r0 x1 C2 (1 : Int32)) else (
  J_X9_startOn_16 r0 x1 C2 (0 : Int32))))
def S_X9_reasonOf_4 (r0 : Nat) (v1 : Int32) (v2 : Int32) (C3 : Mem) : Option ((Int32 × Int32 × Mem) ⊕ (Int32 × Int32 × Mem)) :=
  (if (C3 30 4) ≤ v2 then (
  some (Sum.inr (v1, v2, C3))) else (
  b2 (F_X9_at v2 C3) fun r9 C10 =>
  gi (r9 + (2 : Int32)) (alen r0) (
  b2 (F_X9_idles (C10 r0 ((r9 + (2 : Int32))).toNatClampNeg) C10) fun r13 C14 =>
  (if r13 = 0 then (
  nm (v2 + (1 : Int32)) fun v17 =>
  some (Sum.inl (v1, v17, C14))) else (
  b2 (F_X9_at v2 C14) fun r18 C19 =>
  gi (r18 + (1 : Int32)) (alen r0) (
  gi ((20 : Int32) + (C19 r0 ((r18 + (1 : Int32))).toNatClampNeg)) (alen r0) (
  (if (C19 r0 (((20 : Int32) + (C19 r0 ((r18 + (1 : Int32))).toNatClampNeg))).toNatClampNeg) = (1 : Int32) then (
  nm (v2 + (1 : Int32)) fun v27 =>
  some (Sum.inl ((1 : Int32), v27, C19))) else (
  (if v1 = (1 : Int32) then (
  nm (v2 + (1 : Int32)) fun v26 =>
  some (Sum.inl ((1 : Int32), v26, C19))) else (
  nm (v2 + (1 : Int32)) fun v25 =>
  some (Sum.inl ((2 : Int32), v25, C19)))))))))))))
def F_X9_reasonOf (r0 : Nat) (C : Mem) : Option (Int32 × Mem) :=
  b1 (iter (fun x => S_X9_reasonOf_4 r0 x.1 x.2.1 x.2.2) fuel ((3 : Int32), (0 : Int32), C)) (u3 fun v5 v6 C7 =>
  some (v5, C7))
def J_X9_control_117 (r0 : Nat) (v13 : Int32) (v14 : Int32) (C22 : Mem) (v26 : Int32) : Option ((Int32 × Int32 × Mem) ⊕ (Int32 × Int32 × Mem)) :=
  (if v26 = 0 then (
  nm (v14 + (1 : Int32)) fun v28 =>
  some (Sum.inl (v13, v28, C22))) else (
  (if v13 = (-9 : Int32) then (
  nm (v14 + (1 : Int32)) fun v30 =>
  some (Sum.inl (v14, v30, C22))) else (
  b2 (F_X9_at v14 C22) fun r31 C32 =>
  gi (r31 + (4 : Int32)) (alen r0) (
  b2 (F_X9_at v13 C32) fun r35 C36 =>
  gi (r35 + (4 : Int32)) (alen r0) (
  (if (C32 r0 ((r31 + (4 : Int32))).toNatClampNeg) < (C36 r0 ((r35 + (4 : Int32))).toNatClampNeg) then (
  nm (v14 + (1 : Int32)) fun v40 =>
  some (Sum.inl (v13, v40, C36))) else (
  nm (v14 + (1 : Int32)) fun v41 =>
  some (Sum.inl (v14, v41, C36))))))))))
def S_X9_control_90 (r0 : Nat) (v13 : Int32) (v14 : Int32) (C15 : Mem) : Option ((Int32 × Int32 × Mem) ⊕ (Int32 × Int32 × Mem)) :=
  (if (C15 30 4) ≤ v14 then (
  some (Sum.inr (v13, v14, C15))) else (
  b2 (F_X9_at v14 C15) fun r21 C22 =>
  gi (r21 + (2 : Int32)) (alen r0) (
  (if (C22 r0 ((r21 + (2 : Int32))).toNatClampNeg) = (2 : Int32) then (
  J_X9_control_117 r0 v13 v14 C22 (1 : Int32)) else (
  J_X9_control_117 r0 v13 v14 C22 (0 : Int32))))))
def J_X9_control_17 (r0 : Nat) (C : Mem) (v3 : Int32) : Option (Int32 × Mem) :=
  b2 (F_X9_meanOf r0 C) fun r4 C5 =>
  gi (7 : Int32) (alen r0) (
  nm (mu C5 r0 ((7 : Int32)).toNatClampNeg (0 : Int32)) fun C8 =>
  gi (1 : Int32) (alen r0) (
  (if (v3 - (C8 r0 ((1 : Int32)).toNatClampNeg)) ≤ r4 then (
  gi (1 : Int32) (alen r0) (
  (if r4 ≤ (v3 + (C8 r0 ((1 : Int32)).toNatClampNeg)) then (
  some (0, C8)) else (
  b1 (iter (fun x => S_X9_control_90 r0 x.1 x.2.1 x.2.2) fuel ((-9 : Int32), (0 : Int32), C8)) (u3 fun v17 v18 C19 =>
  (if v17 = (-9 : Int32) then (
  some (0, C19)) else (
  b2 (F_X9_at v17 C19) fun r43 C44 =>
  gi (r43 + (2 : Int32)) (alen r0) (
  nm (mu C44 r0 ((r43 + (2 : Int32))).toNatClampNeg (3 : Int32)) fun C47 =>
  some (0, C47))))))))) else (
  b2 (F_X9_nextOf r0 C8) fun r48 C49 =>
  (if r48 = (-9 : Int32) then (
  b2 (F_X9_reasonOf r0 C49) fun r55 C56 =>
  gi (7 : Int32) (alen r0) (
  nm (mu C56 r0 ((7 : Int32)).toNatClampNeg r55) fun C59 =>
  some (0, C59))) else (
  b2 (F_X9_startOn r0 r48 C49) fun r52 C53 =>
  some (0, C53)))))))
def F_X9_control (r0 : Nat) (C : Mem) : Option (Int32 × Mem) :=
  gi (8 : Int32) (alen r0) (
  (if (C r0 ((8 : Int32)).toNatClampNeg) = (1 : Int32) then (
  gi (3 : Int32) (alen r0) (
  J_X9_control_17 r0 C (C r0 ((3 : Int32)).toNatClampNeg))) else (
  gi (0 : Int32) (alen r0) (
  J_X9_control_17 r0 C (C r0 ((0 : Int32)).toNatClampNeg)))))
def S_X9_heat_13 (r0 : Nat) (v7 : Int32) (v8 : Int32) (C9 : Mem) : Option ((Int32 × Int32 × Mem) ⊕ (Int32 × Int32 × Mem)) :=
  (if (C9 30 5) ≤ v8 then (
  some (Sum.inr (v7, v8, C9))) else (
  gi ((22 : Int32) + v8) (alen r0) (
  gi ((22 : Int32) + v7) (alen r0) (
  (if (C9 r0 (((22 : Int32) + v7)).toNatClampNeg) ≤ (C9 r0 (((22 : Int32) + v8)).toNatClampNeg) then (
  nm (v8 + (1 : Int32)) fun v18 =>
  some (Sum.inl (v7, v18, C9))) else (
  nm (v8 + (1 : Int32)) fun v19 =>
  some (Sum.inl (v8, v19, C9))))))))
def J_X9_heat_91 (r0 : Nat) (v1 : Int32) (v11 : Int32) (C13 : Mem) (v22 : Int32) (v25 : Int32) : Option ((Int32 × Mem) ⊕ (Int32 × Mem)) :=
  gi ((22 : Int32) + v11) (alen r0) (
  nm (mu C13 r0 (((22 : Int32) + v11)).toNatClampNeg ((C13 r0 (((22 : Int32) + v11)).toNatClampNeg) + v25)) fun C27 =>
  gi (16 : Int32) (alen r0) (
  (if v22 = 0 then (
  gi (16 : Int32) (alen r0) (
  nm (mu C27 r0 ((16 : Int32)).toNatClampNeg ((C27 r0 ((16 : Int32)).toNatClampNeg) + (0 : Int32))) fun C31 =>
  gi (13 : Int32) (alen r0) (
  gi (13 : Int32) (alen r0) (
  nm (mu C31 r0 ((13 : Int32)).toNatClampNeg ((C31 r0 ((13 : Int32)).toNatClampNeg) + (1 : Int32))) fun C34 =>
  nm (v1 + (1 : Int32)) fun v35 =>
  some (Sum.inl (v35, C34)))))) else (
  gi (16 : Int32) (alen r0) (
  nm (mu C27 r0 ((16 : Int32)).toNatClampNeg ((C27 r0 ((16 : Int32)).toNatClampNeg) + (1 : Int32))) fun C37 =>
  gi (13 : Int32) (alen r0) (
  gi (13 : Int32) (alen r0) (
  nm (mu C37 r0 ((13 : Int32)).toNatClampNeg ((C37 r0 ((13 : Int32)).toNatClampNeg) + (1 : Int32))) fun C40 =>
  nm (v1 + (1 : Int32)) fun v41 =>
  some (Sum.inl (v41, C40)))))))))
def J_X9_heat_71 (r0 : Nat) (v1 : Int32) (v11 : Int32) (C13 : Mem) (v22 : Int32) : Option ((Int32 × Mem) ⊕ (Int32 × Mem)) :=
  gi ((22 : Int32) + v11) (alen r0) (
  (if v22 = 0 then (
  J_X9_heat_91 r0 v1 v11 C13 v22 (1 : Int32)) else (
  J_X9_heat_91 r0 v1 v11 C13 v22 (0 : Int32))))
def S_X9_heat_2 (r0 : Nat) (x1 : Int32) (v1 : Int32) (C2 : Mem) : Option ((Int32 × Mem) ⊕ (Int32 × Mem)) :=
  (if x1 ≤ v1 then (
  some (Sum.inr (v1, C2))) else (
  b1 (iter (fun x => S_X9_heat_13 r0 x.1 x.2.1 x.2.2) fuel ((0 : Int32), (1 : Int32), C2)) (u3 fun v11 v12 C13 =>
  gi ((22 : Int32) + v11) (alen r0) (
  (if (C13 r0 (((22 : Int32) + v11)).toNatClampNeg) = (99 : Int32) then (
  J_X9_heat_71 r0 v1 v11 C13 (1 : Int32)) else (
  J_X9_heat_71 r0 v1 v11 C13 (0 : Int32)))))))
def F_X9_heat (r0 : Nat) (x1 : Int32) (C : Mem) : Option (Int32 × Mem) :=
  b1 (iter (fun x => S_X9_heat_2 r0 x1 x.1 x.2) fuel ((0 : Int32), C)) (u2 fun v4 C5 =>
  some (0, C5))
def F_X9_work (r0 : Nat) (x1 : Int32) (C : Mem) : Option (Int32 × Mem) :=
  b2 (F_X9_at x1 C) fun r1 C2 =>
  gi (r1 + (2 : Int32)) (alen r0) (
  (if (C2 r0 ((r1 + (2 : Int32))).toNatClampNeg) = (1 : Int32) then (
  gi (r1 + (3 : Int32)) (alen r0) (
  gi (r1 + (3 : Int32)) (alen r0) (
  nm (mu C2 r0 ((r1 + (3 : Int32))).toNatClampNeg ((C2 r0 ((r1 + (3 : Int32))).toNatClampNeg) - (1 : Int32))) fun C10 =>
  gi (r1 + (3 : Int32)) (alen r0) (
  (if (C10 r0 ((r1 + (3 : Int32))).toNatClampNeg) = 0 then (
  gi (r1 + (2 : Int32)) (alen r0) (
  nm (mu C10 r0 ((r1 + (2 : Int32))).toNatClampNeg (2 : Int32)) fun C16 =>
  some (0, C16))) else (
  gi (r1 + (2 : Int32)) (alen r0) (
  nm (mu C10 r0 ((r1 + (2 : Int32))).toNatClampNeg (1 : Int32)) fun C14 =>
  some (0, C14)))))))) else (
  (if (C2 r0 ((r1 + (2 : Int32))).toNatClampNeg) = (2 : Int32) then (
  gi (r1 + (4 : Int32)) (alen r0) (
  gi (r1 + (4 : Int32)) (alen r0) (
  nm (mu C2 r0 ((r1 + (4 : Int32))).toNatClampNeg ((C2 r0 ((r1 + (4 : Int32))).toNatClampNeg) + (1 : Int32))) fun C19 =>
  gi (r1 + (6 : Int32)) (alen r0) (
  gi r1 (alen r0) (
  gi (r1 + (6 : Int32)) (alen r0) (
  nm (mu C19 r0 ((r1 + (6 : Int32))).toNatClampNeg ((C19 r0 ((r1 + (6 : Int32))).toNatClampNeg) + (C19 r0 (r1).toNatClampNeg))) fun C23 =>
  gi r1 (alen r0) (
  b2 (F_X9_heat r0 (C23 r0 (r1).toNatClampNeg) C23) fun r25 C26 =>
  some (0, C26)))))))) else (
  (if (C2 r0 ((r1 + (2 : Int32))).toNatClampNeg) = (3 : Int32) then (
  gi (r1 + (6 : Int32)) (alen r0) (
  gi (r1 + (6 : Int32)) (alen r0) (
  nm (mu C2 r0 ((r1 + (6 : Int32))).toNatClampNeg ((C2 r0 ((r1 + (6 : Int32))).toNatClampNeg) + (1 : Int32))) fun C30 =>
  some (0, C30)))) else (
  some (0, C2))))))))
def J_X9_settle_37 (r0 : Nat) (v1 : Int32) (C2 : Mem) (v9 : Int32) : Option ((Int32 × Mem) ⊕ (Int32 × Mem)) :=
  gi ((22 : Int32) + v1) (alen r0) (
  gi ((22 : Int32) + v1) (alen r0) (
  nm (mu C2 r0 (((22 : Int32) + v1)).toNatClampNeg ((C2 r0 (((22 : Int32) + v1)).toNatClampNeg) - v9)) fun C12 =>
  gi (16 : Int32) (alen r0) (
  gi (16 : Int32) (alen r0) (
  nm (mu C12 r0 ((16 : Int32)).toNatClampNeg ((C12 r0 ((16 : Int32)).toNatClampNeg) + v9)) fun C15 =>
  nm (v1 + (1 : Int32)) fun v16 =>
  some (Sum.inl (v16, C15))))))
def S_X9_settle_2 (r0 : Nat) (v1 : Int32) (C2 : Mem) : Option ((Int32 × Mem) ⊕ (Int32 × Mem)) :=
  (if (C2 30 5) ≤ v1 then (
  some (Sum.inr (v1, C2))) else (
  gi ((22 : Int32) + v1) (alen r0) (
  (if (C2 r0 (((22 : Int32) + v1)).toNatClampNeg) ≤ (20 : Int32) then (
  J_X9_settle_37 r0 v1 C2 (0 : Int32)) else (
  gi ((22 : Int32) + v1) (alen r0) (
  J_X9_settle_37 r0 v1 C2 (((C2 r0 (((22 : Int32) + v1)).toNatClampNeg) - (20 : Int32)) / (20 : Int32))))))))
def S_X9_settle_82 (r0 : Nat) (v25 : Int32) (v26 : Int32) (C27 : Mem) : Option ((Int32 × Mem) ⊕ (Int32 × Mem)) :=
  (if v26 ≤ 0 then (
  some (Sum.inr (v26, C27))) else (
  gi (((22 : Int32) + v26) - (1 : Int32)) (alen r0) (
  (if (C27 r0 ((((22 : Int32) + v26) - (1 : Int32))).toNatClampNeg) ≤ v25 then (
  some (Sum.inr (v26, C27))) else (
  gi (((22 : Int32) + v26) - (1 : Int32)) (alen r0) (
  gi ((22 : Int32) + v26) (alen r0) (
  nm (mu C27 r0 (((22 : Int32) + v26)).toNatClampNeg (C27 r0 ((((22 : Int32) + v26) - (1 : Int32))).toNatClampNeg)) fun C36 =>
  nm (v26 + (-1 : Int32)) fun v37 =>
  some (Sum.inl (v37, C36)))))))))
def S_X9_settle_64 (r0 : Nat) (v18 : Int32) (C19 : Mem) : Option ((Int32 × Mem) ⊕ (Int32 × Mem)) :=
  (if (C19 30 5) ≤ v18 then (
  some (Sum.inr (v18, C19))) else (
  gi ((22 : Int32) + v18) (alen r0) (
  nm (C19 r0 (((22 : Int32) + v18)).toNatClampNeg) fun v25 =>
  b1 (iter (fun x => S_X9_settle_82 r0 v25 x.1 x.2) fuel (v18, C19)) (u2 fun v29 C30 =>
  gi ((22 : Int32) + v29) (alen r0) (
  nm (mu C30 r0 (((22 : Int32) + v29)).toNatClampNeg v25) fun C39 =>
  nm (v18 + (1 : Int32)) fun v40 =>
  some (Sum.inl (v40, C39)))))))
def F_X9_settle (r0 : Nat) (C : Mem) : Option (Int32 × Mem) :=
  b1 (iter (fun x => S_X9_settle_2 r0 x.1 x.2) fuel ((0 : Int32), C)) (u2 fun v4 C5 =>
  b1 (iter (fun x => S_X9_settle_64 r0 x.1 x.2) fuel ((1 : Int32), C5)) (u2 fun v21 C22 =>
  some (0, C22)))
def J_X9_watch_105 (r0 : Nat) (v15 : Int32) (v17 : Int32) (C22 : Mem) (v25 : Int32) : Option (Int32 × Mem) :=
  gi (12 : Int32) (alen r0) (
  nm (mu C22 r0 ((12 : Int32)).toNatClampNeg ((C22 r0 ((12 : Int32)).toNatClampNeg) + v25)) fun C27 =>
  (if v15 = 0 then (
  (if v17 = 0 then (
  some (0, C27)) else (
  gi (8 : Int32) (alen r0) (
  nm (mu C27 r0 ((8 : Int32)).toNatClampNeg (0 : Int32)) fun C37 =>
  gi (9 : Int32) (alen r0) (
  nm (mu C37 r0 ((9 : Int32)).toNatClampNeg (0 : Int32)) fun C39 =>
  gi (10 : Int32) (alen r0) (
  nm (mu C39 r0 ((10 : Int32)).toNatClampNeg (0 : Int32)) fun C41 =>
  some (0, C41))))))) else (
  gi (8 : Int32) (alen r0) (
  nm (mu C27 r0 ((8 : Int32)).toNatClampNeg (0 : Int32)) fun C30 =>
  gi (9 : Int32) (alen r0) (
  nm (mu C30 r0 ((9 : Int32)).toNatClampNeg (0 : Int32)) fun C32 =>
  gi (10 : Int32) (alen r0) (
  nm (mu C32 r0 ((10 : Int32)).toNatClampNeg (0 : Int32)) fun C34 =>
  some (0, C34)))))))
def J_X9_watch_89 (r0 : Nat) (C11 : Mem) (v15 : Int32) (v17 : Int32) (v20 : Int32) : Option (Int32 × Mem) :=
  gi (11 : Int32) (alen r0) (
  nm (mu C11 r0 ((11 : Int32)).toNatClampNeg ((C11 r0 ((11 : Int32)).toNatClampNeg) + v20)) fun C22 =>
  gi (12 : Int32) (alen r0) (
  (if v17 = 0 then (
  J_X9_watch_105 r0 v15 v17 C22 (0 : Int32)) else (
  J_X9_watch_105 r0 v15 v17 C22 (1 : Int32)))))
def J_X9_watch_74 (r0 : Nat) (C11 : Mem) (v15 : Int32) (v17 : Int32) : Option (Int32 × Mem) :=
  gi (11 : Int32) (alen r0) (
  (if v15 = 0 then (
  J_X9_watch_89 r0 C11 v15 v17 (0 : Int32)) else (
  J_X9_watch_89 r0 C11 v15 v17 (1 : Int32))))
def J_X9_watch_55 (r0 : Nat) (C11 : Mem) (v15 : Int32) : Option (Int32 × Mem) :=
  (if v15 = 0 then (
  gi (10 : Int32) (alen r0) (
  (if (C11 r0 ((10 : Int32)).toNatClampNeg) = (12 : Int32) then (
  J_X9_watch_74 r0 C11 v15 (1 : Int32)) else (
  J_X9_watch_74 r0 C11 v15 (0 : Int32))))) else (
  J_X9_watch_74 r0 C11 v15 (0 : Int32)))
def J_X9_watch_39 (r0 : Nat) (C5 : Mem) (v9 : Int32) : Option (Int32 × Mem) :=
  gi (9 : Int32) (alen r0) (
  nm (mu C5 r0 ((9 : Int32)).toNatClampNeg v9) fun C11 =>
  gi (9 : Int32) (alen r0) (
  gi (4 : Int32) (alen r0) (
  (if (C11 r0 ((9 : Int32)).toNatClampNeg) < (C11 r0 ((4 : Int32)).toNatClampNeg) then (
  J_X9_watch_55 r0 C11 (0 : Int32)) else (
  J_X9_watch_55 r0 C11 (1 : Int32))))))
def F_X9_watch (r0 : Nat) (C : Mem) : Option (Int32 × Mem) :=
  gi (8 : Int32) (alen r0) (
  (if (C r0 ((8 : Int32)).toNatClampNeg) = 0 then (
  some (0, C)) else (
  gi (10 : Int32) (alen r0) (
  gi (10 : Int32) (alen r0) (
  nm (mu C r0 ((10 : Int32)).toNatClampNeg ((C r0 ((10 : Int32)).toNatClampNeg) + (1 : Int32))) fun C5 =>
  gi (22 : Int32) (alen r0) (
  gi (3 : Int32) (alen r0) (
  (if (C5 r0 ((22 : Int32)).toNatClampNeg) < (C5 r0 ((3 : Int32)).toNatClampNeg) then (
  J_X9_watch_39 r0 C5 (0 : Int32)) else (
  gi (9 : Int32) (alen r0) (
  J_X9_watch_39 r0 C5 ((C5 r0 ((9 : Int32)).toNatClampNeg) + (1 : Int32))))))))))))
def S_X9_tickOn_32 (r0 : Nat) (v11 : Int32) (C12 : Mem) : Option ((Int32 × Mem) ⊕ (Int32 × Mem)) :=
  (if (C12 30 4) ≤ v11 then (
  some (Sum.inr (v11, C12))) else (
  b2 (F_X9_work r0 v11 C12) fun r17 C18 =>
  nm (v11 + (1 : Int32)) fun v20 =>
  some (Sum.inl (v20, C18))))
def J_X9_tickOn_25 (r0 : Nat) (C7 : Mem) : Option (Int32 × Mem) :=
  b2 (F_X9_control r0 C7) fun r8 C9 =>
  b1 (iter (fun x => S_X9_tickOn_32 r0 x.1 x.2) fuel ((0 : Int32), C9)) (u2 fun v14 C15 =>
  b2 (F_X9_settle r0 C15) fun r21 C22 =>
  b2 (F_X9_watch r0 C22) fun r24 C25 =>
  gi (6 : Int32) (alen r0) (
  gi (6 : Int32) (alen r0) (
  nm (mu C25 r0 ((6 : Int32)).toNatClampNeg ((C25 r0 ((6 : Int32)).toNatClampNeg) + (1 : Int32))) fun C29 =>
  some (0, C29))))
def F_X9_tickOn (r0 : Nat) (x1 : Int32) (C : Mem) : Option (Int32 × Mem) :=
  b2 (F_X9_drawOn r0 x1 C) fun r1 C2 =>
  gi (6 : Int32) (alen r0) (
  gi (5 : Int32) (alen r0) (
  (if ((C2 r0 ((6 : Int32)).toNatClampNeg) - (C2 r0 ((6 : Int32)).toNatClampNeg) / (24 : Int32) * (24 : Int32)) = (C2 r0 ((5 : Int32)).toNatClampNeg) then (
  gi (8 : Int32) (alen r0) (
  nm (mu C2 r0 ((8 : Int32)).toNatClampNeg (1 : Int32)) fun C31 =>
  J_X9_tickOn_25 r0 C31)) else (
  J_X9_tickOn_25 r0 C2))))
def S_X9_ticksOn_3 (r0 : Nat) (x1 : Int32) (x2 : Int32) (v1 : Int32) (C2 : Mem) : Option ((Int32 × Mem) ⊕ (Int32 × Mem)) :=
  (if x1 ≤ v1 then (
  some (Sum.inr (v1, C2))) else (
  b2 (F_X9_tickOn r0 x2 C2) fun r7 C8 =>
  nm (v1 + (1 : Int32)) fun v10 =>
  some (Sum.inl (v10, C8))))
def F_X9_ticksOn (r0 : Nat) (x1 : Int32) (x2 : Int32) (C : Mem) : Option (Int32 × Mem) :=
  b1 (iter (fun x => S_X9_ticksOn_3 r0 x1 x2 x.1 x.2) fuel ((0 : Int32), C)) (u2 fun v4 C5 =>
  some (0, C5))
def S_X9_flueOn_21 (r0 : Nat) (x1 : Int32) (x2 : Int32) (v5 : Int32) (v6 : Int32) (C7 : Mem) : Option ((Int32 × Int32 × Mem) ⊕ (Int32 × Int32 × Mem)) :=
  (if (C7 30 4) ≤ v6 then (
  some (Sum.inr (v5, v6, C7))) else (
  (if x2 = 0 then (
  b2 (F_X9_at v6 C7) fun r14 C15 =>
  gi (r14 + (2 : Int32)) (alen r0) (
  nm (C15 r0 ((r14 + (2 : Int32))).toNatClampNeg) fun v18 =>
  b2 (F_X9_at v6 C15) fun r19 C20 =>
  gi (r19 + (1 : Int32)) (alen r0) (
  (if (C20 r0 ((r19 + (1 : Int32))).toNatClampNeg) = x1 then (
  b2 (F_X9_works v18 C20) fun r25 C26 =>
  (if r25 = 0 then (
  (if v18 = (3 : Int32) then (
  b2 (F_X9_at v6 C26) fun r43 C44 =>
  gi (r43 + (2 : Int32)) (alen r0) (
  nm (mu C44 r0 ((r43 + (2 : Int32))).toNatClampNeg (0 : Int32)) fun C47 =>
  b2 (F_X9_at v6 C47) fun r48 C49 =>
  gi (r48 + (3 : Int32)) (alen r0) (
  nm (mu C49 r0 ((r48 + (3 : Int32))).toNatClampNeg (0 : Int32)) fun C52 =>
  nm (v5 + (1 : Int32)) fun v53 =>
  nm (v6 + (1 : Int32)) fun v54 =>
  some (Sum.inl (v53, v54, C52))))) else (
  nm (v6 + (1 : Int32)) fun v42 =>
  some (Sum.inl (v5, v42, C26))))) else (
  b2 (F_X9_at v6 C26) fun r29 C30 =>
  gi (r29 + (2 : Int32)) (alen r0) (
  nm (mu C30 r0 ((r29 + (2 : Int32))).toNatClampNeg (0 : Int32)) fun C33 =>
  b2 (F_X9_at v6 C33) fun r34 C35 =>
  gi (r34 + (3 : Int32)) (alen r0) (
  nm (mu C35 r0 ((r34 + (3 : Int32))).toNatClampNeg (0 : Int32)) fun C38 =>
  nm (v5 + (1 : Int32)) fun v39 =>
  nm (v6 + (1 : Int32)) fun v40 =>
  some (Sum.inl (v39, v40, C38))))))) else (
  nm (v6 + (1 : Int32)) fun v24 =>
  some (Sum.inl (v5, v24, C20))))))) else (
  some (Sum.inr (v5, v6, C7))))))
def J_X9_flueOn_14 (r0 : Nat) (x1 : Int32) (x2 : Int32) (C : Mem) (v2 : Int32) : Option (Int32 × Mem) :=
  gi ((20 : Int32) + x1) (alen r0) (
  nm (mu C r0 (((20 : Int32) + x1)).toNatClampNeg v2) fun C4 =>
  b1 (iter (fun x => S_X9_flueOn_21 r0 x1 x2 x.1 x.2.1 x.2.2) fuel ((0 : Int32), (0 : Int32), C4)) (u3 fun v9 v10 C11 =>
  some (v9, C11)))
def F_X9_flueOn (r0 : Nat) (x1 : Int32) (x2 : Int32) (C : Mem) : Option (Int32 × Mem) :=
  (if x2 = 0 then (
  J_X9_flueOn_14 r0 x1 x2 C (0 : Int32)) else (
  J_X9_flueOn_14 r0 x1 x2 C (1 : Int32)))
def F_X9_put (r0 : Nat) (x1 : Int32) (x2 : Int32) (C : Mem) : Option (Int32 × Mem) :=
  b2 (F_X9_at x1 C) fun r1 C2 =>
  gi (r1 + (2 : Int32)) (alen r0) (
  nm (mu C2 r0 ((r1 + (2 : Int32))).toNatClampNeg x2) fun C5 =>
  b2 (F_X9_at x1 C5) fun r6 C7 =>
  gi (r6 + (3 : Int32)) (alen r0) (
  nm (mu C7 r0 ((r6 + (3 : Int32))).toNatClampNeg (0 : Int32)) fun C10 =>
  some (0, C10)))
def J_X9_append_31 (x0 : Int32) (C2 : Mem) (v5 : Int32) : Option (Int32 × Mem) :=
  b2 (F_X9_refused v5 C2) fun r6 C7 =>
  (if r6 = 0 then (
  gi (C7 30 2) (alen 31) (
  nm (mu C7 31 ((C7 30 2)).toNatClampNeg x0) fun C11 =>
  nm (mu C11 30 2 ((C11 30 2) + (1 : Int32))) fun C12 =>
  some ((C12 30 2), C12))) else (
  some ((0 : Int32), C7)))
def F_X9_append (x0 : Int32) (C : Mem) : Option (Int32 × Mem) :=
  b2 (F_X9_in ((x0).toInt64) (0 : Int64) (255 : Int64) C) fun r1 C2 =>
  (if r1 = 0 then (
  J_X9_append_31 x0 C2 (1 : Int32)) else (
  (if (C2 30 2) = (60 : Int32) then (
  J_X9_append_31 x0 C2 (2 : Int32)) else (
  J_X9_append_31 x0 C2 (0 : Int32)))))
def F_X9_clearText  (C : Mem) : Option (Int32 × Mem) :=
  nm (mu C 30 0 (0 : Int32)) fun C1 =>
  nm (C1 30 2) fun v2 =>
  nm (mu C1 30 2 (0 : Int32)) fun C3 =>
  some (v2, C3)
def J_X9_eat_29 (C : Mem) (v2 : Int32) : Option (Int32 × Mem) :=
  (if v2 = 0 then (
  nm (mu C 30 3 ((C 30 3) + (0 : Int32))) fun C4 =>
  gb v2 (
  some (v2, C4))) else (
  nm (mu C 30 3 ((C 30 3) + (1 : Int32))) fun C6 =>
  gb v2 (
  some (v2, C6))))
def F_X9_eat (x0 : Int32) (C : Mem) : Option (Int32 × Mem) :=
  (if (C 30 2) ≤ (C 30 3) then (
  J_X9_eat_29 C (0 : Int32)) else (
  gi (C 30 3) (alen 31) (
  (if (C 31 ((C 30 3)).toNatClampNeg) = x0 then (
  J_X9_eat_29 C (1 : Int32)) else (
  J_X9_eat_29 C (0 : Int32))))))
def J_X9_digit_28 (x0 : Int32) (x1 : Int32) (C : Mem) (v2 : Int32) : Option (Int32 × Mem) :=
  b2 (F_X9_in ((v2).toInt64) ((x0).toInt64) ((x1).toInt64) C) fun r3 C4 =>
  (if r3 = 0 then (
  nm (mu C4 30 3 ((C4 30 3) + (0 : Int32))) fun C7 =>
  (if r3 = 0 then (
  some ((-9 : Int32), C7)) else (
  some (v2, C7)))) else (
  nm (mu C4 30 3 ((C4 30 3) + (1 : Int32))) fun C9 =>
  (if r3 = 0 then (
  some ((-9 : Int32), C9)) else (
  some (v2, C9)))))
def F_X9_digit (x0 : Int32) (x1 : Int32) (C : Mem) : Option (Int32 × Mem) :=
  (if (C 30 2) ≤ (C 30 3) then (
  J_X9_digit_28 x0 x1 C (-9 : Int32)) else (
  gi (C 30 3) (alen 31) (
  J_X9_digit_28 x0 x1 C ((C 31 ((C 30 3)).toNatClampNeg) - (48 : Int32)))))
def J_X9_two_56 (r1 : Int32) (C2 : Mem) (v6 : Int32) (v8 : Int32) : Option (Int32 × Mem) :=
  b2 (F_X9_digit v6 v8 C2) fun r9 C10 =>
  (if r9 = (-9 : Int32) then (
  some ((-9 : Int32), C10)) else (
  some ((((10 : Int32) * r1) + r9), C10)))
def J_X9_two_39 (x1 : Int32) (r1 : Int32) (C2 : Mem) (v6 : Int32) : Option (Int32 × Mem) :=
  (if r1 = (x1 / (10 : Int32)) then (
  J_X9_two_56 r1 C2 v6 (x1 - x1 / (10 : Int32) * (10 : Int32))) else (
  J_X9_two_56 r1 C2 v6 (9 : Int32)))
def F_X9_two (x0 : Int32) (x1 : Int32) (C : Mem) : Option (Int32 × Mem) :=
  b2 (F_X9_digit (x0 / (10 : Int32)) (x1 / (10 : Int32)) C) fun r1 C2 =>
  (if r1 = (-9 : Int32) then (
  some ((-9 : Int32), C2)) else (
  (if r1 = (x0 / (10 : Int32)) then (
  J_X9_two_39 x1 r1 C2 (x0 - x0 / (10 : Int32) * (10 : Int32))) else (
  J_X9_two_39 x1 r1 C2 (0 : Int32)))))
def J_X9_readBoilers_72 (r10 : Int32) (v20 : Int32) (C21 : Mem) : Option ((Mem) ⊕ ((Mem) ⊕ (Int32 × Mem))) :=
  gi (r10 + (1 : Int32)) (alen 32) (
  nm (mu C21 32 ((r10 + (1 : Int32))).toNatClampNeg v20) fun C23 =>
  gi (r10 + (1 : Int32)) (alen 32) (
  (if (C23 32 ((r10 + (1 : Int32))).toNatClampNeg) = (-9 : Int32) then (
  some (Sum.inr (Sum.inr ((0 : Int32), C23)))) else (
  nm (mu C23 30 6 ((C23 30 6) + (1 : Int32))) fun C26 =>
  some (Sum.inl C26)))))
def S_X9_readBoilers_5   (C2 : Mem) : Option ((Mem) ⊕ ((Mem) ⊕ (Int32 × Mem))) :=
  (if (5 : Int32) ≤ (C2 30 6) then (
  some (Sum.inr (Sum.inl C2))) else (
  b2 (F_X9_eat (98 : Int32) C2) fun r6 C7 =>
  (if r6 = 0 then (
  some (Sum.inr (Sum.inl C7))) else (
  b2 (F_X9_at (C7 30 6) C7) fun r10 C11 =>
  b2 (F_X9_two (1 : Int32) (30 : Int32) C11) fun r13 C14 =>
  gi r10 (alen 32) (
  nm (mu C14 32 (r10).toNatClampNeg r13) fun C17 =>
  gi r10 (alen 32) (
  (if (C17 32 (r10).toNatClampNeg) = (-9 : Int32) then (
  J_X9_readBoilers_72 r10 (-9 : Int32) C17) else (
  b2 (F_X9_digit (0 : Int32) (1 : Int32) C17) fun r27 C28 =>
  J_X9_readBoilers_72 r10 r27 C28))))))))
def F_X9_readBoilers  (C : Mem) : Option (Int32 × Mem) :=
  nm (mu C 30 6 (0 : Int32)) fun C1 =>
  b1 (iter (fun x => S_X9_readBoilers_5  x) fuel C1) (Sum.elim (fun C4 =>
  (if (C4 30 6) ≤ 0 then (
  some ((0 : Int32), C4)) else (
  some ((1 : Int32), C4)))) fun y => some y)
def S_X9_readAll_127  (v35 : Int32) (v36 : Int32) (C37 : Mem) : Option ((Int32 × Int32 × Mem) ⊕ ((Int32 × Int32 × Mem) ⊕ (Int32 × Mem))) :=
  (if (C37 30 7) ≤ v36 then (
  some (Sum.inr (Sum.inl (v35, v36, C37)))) else (
  b2 (F_X9_two v35 (99 : Int32) C37) fun r43 C44 =>
  (if r43 = (-9 : Int32) then (
  some (Sum.inr (Sum.inr ((0 : Int32), C44)))) else (
  gi ((22 : Int32) + v36) (alen 32) (
  nm (mu C44 32 (((22 : Int32) + v36)).toNatClampNeg r43) fun C48 =>
  nm (v36 + (1 : Int32)) fun v49 =>
  some (Sum.inl (r43, v49, C48)))))))
def J_X9_readAll_92  (v20 : Int32) (C21 : Mem) : Option (Int32 × Mem) :=
  gi (19 : Int32) (alen 32) (
  nm (mu C21 32 ((19 : Int32)).toNatClampNeg v20) fun C23 =>
  gi (19 : Int32) (alen 32) (
  (if (C23 32 ((19 : Int32)).toNatClampNeg) = (-9 : Int32) then (
  some ((0 : Int32), C23)) else (
  b2 (F_X9_readBoilers  C23) fun r26 C27 =>
  (if r26 = 0 then (
  some ((0 : Int32), C27)) else (
  b2 (F_X9_eat (116 : Int32) C27) fun r30 C31 =>
  (if r30 = 0 then (
  (if (C31 30 3) = (C31 30 2) then (
  some ((1 : Int32), C31)) else (
  some ((0 : Int32), C31)))) else (
  b1 (iter (fun x => S_X9_readAll_127  x.1 x.2.1 x.2.2) fuel ((0 : Int32), (0 : Int32), C31)) (Sum.elim (u3 fun v39 v40 C41 =>
  (if (C41 30 3) = (C41 30 2) then (
  some ((1 : Int32), C41)) else (
  some ((0 : Int32), C41)))) fun y => some y)))))))))
def J_X9_readAll_61  (v14 : Int32) (C15 : Mem) : Option (Int32 × Mem) :=
  gi (18 : Int32) (alen 32) (
  nm (mu C15 32 ((18 : Int32)).toNatClampNeg v14) fun C17 =>
  gi (18 : Int32) (alen 32) (
  (if (C17 32 ((18 : Int32)).toNatClampNeg) = (-9 : Int32) then (
  J_X9_readAll_92  (-9 : Int32) C17) else (
  b2 (F_X9_two (0 : Int32) (99 : Int32) C17) fun r51 C52 =>
  J_X9_readAll_92  r51 C52))))
def F_X9_readAll  (C : Mem) : Option (Int32 × Mem) :=
  nm (mu C 30 3 (0 : Int32)) fun C1 =>
  b2 (F_X9_begin 32 C1) fun r2 C3 =>
  b2 (F_X9_eat (72 : Int32) C3) fun r5 C6 =>
  (if r5 = 0 then (
  some ((0 : Int32), C6)) else (
  b2 (F_X9_digit (2 : Int32) (8 : Int32) C6) fun r9 C10 =>
  nm (mu C10 30 7 r9) fun C12 =>
  (if (C12 30 7) = (-9 : Int32) then (
  J_X9_readAll_61  (-9 : Int32) C12) else (
  b2 (F_X9_two (0 : Int32) (99 : Int32) C12) fun r54 C55 =>
  J_X9_readAll_61  r54 C55))))
def F_X9_errorPosition  (C : Mem) : Option (Int32 × Mem) :=
  nm (mu C 30 0 (0 : Int32)) fun C1 =>
  b2 (F_X9_readAll  C1) fun r2 C3 =>
  (if r2 = 0 then (
  some ((C3 30 3), C3)) else (
  some ((-9 : Int32), C3)))
def J_X9_load_13 (C2 : Mem) (v5 : Int32) : Option (Int32 × Mem) :=
  b2 (F_X9_refused v5 C2) fun r6 C7 =>
  (if r6 = 0 then (
  nm (mu C7 30 4 (C7 30 6)) fun C10 =>
  nm (mu C10 30 5 (C10 30 7)) fun C11 =>
  b2 (F_X9_copyPage 32 (0 : Int32) 33 (0 : Int32) C11) fun r12 C13 =>
  nm (mu C13 30 12 (0 : Int32)) fun C15 =>
  nm (mu C15 37 ((0 : Int32)).toNatClampNeg (0 : Int32)) fun C16 =>
  nm (mu C16 37 ((1 : Int32)).toNatClampNeg (0 : Int32)) fun C17 =>
  some ((C17 30 4), C17)) else (
  some ((0 : Int32), C7)))
def F_X9_load  (C : Mem) : Option (Int32 × Mem) :=
  b2 (F_X9_readAll  C) fun r1 C2 =>
  (if r1 = 0 then (
  J_X9_load_13 C2 (1 : Int32)) else (
  J_X9_load_13 C2 (0 : Int32)))
def F_X9_isBoiler (x0 : Int32) (C : Mem) : Option (Int32 × Mem) :=
  b2 (F_X9_in ((x0).toInt64) (0 : Int64) ((((C 30 4) - (1 : Int32))).toInt64) C) fun r1 C2 =>
  gb r1 (
  some (r1, C2))
def J_X9_about_18 (x0 : Int32) (C2 : Mem) (v5 : Int32) : Option (Int32 × Mem) :=
  b2 (F_X9_refused v5 C2) fun r6 C7 =>
  (if r6 = 0 then (
  (if x0 = (6 : Int32) then (
  some ((C7 30 4), C7)) else (
  (if x0 = (7 : Int32) then (
  some ((C7 30 5), C7)) else (
  (if x0 = (8 : Int32) then (
  gi (6 : Int32) (alen 33) (
  some ((C7 33 ((6 : Int32)).toNatClampNeg), C7))) else (
  (if x0 = (9 : Int32) then (
  b2 (F_X9_meanOf 33 C7) fun r22 C23 =>
  some (r22, C23)) else (
  (if x0 = (10 : Int32) then (
  (if (6 : Int32) ≤ x0 then (
  gi (((7 : Int32) + x0) - (10 : Int32)) (alen 33) (
  some ((C7 33 ((((7 : Int32) + x0) - (10 : Int32))).toNatClampNeg), C7))) else (
  gi x0 (alen 33) (
  some ((C7 33 (x0).toNatClampNeg), C7))))) else (
  (if x0 = (11 : Int32) then (
  (if (6 : Int32) ≤ x0 then (
  gi (((7 : Int32) + x0) - (10 : Int32)) (alen 33) (
  some ((C7 33 ((((7 : Int32) + x0) - (10 : Int32))).toNatClampNeg), C7))) else (
  gi x0 (alen 33) (
  some ((C7 33 (x0).toNatClampNeg), C7))))) else (
  (if x0 = (12 : Int32) then (
  (if (6 : Int32) ≤ x0 then (
  gi (((7 : Int32) + x0) - (10 : Int32)) (alen 33) (
  some ((C7 33 ((((7 : Int32) + x0) - (10 : Int32))).toNatClampNeg), C7))) else (
  gi x0 (alen 33) (
  some ((C7 33 (x0).toNatClampNeg), C7))))) else (
  (if x0 = (13 : Int32) then (
  (if (6 : Int32) ≤ x0 then (
  gi (((7 : Int32) + x0) - (10 : Int32)) (alen 33) (
  some ((C7 33 ((((7 : Int32) + x0) - (10 : Int32))).toNatClampNeg), C7))) else (
  gi x0 (alen 33) (
  some ((C7 33 (x0).toNatClampNeg), C7))))) else (
  (if x0 = (14 : Int32) then (
  (if (6 : Int32) ≤ x0 then (
  gi (((7 : Int32) + x0) - (10 : Int32)) (alen 33) (
  some ((C7 33 ((((7 : Int32) + x0) - (10 : Int32))).toNatClampNeg), C7))) else (
  gi x0 (alen 33) (
  some ((C7 33 (x0).toNatClampNeg), C7))))) else (
  (if x0 = (15 : Int32) then (
  (if (6 : Int32) ≤ x0 then (
  gi (((7 : Int32) + x0) - (10 : Int32)) (alen 33) (
  some ((C7 33 ((((7 : Int32) + x0) - (10 : Int32))).toNatClampNeg), C7))) else (
  gi x0 (alen 33) (
  some ((C7 33 (x0).toNatClampNeg), C7))))) else (
  (if x0 = (16 : Int32) then (
  b2 (F_X9_count 33 (2 : Int32) C7) fun r43 C44 =>
  some (r43, C44)) else (
  (if (6 : Int32) ≤ x0 then (
  gi (((7 : Int32) + x0) - (10 : Int32)) (alen 33) (
  some ((C7 33 ((((7 : Int32) + x0) - (10 : Int32))).toNatClampNeg), C7))) else (
  gi x0 (alen 33) (
  some ((C7 33 (x0).toNatClampNeg), C7))))))))))))))))))))))))))) else (
  some ((0 : Int32), C7)))
def F_X9_about (x0 : Int32) (C : Mem) : Option (Int32 × Mem) :=
  b2 (F_X9_in ((x0).toInt64) (0 : Int64) (16 : Int64) C) fun r1 C2 =>
  (if r1 = 0 then (
  J_X9_about_18 x0 C2 (1 : Int32)) else (
  J_X9_about_18 x0 C2 (0 : Int32)))
def J_X9_boiler_30 (x0 : Int32) (x1 : Int32) (v5 : Int32) (C6 : Mem) : Option (Int32 × Mem) :=
  b2 (F_X9_refused v5 C6) fun r7 C8 =>
  (if r7 = 0 then (
  (if (7 : Int32) ≤ x1 then (
  b2 (F_X9_canStart 33 x0 C8) fun r12 C13 =>
  (if r12 = 0 then (
  some ((0 : Int32), C13)) else (
  some ((1 : Int32), C13)))) else (
  b2 (F_X9_at x0 C8) fun r16 C17 =>
  gi (r16 + x1) (alen 33) (
  some ((C17 33 ((r16 + x1)).toNatClampNeg), C17))))) else (
  some ((0 : Int32), C8)))
def F_X9_boiler (x0 : Int32) (x1 : Int32) (C : Mem) : Option (Int32 × Mem) :=
  b2 (F_X9_isBoiler x0 C) fun r1 C2 =>
  (if r1 = 0 then (
  J_X9_boiler_30 x0 x1 (1 : Int32) C2) else (
  b2 (F_X9_in ((x1).toInt64) (0 : Int64) (7 : Int64) C2) fun r20 C21 =>
  (if r20 = 0 then (
  J_X9_boiler_30 x0 x1 (2 : Int32) C21) else (
  J_X9_boiler_30 x0 x1 (0 : Int32) C21))))
def S_X9_flue_45 (x0 : Int32) (v11 : Int32) (v12 : Int32) (C13 : Mem) : Option ((Int32 × Int32 × Mem) ⊕ (Int32 × Int32 × Mem)) :=
  (if (C13 30 4) ≤ v12 then (
  some (Sum.inr (v11, v12, C13))) else (
  b2 (F_X9_at v12 C13) fun r19 C20 =>
  gi (r19 + (1 : Int32)) (alen 33) (
  (if (C20 33 ((r19 + (1 : Int32))).toNatClampNeg) = x0 then (
  nm (v11 + (1 : Int32)) fun v26 =>
  nm (v12 + (1 : Int32)) fun v27 =>
  some (Sum.inl (v26, v27, C20))) else (
  nm (v11 + (0 : Int32)) fun v24 =>
  nm (v12 + (1 : Int32)) fun v25 =>
  some (Sum.inl (v24, v25, C20)))))))
def J_X9_flue_32 (x0 : Int32) (x1 : Int32) (v5 : Int32) (C6 : Mem) : Option (Int32 × Mem) :=
  b2 (F_X9_refused v5 C6) fun r7 C8 =>
  (if r7 = 0 then (
  b1 (iter (fun x => S_X9_flue_45 x0 x.1 x.2.1 x.2.2) fuel ((0 : Int32), (0 : Int32), C8)) (u3 fun v15 v16 C17 =>
  (if x1 = 0 then (
  gi ((18 : Int32) + x0) (alen 33) (
  some ((C17 33 (((18 : Int32) + x0)).toNatClampNeg), C17))) else (
  (if x1 = (1 : Int32) then (
  b2 (F_X9_use 33 x0 C17) fun r32 C33 =>
  some (r32, C33)) else (
  (if x1 = (2 : Int32) then (
  gi ((20 : Int32) + x0) (alen 33) (
  some ((C17 33 (((20 : Int32) + x0)).toNatClampNeg), C17))) else (
  some (v15, C17))))))))) else (
  some ((0 : Int32), C8)))
def F_X9_flue (x0 : Int32) (x1 : Int32) (C : Mem) : Option (Int32 × Mem) :=
  b2 (F_X9_in ((x0).toInt64) (0 : Int64) (1 : Int64) C) fun r1 C2 =>
  (if r1 = 0 then (
  J_X9_flue_32 x0 x1 (1 : Int32) C2) else (
  b2 (F_X9_in ((x1).toInt64) (0 : Int64) (3 : Int64) C2) fun r36 C37 =>
  (if r36 = 0 then (
  J_X9_flue_32 x0 x1 (2 : Int32) C37) else (
  J_X9_flue_32 x0 x1 (0 : Int32) C37))))
def J_X9_layer_22 (x0 : Int32) (C2 : Mem) (v5 : Int32) : Option (Int32 × Mem) :=
  b2 (F_X9_refused v5 C2) fun r6 C7 =>
  (if r6 = 0 then (
  gi ((22 : Int32) + x0) (alen 33) (
  some ((C7 33 (((22 : Int32) + x0)).toNatClampNeg), C7))) else (
  some ((0 : Int32), C7)))
def F_X9_layer (x0 : Int32) (C : Mem) : Option (Int32 × Mem) :=
  b2 (F_X9_in ((x0).toInt64) (0 : Int64) ((((C 30 5) - (1 : Int32))).toInt64) C) fun r1 C2 =>
  (if r1 = 0 then (
  J_X9_layer_22 x0 C2 (1 : Int32)) else (
  J_X9_layer_22 x0 C2 (0 : Int32)))
def J_X9_account_18 (x0 : Int32) (C2 : Mem) (v5 : Int32) : Option (Int32 × Mem) :=
  b2 (F_X9_refused v5 C2) fun r6 C7 =>
  (if r6 = 0 then (
  (if (4 : Int32) ≤ x0 then (
  (if x0 = (4 : Int32) then (
  b2 (F_X9_fuelOf 33 C7) fun r13 C14 =>
  some (r13, C14)) else (
  gi (17 : Int32) (alen 33) (
  some ((C7 33 ((17 : Int32)).toNatClampNeg), C7))))) else (
  gi ((13 : Int32) + x0) (alen 33) (
  some ((C7 33 (((13 : Int32) + x0)).toNatClampNeg), C7))))) else (
  some ((0 : Int32), C7)))
def F_X9_account (x0 : Int32) (C : Mem) : Option (Int32 × Mem) :=
  b2 (F_X9_in ((x0).toInt64) (0 : Int64) (5 : Int64) C) fun r1 C2 =>
  (if r1 = 0 then (
  J_X9_account_18 x0 C2 (1 : Int32)) else (
  J_X9_account_18 x0 C2 (0 : Int32)))
def J_X9_note_49  (C2 : Mem) : Option (Int32 × Mem) :=
  b2 (F_X9_copyPage 33 (0 : Int32) 35 ((65 : Int32) * (C2 30 12)) C2) fun r3 C4 =>
  nm (mu C4 30 12 ((C4 30 12) + (1 : Int32))) fun C6 =>
  some (0, C6)
def S_X9_note_11  (v7 : Int32) (C8 : Mem) : Option ((Int32 × Mem) ⊕ (Int32 × Mem)) :=
  (if (845 : Int32) ≤ v7 then (
  some (Sum.inr (v7, C8))) else (
  gi (v7 + (65 : Int32)) (alen 35) (
  gi v7 (alen 35) (
  nm (mu C8 35 (v7).toNatClampNeg (C8 35 ((v7 + (65 : Int32))).toNatClampNeg)) fun C15 =>
  nm (v7 + (1 : Int32)) fun v16 =>
  some (Sum.inl (v16, C15))))))
def F_X9_note  (C : Mem) : Option (Int32 × Mem) :=
  (if (C 30 12) = (14 : Int32) then (
  b1 (iter (fun x => S_X9_note_11  x.1 x.2) fuel ((0 : Int32), C)) (u2 fun v10 C11 =>
  nm (mu C11 30 12 ((C11 30 12) - (1 : Int32))) fun C17 =>
  J_X9_note_49  C17)) else (
  J_X9_note_49  C))
def F_X9_areTicks (x0 : Int32) (x1 : Int32) (C : Mem) : Option (Int32 × Mem) :=
  b2 (F_X9_in ((x0).toInt64) (1 : Int64) (96 : Int64) C) fun r1 C2 =>
  (if r1 = 0 then (
  some ((0 : Int32), C2)) else (
  b2 (F_X9_in ((x1).toInt64) (0 : Int64) (5 : Int64) C2) fun r5 C6 =>
  (if r5 = 0 then (
  some ((0 : Int32), C6)) else (
  some ((1 : Int32), C6)))))
def J_X9_tick_14 (x0 : Int32) (x1 : Int32) (C2 : Mem) (v5 : Int32) : Option (Int32 × Mem) :=
  b2 (F_X9_refused v5 C2) fun r6 C7 =>
  (if r6 = 0 then (
  b2 (F_X9_note  C7) fun r10 C11 =>
  b2 (F_X9_ticksOn 33 x0 x1 C11) fun r13 C14 =>
  b2 (F_X9_meanOf 33 C14) fun r16 C17 =>
  some (r16, C17)) else (
  some ((0 : Int32), C7)))
def F_X9_tick (x0 : Int32) (x1 : Int32) (C : Mem) : Option (Int32 × Mem) :=
  b2 (F_X9_areTicks x0 x1 C) fun r1 C2 =>
  (if r1 = 0 then (
  J_X9_tick_14 x0 x1 C2 (1 : Int32)) else (
  J_X9_tick_14 x0 x1 C2 (0 : Int32)))
def J_X9_draw_18 (x0 : Int32) (C2 : Mem) (v5 : Int32) : Option (Int32 × Mem) :=
  b2 (F_X9_refused v5 C2) fun r6 C7 =>
  (if r6 = 0 then (
  b2 (F_X9_note  C7) fun r10 C11 =>
  b2 (F_X9_drawOn 33 x0 C11) fun r13 C14 =>
  some (r13, C14)) else (
  some ((0 : Int32), C7)))
def F_X9_draw (x0 : Int32) (C : Mem) : Option (Int32 × Mem) :=
  b2 (F_X9_in ((x0).toInt64) (1 : Int64) (20 : Int64) C) fun r1 C2 =>
  (if r1 = 0 then (
  J_X9_draw_18 x0 C2 (1 : Int32)) else (
  J_X9_draw_18 x0 C2 (0 : Int32)))
def J_X9_set_14 (x0 : Int32) (x1 : Int32) (C2 : Mem) (v5 : Int32) : Option (Int32 × Mem) :=
  b2 (F_X9_refused v5 C2) fun r6 C7 =>
  (if r6 = 0 then (
  b2 (F_X9_note  C7) fun r10 C11 =>
  gi x0 (alen 33) (
  nm (C11 33 (x0).toNatClampNeg) fun v14 =>
  gi x0 (alen 33) (
  nm (mu C11 33 (x0).toNatClampNeg x1) fun C16 =>
  some (v14, C16)))) else (
  some ((0 : Int32), C7)))
def F_X9_set (x0 : Int32) (x1 : Int32) (C : Mem) : Option (Int32 × Mem) :=
  b2 (F_X9_isSetting x0 x1 C) fun r1 C2 =>
  (if r1 = 0 then (
  J_X9_set_14 x0 x1 C2 (1 : Int32)) else (
  J_X9_set_14 x0 x1 C2 (0 : Int32)))
def J_X9_setFlue_16 (x0 : Int32) (x1 : Int32) (C2 : Mem) (v5 : Int32) : Option (Int32 × Mem) :=
  b2 (F_X9_refused v5 C2) fun r6 C7 =>
  (if r6 = 0 then (
  b2 (F_X9_note  C7) fun r10 C11 =>
  b2 (F_X9_flueOn 33 x0 x1 C11) fun r13 C14 =>
  some (r13, C14)) else (
  some ((0 : Int32), C7)))
def F_X9_setFlue (x0 : Int32) (x1 : Int32) (C : Mem) : Option (Int32 × Mem) :=
  b2 (F_X9_in ((x0).toInt64) (0 : Int64) (1 : Int64) C) fun r1 C2 =>
  (if r1 = 0 then (
  J_X9_setFlue_16 x0 x1 C2 (1 : Int32)) else (
  J_X9_setFlue_16 x0 x1 C2 (0 : Int32)))
def J_X9_setDraft_32 (x0 : Int32) (x1 : Int32) (v5 : Int32) (C6 : Mem) : Option (Int32 × Mem) :=
  b2 (F_X9_refused v5 C6) fun r7 C8 =>
  (if r7 = 0 then (
  b2 (F_X9_note  C8) fun r11 C12 =>
  gi ((18 : Int32) + x0) (alen 33) (
  nm (C12 33 (((18 : Int32) + x0)).toNatClampNeg) fun v15 =>
  gi ((18 : Int32) + x0) (alen 33) (
  nm (mu C12 33 (((18 : Int32) + x0)).toNatClampNeg x1) fun C17 =>
  some (v15, C17)))) else (
  some ((0 : Int32), C8)))
def F_X9_setDraft (x0 : Int32) (x1 : Int32) (C : Mem) : Option (Int32 × Mem) :=
  b2 (F_X9_in ((x0).toInt64) (0 : Int64) (1 : Int64) C) fun r1 C2 =>
  (if r1 = 0 then (
  J_X9_setDraft_32 x0 x1 (1 : Int32) C2) else (
  b2 (F_X9_in ((x1).toInt64) (0 : Int64) (99 : Int64) C2) fun r18 C19 =>
  (if r18 = 0 then (
  J_X9_setDraft_32 x0 x1 (2 : Int32) C19) else (
  J_X9_setDraft_32 x0 x1 (0 : Int32) C19))))
def J_X9_lock_33 (x0 : Int32) (v5 : Int32) (C6 : Mem) : Option (Int32 × Mem) :=
  b2 (F_X9_refused v5 C6) fun r7 C8 =>
  (if r7 = 0 then (
  b2 (F_X9_note  C8) fun r11 C12 =>
  b2 (F_X9_at x0 C12) fun r14 C15 =>
  gi (r14 + (2 : Int32)) (alen 33) (
  nm (C15 33 ((r14 + (2 : Int32))).toNatClampNeg) fun v18 =>
  b2 (F_X9_put 33 x0 (4 : Int32) C15) fun r19 C20 =>
  some (v18, C20))) else (
  some ((0 : Int32), C8)))
def F_X9_lock (x0 : Int32) (C : Mem) : Option (Int32 × Mem) :=
  b2 (F_X9_isBoiler x0 C) fun r1 C2 =>
  (if r1 = 0 then (
  J_X9_lock_33 x0 (1 : Int32) C2) else (
  b2 (F_X9_at x0 C2) fun r22 C23 =>
  gi (r22 + (2 : Int32)) (alen 33) (
  (if (C23 33 ((r22 + (2 : Int32))).toNatClampNeg) = (4 : Int32) then (
  J_X9_lock_33 x0 (2 : Int32) C23) else (
  J_X9_lock_33 x0 (0 : Int32) C23)))))
def J_X9_unlock_33 (x0 : Int32) (v5 : Int32) (C6 : Mem) : Option (Int32 × Mem) :=
  b2 (F_X9_refused v5 C6) fun r7 C8 =>
  (if r7 = 0 then (
  b2 (F_X9_note  C8) fun r11 C12 =>
  b2 (F_X9_put 33 x0 (0 : Int32) C12) fun r14 C15 =>
  b2 (F_X9_count 33 (4 : Int32) C15) fun r17 C18 =>
  some (r17, C18)) else (
  some ((0 : Int32), C8)))
def F_X9_unlock (x0 : Int32) (C : Mem) : Option (Int32 × Mem) :=
  b2 (F_X9_isBoiler x0 C) fun r1 C2 =>
  (if r1 = 0 then (
  J_X9_unlock_33 x0 (1 : Int32) C2) else (
  b2 (F_X9_at x0 C2) fun r20 C21 =>
  gi (r20 + (2 : Int32)) (alen 33) (
  (if (C21 33 ((r20 + (2 : Int32))).toNatClampNeg) = (4 : Int32) then (
  J_X9_unlock_33 x0 (0 : Int32) C21) else (
  J_X9_unlock_33 x0 (2 : Int32) C21)))))
def J_X9_putOff_33 (x0 : Int32) (v5 : Int32) (C6 : Mem) : Option (Int32 × Mem) :=
  b2 (F_X9_refused v5 C6) fun r7 C8 =>
  (if r7 = 0 then (
  b2 (F_X9_note  C8) fun r11 C12 =>
  b2 (F_X9_put 33 x0 (0 : Int32) C12) fun r14 C15 =>
  b2 (F_X9_at x0 C15) fun r17 C18 =>
  gi (r17 + (6 : Int32)) (alen 33) (
  some ((C18 33 ((r17 + (6 : Int32))).toNatClampNeg), C18))) else (
  some ((0 : Int32), C8)))
def F_X9_putOff (x0 : Int32) (C : Mem) : Option (Int32 × Mem) :=
  b2 (F_X9_isBoiler x0 C) fun r1 C2 =>
  (if r1 = 0 then (
  J_X9_putOff_33 x0 (1 : Int32) C2) else (
  b2 (F_X9_at x0 C2) fun r21 C22 =>
  gi (r21 + (2 : Int32)) (alen 33) (
  (if (C22 33 ((r21 + (2 : Int32))).toNatClampNeg) = (3 : Int32) then (
  J_X9_putOff_33 x0 (0 : Int32) C22) else (
  J_X9_putOff_33 x0 (2 : Int32) C22)))))
def J_X9_undo_13 (C : Mem) (v2 : Int32) : Option (Int32 × Mem) :=
  b2 (F_X9_refused v2 C) fun r3 C4 =>
  (if r3 = 0 then (
  nm (mu C4 30 12 ((C4 30 12) - (1 : Int32))) fun C7 =>
  b2 (F_X9_copyPage 35 ((65 : Int32) * (C7 30 12)) 33 (0 : Int32) C7) fun r8 C9 =>
  some ((C9 30 12), C9)) else (
  some ((0 : Int32), C4)))
def F_X9_undo  (C : Mem) : Option (Int32 × Mem) :=
  (if (C 30 12) = 0 then (
  J_X9_undo_13 C (1 : Int32)) else (
  J_X9_undo_13 C (0 : Int32)))
def F_X9_next  (C : Mem) : Option (Int32 × Mem) :=
  nm (mu C 30 0 (0 : Int32)) fun C1 =>
  b2 (F_X9_nextOf 33 C1) fun r2 C3 =>
  some (r2, C3)
def J_X9_whyNot_14 (x0 : Int32) (C2 : Mem) (v5 : Int32) : Option (Int32 × Mem) :=
  b2 (F_X9_refused v5 C2) fun r6 C7 =>
  (if r6 = 0 then (
  b2 (F_X9_at x0 C7) fun r10 C11 =>
  gi (r10 + (2 : Int32)) (alen 33) (
  nm (C11 33 ((r10 + (2 : Int32))).toNatClampNeg) fun v14 =>
  b2 (F_X9_works v14 C11) fun r15 C16 =>
  (if r15 = 0 then (
  (if v14 = (4 : Int32) then (
  some ((2 : Int32), C16)) else (
  b2 (F_X9_canStart 33 x0 C16) fun r20 C21 =>
  (if r20 = 0 then (
  b2 (F_X9_at x0 C21) fun r24 C25 =>
  gi (r24 + (1 : Int32)) (alen 33) (
  gi ((20 : Int32) + (C25 33 ((r24 + (1 : Int32))).toNatClampNeg)) (alen 33) (
  (if (C25 33 (((20 : Int32) + (C25 33 ((r24 + (1 : Int32))).toNatClampNeg))).toNatClampNeg) = 0 then (
  some ((3 : Int32), C25)) else (
  some ((4 : Int32), C25)))))) else (
  some ((0 : Int32), C21)))))) else (
  some ((1 : Int32), C16))))) else (
  some ((0 : Int32), C7)))
def F_X9_whyNot (x0 : Int32) (C : Mem) : Option (Int32 × Mem) :=
  b2 (F_X9_isBoiler x0 C) fun r1 C2 =>
  (if r1 = 0 then (
  J_X9_whyNot_14 x0 C2 (1 : Int32)) else (
  J_X9_whyNot_14 x0 C2 (0 : Int32)))
def J_X9_smallestSet_139 (v23 : Int32) (v24 : Int32) (v25 : Int32) (v35 : Int32) (v38 : Int32) (v40 : Int32) (C41 : Mem) : Option ((Int32 × Int32 × Int32 × Int32 × Mem) ⊕ (Int32 × Int32 × Int32 × Int32 × Mem)) :=
  nm (v23 + v40) fun v42 =>
  (if v35 = 0 then (
  nm (v24 + (0 : Int32)) fun v44 =>
  nm (v25 + (1 : Int32)) fun v45 =>
  some (Sum.inl (v38, v42, v44, v45, C41))) else (
  b2 (F_X9_at v25 C41) fun r46 C47 =>
  gi (r46 + (1 : Int32)) (alen 33) (
  (if (C47 33 ((r46 + (1 : Int32))).toNatClampNeg) = (1 : Int32) then (
  b2 (F_X9_at v25 C47) fun r53 C54 =>
  gi r53 (alen 33) (
  nm (v24 + (C54 33 (r53).toNatClampNeg)) fun v57 =>
  nm (v25 + (1 : Int32)) fun v58 =>
  some (Sum.inl (v38, v42, v57, v58, C54)))) else (
  nm (v24 + (0 : Int32)) fun v51 =>
  nm (v25 + (1 : Int32)) fun v52 =>
  some (Sum.inl (v38, v42, v51, v52, C47)))))))
def J_X9_smallestSet_100 (v22 : Int32) (v23 : Int32) (v24 : Int32) (v25 : Int32) (C26 : Mem) (v35 : Int32) (v37 : Int32) : Option ((Int32 × Int32 × Int32 × Int32 × Mem) ⊕ (Int32 × Int32 × Int32 × Int32 × Mem)) :=
  nm (v22 + v37) fun v38 =>
  (if v35 = 0 then (
  J_X9_smallestSet_139 v23 v24 v25 v35 v38 (0 : Int32) C26) else (
  b2 (F_X9_at v25 C26) fun r59 C60 =>
  gi (r59 + (1 : Int32)) (alen 33) (
  (if (C60 33 ((r59 + (1 : Int32))).toNatClampNeg) = 0 then (
  b2 (F_X9_at v25 C60) fun r64 C65 =>
  gi r64 (alen 33) (
  J_X9_smallestSet_139 v23 v24 v25 v35 v38 (C65 33 (r64).toNatClampNeg) C65)) else (
  J_X9_smallestSet_139 v23 v24 v25 v35 v38 (0 : Int32) C60)))))
def J_X9_smallestSet_86 (v22 : Int32) (v23 : Int32) (v24 : Int32) (v25 : Int32) (C26 : Mem) (v35 : Int32) : Option ((Int32 × Int32 × Int32 × Int32 × Mem) ⊕ (Int32 × Int32 × Int32 × Int32 × Mem)) :=
  (if v35 = 0 then (
  J_X9_smallestSet_100 v22 v23 v24 v25 C26 v35 (0 : Int32)) else (
  J_X9_smallestSet_100 v22 v23 v24 v25 C26 v35 (1 : Int32)))
def S_X9_smallestSet_61 (v13 : Int32) (v22 : Int32) (v23 : Int32) (v24 : Int32) (v25 : Int32) (C26 : Mem) : Option ((Int32 × Int32 × Int32 × Int32 × Mem) ⊕ (Int32 × Int32 × Int32 × Int32 × Mem)) :=
  (if (C26 30 4) ≤ v25 then (
  some (Sum.inr (v22, v23, v24, v25, C26))) else (
  (if ((v13 >>> (v25 &&& 31)) &&& (1 : Int32)) = (1 : Int32) then (
  J_X9_smallestSet_86 v22 v23 v24 v25 C26 (1 : Int32)) else (
  J_X9_smallestSet_86 v22 v23 v24 v25 C26 (0 : Int32)))))
def J_X9_smallestSet_230 (v10 : Int32) (v11 : Int32) (v12 : Int32) (v13 : Int32) (v28 : Int32) (C32 : Mem) (v68 : Int32) (v71 : Int32) : Option ((Int32 × Int32 × Int32 × Int32 × Mem) ⊕ (Int32 × Int32 × Int32 × Int32 × Mem)) :=
  (if v71 = 0 then (
  nm (v13 + (1 : Int32)) fun v73 =>
  some (Sum.inl (v10, v11, v12, v73, C32))) else (
  (if v10 = (-9 : Int32) then (
  nm (v13 + (1 : Int32)) fun v75 =>
  some (Sum.inl (v13, v28, v68, v75, C32))) else (
  (if v28 < v11 then (
  nm (v13 + (1 : Int32)) fun v77 =>
  some (Sum.inl (v13, v28, v68, v77, C32))) else (
  (if v28 = v11 then (
  (if v12 ≤ v68 then (
  nm (v13 + (1 : Int32)) fun v81 =>
  some (Sum.inl (v10, v11, v12, v81, C32))) else (
  nm (v13 + (1 : Int32)) fun v82 =>
  some (Sum.inl (v13, v28, v68, v82, C32))))) else (
  nm (v13 + (1 : Int32)) fun v79 =>
  some (Sum.inl (v10, v11, v12, v79, C32))))))))))
def S_X9_smallestSet_38 (x0 : Int32) (v10 : Int32) (v11 : Int32) (v12 : Int32) (v13 : Int32) (C14 : Mem) : Option ((Int32 × Int32 × Int32 × Int32 × Mem) ⊕ (Int32 × Int32 × Int32 × Int32 × Mem)) :=
  (if ((1 : Int32) <<< ((C14 30 4) &&& 31)) ≤ v13 then (
  some (Sum.inr (v10, v11, v12, v13, C14))) else (
  b1 (iter (fun x => S_X9_smallestSet_61 v13 x.1 x.2.1 x.2.2.1 x.2.2.2.1 x.2.2.2.2) fuel ((0 : Int32), (0 : Int32), (0 : Int32), (0 : Int32), C14)) (u5 fun v28 v29 v30 v31 C32 =>
  nm (v29 + v30) fun v68 =>
  gi (18 : Int32) (alen 33) (
  (if (C32 33 ((18 : Int32)).toNatClampNeg) < v29 then (
  J_X9_smallestSet_230 v10 v11 v12 v13 v28 C32 v68 (0 : Int32)) else (
  gi (19 : Int32) (alen 33) (
  (if (C32 33 ((19 : Int32)).toNatClampNeg) < v30 then (
  J_X9_smallestSet_230 v10 v11 v12 v13 v28 C32 v68 (0 : Int32)) else (
  (if v68 < x0 then (
  J_X9_smallestSet_230 v10 v11 v12 v13 v28 C32 v68 (0 : Int32)) else (
  J_X9_smallestSet_230 v10 v11 v12 v13 v28 C32 v68 (1 : Int32))))))))))))
def J_X9_smallestSet_18 (x0 : Int32) (x1 : Int32) (C2 : Mem) (v5 : Int32) : Option (Int32 × Mem) :=
  b2 (F_X9_refused v5 C2) fun r6 C7 =>
  (if r6 = 0 then (
  b1 (iter (fun x => S_X9_smallestSet_38 x0 x.1 x.2.1 x.2.2.1 x.2.2.2.1 x.2.2.2.2) fuel ((-9 : Int32), (0 : Int32), (0 : Int32), (1 : Int32), C7)) (u5 fun v16 v17 v18 v19 C20 =>
  (if v16 = (-9 : Int32) then (
  some (v16, C20)) else (
  (if x1 = 0 then (
  some (v18, C20)) else (
  some (v16, C20))))))) else (
  some ((0 : Int32), C7)))
def F_X9_smallestSet (x0 : Int32) (x1 : Int32) (C : Mem) : Option (Int32 × Mem) :=
  b2 (F_X9_in ((x0).toInt64) (1 : Int64) (150 : Int64) C) fun r1 C2 =>
  (if r1 = 0 then (
  J_X9_smallestSet_18 x0 x1 C2 (1 : Int32)) else (
  J_X9_smallestSet_18 x0 x1 C2 (0 : Int32)))
def S_X9_ahead_54 (x0 : Int32) (x1 : Int32) (v14 : Int32) (v15 : Int32) (C16 : Mem) : Option ((Int32 × Int32 × Mem) ⊕ (Int32 × Int32 × Mem)) :=
  (if x0 ≤ v15 then (
  some (Sum.inr (v14, v15, C16))) else (
  b2 (F_X9_tickOn 34 x1 C16) fun r22 C23 =>
  b2 (F_X9_meanOf 34 C23) fun r25 C26 =>
  (if v14 ≤ r25 then (
  nm (v15 + (1 : Int32)) fun v29 =>
  some (Sum.inl (v14, v29, C26))) else (
  nm (v15 + (1 : Int32)) fun v30 =>
  some (Sum.inl (r25, v30, C26))))))
def J_X9_ahead_26 (x0 : Int32) (x1 : Int32) (x2 : Int32) (v5 : Int32) (C6 : Mem) : Option (Int32 × Mem) :=
  b2 (F_X9_refused v5 C6) fun r7 C8 =>
  (if r7 = 0 then (
  b2 (F_X9_copyPage 33 (0 : Int32) 34 (0 : Int32) C8) fun r11 C12 =>
  b1 (iter (fun x => S_X9_ahead_54 x0 x1 x.1 x.2.1 x.2.2) fuel ((99 : Int32), (0 : Int32), C12)) (u3 fun v18 v19 C20 =>
  (if x2 = (0 : Int32) then (
  b2 (F_X9_meanOf 34 C20) fun r37 C38 =>
  some (r37, C38)) else (
  (if x2 = (1 : Int32) then (
  gi (((22 : Int32) + (C20 30 5)) - (1 : Int32)) (alen 34) (
  some ((C20 34 ((((22 : Int32) + (C20 30 5)) - (1 : Int32))).toNatClampNeg), C20))) else (
  (if x2 = (2 : Int32) then (
  gi (15 : Int32) (alen 34) (
  gi (15 : Int32) (alen 33) (
  some (((C20 34 ((15 : Int32)).toNatClampNeg) - (C20 33 ((15 : Int32)).toNatClampNeg)), C20)))) else (
  (if x2 = (3 : Int32) then (
  b2 (F_X9_fuelOf 34 C20) fun r43 C44 =>
  b2 (F_X9_fuelOf 33 C44) fun r46 C47 =>
  some ((r43 - r46), C47)) else (
  (if x2 = (4 : Int32) then (
  b2 (F_X9_startsOf 34 C20) fun r49 C50 =>
  b2 (F_X9_startsOf 33 C50) fun r52 C53 =>
  some ((r49 - r52), C53)) else (
  (if x2 = (5 : Int32) then (
  gi (11 : Int32) (alen 34) (
  gi (11 : Int32) (alen 33) (
  some (((C20 34 ((11 : Int32)).toNatClampNeg) - (C20 33 ((11 : Int32)).toNatClampNeg)), C20)))) else (
  some (v18, C20))))))))))))))) else (
  some ((0 : Int32), C8)))
def F_X9_ahead (x0 : Int32) (x1 : Int32) (x2 : Int32) (C : Mem) : Option (Int32 × Mem) :=
  b2 (F_X9_areTicks x0 x1 C) fun r1 C2 =>
  (if r1 = 0 then (
  J_X9_ahead_26 x0 x1 x2 (1 : Int32) C2) else (
  b2 (F_X9_in ((x2).toInt64) (0 : Int64) (6 : Int64) C2) fun r57 C58 =>
  (if r57 = 0 then (
  J_X9_ahead_26 x0 x1 x2 (1 : Int32) C58) else (
  J_X9_ahead_26 x0 x1 x2 (0 : Int32) C58))))
def S_X9_warmAfter_53 (x0 : Int32) (x1 : Int32) (v14 : Int32) (C15 : Mem) : Option ((Int32 × Mem) ⊕ ((Int32 × Mem) ⊕ (Int32 × Mem))) :=
  (if (200 : Int32) < v14 then (
  some (Sum.inr (Sum.inl (v14, C15)))) else (
  b2 (F_X9_meanOf 34 C15) fun r20 C21 =>
  (if r20 < x0 then (
  b2 (F_X9_tickOn 34 x1 C21) fun r24 C25 =>
  nm (v14 + (1 : Int32)) fun v27 =>
  some (Sum.inl (v27, C25))) else (
  some (Sum.inr (Sum.inr (v14, C21)))))))
def J_X9_warmAfter_30 (x0 : Int32) (x1 : Int32) (v5 : Int32) (C6 : Mem) : Option (Int32 × Mem) :=
  b2 (F_X9_refused v5 C6) fun r7 C8 =>
  (if r7 = 0 then (
  b2 (F_X9_copyPage 33 (0 : Int32) 34 (0 : Int32) C8) fun r11 C12 =>
  b1 (iter (fun x => S_X9_warmAfter_53 x0 x1 x.1 x.2) fuel ((0 : Int32), C12)) (Sum.elim (u2 fun v17 C18 =>
  some ((-9 : Int32), C18)) fun y => some y)) else (
  some ((0 : Int32), C8)))
def F_X9_warmAfter (x0 : Int32) (x1 : Int32) (C : Mem) : Option (Int32 × Mem) :=
  b2 (F_X9_in ((x0).toInt64) (0 : Int64) (99 : Int64) C) fun r1 C2 =>
  (if r1 = 0 then (
  J_X9_warmAfter_30 x0 x1 (1 : Int32) C2) else (
  b2 (F_X9_in ((x1).toInt64) (0 : Int64) (5 : Int64) C2) fun r28 C29 =>
  (if r28 = 0 then (
  J_X9_warmAfter_30 x0 x1 (1 : Int32) C29) else (
  J_X9_warmAfter_30 x0 x1 (0 : Int32) C29))))
def S_X9_bearable_65 (x0 : Int32) (x1 : Int32) (v11 : Int32) (v20 : Int32) (v21 : Int32) (C22 : Mem) : Option ((Int32 × Int32 × Mem) ⊕ (Int32 × Int32 × Mem)) :=
  (if x0 ≤ v21 then (
  some (Sum.inr (v20, v21, C22))) else (
  (if v20 = 0 then (
  some (Sum.inr (v20, v21, C22))) else (
  b2 (F_X9_tickOn 34 v11 C22) fun r29 C30 =>
  gi (((22 : Int32) + (C30 30 5)) - (1 : Int32)) (alen 34) (
  (if (C30 34 ((((22 : Int32) + (C30 30 5)) - (1 : Int32))).toNatClampNeg) < x1 then (
  nm (v21 + (1 : Int32)) fun v34 =>
  some (Sum.inl ((0 : Int32), v34, C30))) else (
  nm (v21 + (1 : Int32)) fun v35 =>
  some (Sum.inl ((1 : Int32), v35, C30)))))))))
def S_X9_bearable_42 (x0 : Int32) (x1 : Int32) (v11 : Int32) (C12 : Mem) : Option ((Int32 × Mem) ⊕ ((Int32 × Mem) ⊕ (Int32 × Mem))) :=
  (if v11 < 0 then (
  some (Sum.inr (Sum.inl (v11, C12)))) else (
  b2 (F_X9_copyPage 33 (0 : Int32) 34 (0 : Int32) C12) fun r17 C18 =>
  b1 (iter (fun x => S_X9_bearable_65 x0 x1 v11 x.1 x.2.1 x.2.2) fuel ((1 : Int32), (0 : Int32), C18)) (u3 fun v24 v25 C26 =>
  (if v24 = 0 then (
  nm (v11 + (-1 : Int32)) fun v37 =>
  some (Sum.inl (v37, C26))) else (
  some (Sum.inr (Sum.inr (v11, C26))))))))
def J_X9_bearable_32 (x0 : Int32) (x1 : Int32) (v5 : Int32) (C6 : Mem) : Option (Int32 × Mem) :=
  b2 (F_X9_refused v5 C6) fun r7 C8 =>
  (if r7 = 0 then (
  b1 (iter (fun x => S_X9_bearable_42 x0 x1 x.1 x.2) fuel ((5 : Int32), C8)) (Sum.elim (u2 fun v14 C15 =>
  some ((-9 : Int32), C15)) fun y => some y)) else (
  some ((0 : Int32), C8)))
def F_X9_bearable (x0 : Int32) (x1 : Int32) (C : Mem) : Option (Int32 × Mem) :=
  b2 (F_X9_in ((x0).toInt64) (1 : Int64) (96 : Int64) C) fun r1 C2 =>
  (if r1 = 0 then (
  J_X9_bearable_32 x0 x1 (1 : Int32) C2) else (
  b2 (F_X9_in ((x1).toInt64) (10 : Int64) (80 : Int64) C2) fun r38 C39 =>
  (if r38 = 0 then (
  J_X9_bearable_32 x0 x1 (1 : Int32) C39) else (
  J_X9_bearable_32 x0 x1 (0 : Int32) C39))))
def J_X9_cheapestPurge_93 (v10 : Int32) (v11 : Int32) (v12 : Int32) (r28 : Int32) (C29 : Mem) (v32 : Int32) : Option ((Int32 × Int32 × Int32 × Mem) ⊕ (Int32 × Int32 × Int32 × Mem)) :=
  (if v32 = 0 then (
  (if v32 = 0 then (
  nm (v12 + (1 : Int32)) fun v35 =>
  some (Sum.inl (v10, v11, v35, C29))) else (
  nm (v12 + (1 : Int32)) fun v36 =>
  some (Sum.inl (v10, r28, v36, C29))))) else (
  (if v32 = 0 then (
  nm (v12 + (1 : Int32)) fun v38 =>
  some (Sum.inl (v12, v11, v38, C29))) else (
  nm (v12 + (1 : Int32)) fun v39 =>
  some (Sum.inl (v12, r28, v39, C29))))))
def S_X9_cheapestPurge_30 (x0 : Int32) (x1 : Int32) (v10 : Int32) (v11 : Int32) (v12 : Int32) (C13 : Mem) : Option ((Int32 × Int32 × Int32 × Mem) ⊕ (Int32 × Int32 × Int32 × Mem)) :=
  (if (5 : Int32) < v12 then (
  some (Sum.inr (v10, v11, v12, C13))) else (
  b2 (F_X9_copyPage 33 (0 : Int32) 34 (0 : Int32) C13) fun r20 C21 =>
  gi (2 : Int32) (alen 34) (
  nm (mu C21 34 ((2 : Int32)).toNatClampNeg v12) fun C24 =>
  b2 (F_X9_ticksOn 34 x0 x1 C24) fun r25 C26 =>
  b2 (F_X9_fuelOf 34 C26) fun r28 C29 =>
  (if v10 = 0 then (
  J_X9_cheapestPurge_93 v10 v11 v12 r28 C29 (1 : Int32)) else (
  (if v11 ≤ r28 then (
  J_X9_cheapestPurge_93 v10 v11 v12 r28 C29 (0 : Int32)) else (
  J_X9_cheapestPurge_93 v10 v11 v12 r28 C29 (1 : Int32))))))))
def J_X9_cheapestPurge_14 (x0 : Int32) (x1 : Int32) (C2 : Mem) (v5 : Int32) : Option (Int32 × Mem) :=
  b2 (F_X9_refused v5 C2) fun r6 C7 =>
  (if r6 = 0 then (
  b1 (iter (fun x => S_X9_cheapestPurge_30 x0 x1 x.1 x.2.1 x.2.2.1 x.2.2.2) fuel ((0 : Int32), (0 : Int32), (1 : Int32), C7)) (u4 fun v15 v16 v17 C18 =>
  some (v15, C18))) else (
  some ((0 : Int32), C7)))
def F_X9_cheapestPurge (x0 : Int32) (x1 : Int32) (C : Mem) : Option (Int32 × Mem) :=
  b2 (F_X9_areTicks x0 x1 C) fun r1 C2 =>
  (if r1 = 0 then (
  J_X9_cheapestPurge_14 x0 x1 C2 (1 : Int32)) else (
  J_X9_cheapestPurge_14 x0 x1 C2 (0 : Int32)))
def F_X9_does (x0 : Int32) (x1 : Int32) (x2 : Int32) (C : Mem) : Option (Int32 × Mem) :=
  b2 (F_X9_isBoiler x1 C) fun r1 C2 =>
  (if x0 = (1 : Int32) then (
  (if (99 : Int32) < x2 then (
  some ((0 : Int32), C2)) else (
  b2 (F_X9_areTicks x2 x1 C2) fun r14 C15 =>
  (if r14 = 0 then (
  some ((0 : Int32), C15)) else (
  b2 (F_X9_ticksOn 34 x2 x1 C15) fun r18 C19 =>
  some ((1 : Int32), C19)))))) else (
  (if x0 = (2 : Int32) then (
  (if x1 = 0 then (
  b2 (F_X9_in ((x2).toInt64) (1 : Int64) (20 : Int64) C2) fun r22 C23 =>
  (if r22 = 0 then (
  some ((0 : Int32), C23)) else (
  b2 (F_X9_drawOn 34 x2 C23) fun r26 C27 =>
  some ((1 : Int32), C27)))) else (
  some ((0 : Int32), C2)))) else (
  (if x0 = (3 : Int32) then (
  (if (99 : Int32) < x2 then (
  some ((0 : Int32), C2)) else (
  b2 (F_X9_isSetting x1 x2 C2) fun r30 C31 =>
  (if r30 = 0 then (
  some ((0 : Int32), C31)) else (
  gi x1 (alen 34) (
  nm (mu C31 34 (x1).toNatClampNeg x2) fun C35 =>
  some ((1 : Int32), C35))))))) else (
  (if x0 = (4 : Int32) then (
  (if (1 : Int32) < x1 then (
  some ((0 : Int32), C2)) else (
  (if x2 ≤ (1 : Int32) then (
  (if x2 = (1 : Int32) then (
  b2 (F_X9_flueOn 34 x1 (1 : Int32) C2) fun r42 C43 =>
  some ((1 : Int32), C43)) else (
  b2 (F_X9_flueOn 34 x1 (0 : Int32) C2) fun r39 C40 =>
  some ((1 : Int32), C40)))) else (
  some ((0 : Int32), C2)))))) else (
  (if x0 = (5 : Int32) then (
  (if r1 = 0 then (
  some ((0 : Int32), C2)) else (
  (if x2 = 0 then (
  b2 (F_X9_at x1 C2) fun r47 C48 =>
  gi (r47 + (2 : Int32)) (alen 34) (
  (if (C48 34 ((r47 + (2 : Int32))).toNatClampNeg) = (4 : Int32) then (
  some ((0 : Int32), C48)) else (
  b2 (F_X9_put 34 x1 (4 : Int32) C48) fun r52 C53 =>
  some ((1 : Int32), C53))))) else (
  some ((0 : Int32), C2)))))) else (
  (if x0 = (6 : Int32) then (
  (if r1 = 0 then (
  some ((0 : Int32), C2)) else (
  (if x2 = 0 then (
  b2 (F_X9_at x1 C2) fun r57 C58 =>
  gi (r57 + (2 : Int32)) (alen 34) (
  (if (C58 34 ((r57 + (2 : Int32))).toNatClampNeg) = (4 : Int32) then (
  b2 (F_X9_put 34 x1 (0 : Int32) C58) fun r62 C63 =>
  some ((1 : Int32), C63)) else (
  some ((0 : Int32), C58))))) else (
  some ((0 : Int32), C2)))))) else (
  (if x0 = (7 : Int32) then (
  (if x1 = 0 then (
  (if (100 : Int32) ≤ x2 then (
  some ((0 : Int32), C2)) else (
  b2 (F_X9_meanOf 34 C2) fun r67 C68 =>
  (if r67 < x2 then (
  some ((0 : Int32), C68)) else (
  some ((1 : Int32), C68)))))) else (
  some ((0 : Int32), C2)))) else (
  (if x0 = (8 : Int32) then (
  (if r1 = 0 then (
  some ((0 : Int32), C2)) else (
  (if (10 : Int32) ≤ x2 then (
  some ((0 : Int32), C2)) else (
  b2 (F_X9_at x1 C2) fun r73 C74 =>
  gi (r73 + (2 : Int32)) (alen 34) (
  (if (C74 34 ((r73 + (2 : Int32))).toNatClampNeg) = x2 then (
  some ((1 : Int32), C74)) else (
  some ((0 : Int32), C74))))))))) else (
  (if x0 = (9 : Int32) then (
  (if x1 = 0 then (
  (if (10 : Int32) ≤ x2 then (
  some ((0 : Int32), C2)) else (
  gi (11 : Int32) (alen 34) (
  (if (C2 34 ((11 : Int32)).toNatClampNeg) = x2 then (
  some ((1 : Int32), C2)) else (
  some ((0 : Int32), C2))))))) else (
  some ((0 : Int32), C2)))) else (
  some ((0 : Int32), C2)))))))))))))))))))
def S_X9_runScript_84 (x0 : Int32) (v16 : Int64) (v17 : Int64) (v18 : Int32) (C19 : Mem) : Option ((Int64 × Int64 × Int32 × Mem) ⊕ ((Int64 × Int64 × Int32 × Mem) ⊕ (Int32 × Mem))) :=
  (if x0 ≤ v18 then (
  some (Sum.inr (Sum.inl (v16, v17, v18, C19)))) else (
  nm (v16 / (100000 : Int64)) fun v26 =>
  gzL v26 (
  nm (((v17 / v26)).toInt32) fun v28 =>
  gzL v26 (
  nm (v17 - v17 / v26 * v26) fun v30 =>
  b2 (F_X9_does (v28 / (10000 : Int32)) ((v28 / (1000 : Int32)) - (v28 / (1000 : Int32)) / (10 : Int32) * (10 : Int32)) (v28 - v28 / (1000 : Int32) * (1000 : Int32)) C19) fun r31 C32 =>
  (if r31 = 0 then (
  some (Sum.inr (Sum.inr (v18, C32)))) else (
  nm (v18 + (1 : Int32)) fun v35 =>
  some (Sum.inl (v26, v30, v35, C32))))))))
def J_X9_runScript_57 (x0 : Int32) (x1 : Int64) (v2 : Int64) (v7 : Int32) (C8 : Mem) : Option (Int32 × Mem) :=
  b2 (F_X9_refused v7 C8) fun r9 C10 =>
  (if r9 = 0 then (
  b2 (F_X9_copyPage 33 (0 : Int32) 34 (0 : Int32) C10) fun r13 C14 =>
  b1 (iter (fun x => S_X9_runScript_84 x0 x.1 x.2.1 x.2.2.1 x.2.2.2) fuel (v2, x1, (0 : Int32), C14)) (Sum.elim (u4 fun v21 v22 v23 C24 =>
  some ((-9 : Int32), C24)) fun y => some y)) else (
  some ((0 : Int32), C10)))
def J_X9_runScript_25 (x0 : Int32) (x1 : Int64) (C : Mem) (v2 : Int64) : Option (Int32 × Mem) :=
  b2 (F_X9_in ((x0).toInt64) (1 : Int64) (3 : Int64) C) fun r3 C4 =>
  (if r3 = 0 then (
  J_X9_runScript_57 x0 x1 v2 (1 : Int32) C4) else (
  b2 (F_X9_in x1 (0 : Int64) (v2 - (1 : Int64)) C4) fun r36 C37 =>
  (if r36 = 0 then (
  J_X9_runScript_57 x0 x1 v2 (1 : Int32) C37) else (
  J_X9_runScript_57 x0 x1 v2 (0 : Int32) C37))))
def F_X9_runScript (x0 : Int32) (x1 : Int64) (C : Mem) : Option (Int32 × Mem) :=
  (if x0 = (1 : Int32) then (
  J_X9_runScript_25 x0 x1 C (100000 : Int64)) else (
  (if x0 = (2 : Int32) then (
  J_X9_runScript_25 x0 x1 C (10000000000 : Int64)) else (
  J_X9_runScript_25 x0 x1 C (1000000000000000 : Int64)))))
def J_X9_simulate_117 (v14 : Int32) (v21 : Int64) (v22 : Int32) (C25 : Mem) : Option ((Int64 × Int32 × Mem) ⊕ (Int64 × Int32 × Mem)) :=
  b2 (F_X9_tickOn 34 ((v22 / (64 : Int32)) - (v22 / (64 : Int32)) / (4 : Int32) * (4 : Int32)) C25) fun r26 C27 =>
  nm (v14 + (1 : Int32)) fun v29 =>
  some (Sum.inl (v21, v29, C27))
def S_X9_simulate_45 (x1 : Int32) (v13 : Int64) (v14 : Int32) (C15 : Mem) : Option ((Int64 × Int32 × Mem) ⊕ (Int64 × Int32 × Mem)) :=
  (if x1 ≤ v14 then (
  some (Sum.inr (v13, v14, C15))) else (
  nm ((v13 * (6364136223846793005 : Int64)) + (1442695040888963407 : Int64)) fun v21 =>
  nm (((((v21).toUInt64 >>> (((33 : Int32)).toInt64.toUInt64 &&& Int64.toUInt64 63)).toInt64)).toInt32) fun v22 =>
  nm ((v22 / (16 : Int32)) - (v22 / (16 : Int32)) / (2 : Int32) * (2 : Int32)) fun v23 =>
  (if (v22 - v22 / (16 : Int32) * (16 : Int32)) = 0 then (
  gi ((20 : Int32) + v23) (alen 34) (
  (if (C15 34 (((20 : Int32) + v23)).toNatClampNeg) = 0 then (
  b2 (F_X9_flueOn 34 v23 (1 : Int32) C15) fun r35 C36 =>
  J_X9_simulate_117 v14 v21 v22 C36) else (
  b2 (F_X9_flueOn 34 v23 (0 : Int32) C15) fun r32 C33 =>
  J_X9_simulate_117 v14 v21 v22 C33)))) else (
  J_X9_simulate_117 v14 v21 v22 C15))))
def J_X9_simulate_18 (x0 : Int64) (x1 : Int32) (C2 : Mem) (v5 : Int32) : Option (Int32 × Mem) :=
  b2 (F_X9_refused v5 C2) fun r6 C7 =>
  (if r6 = 0 then (
  b2 (F_X9_copyPage 33 (0 : Int32) 34 (0 : Int32) C7) fun r10 C11 =>
  b1 (iter (fun x => S_X9_simulate_45 x1 x.1 x.2.1 x.2.2) fuel (x0, (0 : Int32), C11)) (u3 fun v17 v18 C19 =>
  b2 (F_X9_fuelOf 34 C19) fun r38 C39 =>
  b2 (F_X9_fuelOf 33 C39) fun r41 C42 =>
  b2 (F_X9_meanOf 34 C42) fun r44 C45 =>
  some ((((1000 : Int32) * (r38 - r41)) + r44), C45))) else (
  some ((0 : Int32), C7)))
def F_X9_simulate (x0 : Int64) (x1 : Int32) (C : Mem) : Option (Int32 × Mem) :=
  b2 (F_X9_in ((x1).toInt64) (1 : Int64) (96 : Int64) C) fun r1 C2 =>
  (if r1 = 0 then (
  J_X9_simulate_18 x0 x1 C2 (1 : Int32)) else (
  J_X9_simulate_18 x0 x1 C2 (0 : Int32)))
def J_X9_save_16 (x0 : Int32) (C2 : Mem) (v5 : Int32) : Option (Int32 × Mem) :=
  b2 (F_X9_refused v5 C2) fun r6 C7 =>
  (if r6 = 0 then (
  gi x0 2 (
  nm (mu C7 37 (x0).toNatClampNeg (1 : Int32)) fun C11 =>
  b2 (F_X9_copyPage 33 (0 : Int32) 36 ((65 : Int32) * x0) C11) fun r12 C13 =>
  gi (6 : Int32) (alen 33) (
  some ((C13 33 ((6 : Int32)).toNatClampNeg), C13)))) else (
  some ((0 : Int32), C7)))
def F_X9_save (x0 : Int32) (C : Mem) : Option (Int32 × Mem) :=
  b2 (F_X9_in ((x0).toInt64) (0 : Int64) (1 : Int64) C) fun r1 C2 =>
  (if r1 = 0 then (
  J_X9_save_16 x0 C2 (1 : Int32)) else (
  J_X9_save_16 x0 C2 (0 : Int32)))
def J_X9_restore_29 (x0 : Int32) (C2 : Mem) (v5 : Int32) : Option (Int32 × Mem) :=
  b2 (F_X9_refused v5 C2) fun r6 C7 =>
  (if r6 = 0 then (
  b2 (F_X9_copyPage 36 ((65 : Int32) * x0) 33 (0 : Int32) C7) fun r10 C11 =>
  nm (mu C11 30 12 (0 : Int32)) fun C13 =>
  gi (6 : Int32) (alen 33) (
  some ((C13 33 ((6 : Int32)).toNatClampNeg), C13))) else (
  some ((0 : Int32), C7)))
def F_X9_restore (x0 : Int32) (C : Mem) : Option (Int32 × Mem) :=
  b2 (F_X9_in ((x0).toInt64) (0 : Int64) (1 : Int64) C) fun r1 C2 =>
  (if r1 = 0 then (
  J_X9_restore_29 x0 C2 (1 : Int32)) else (
  gi x0 2 (
  (if (C2 37 (x0).toNatClampNeg) = 0 then (
  J_X9_restore_29 x0 C2 (2 : Int32)) else (
  J_X9_restore_29 x0 C2 (0 : Int32))))))
