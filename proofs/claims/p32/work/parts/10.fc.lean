/-! what the methods of the class do to the memory, by program out of the bytecode -/
def F_X0_beginAs (q : Nat) (i : Nat) (x0 : Int32) (x1 : Int32) (C : Mem) : Option (Int32 × Mem) :=
  nm (mu C q (30 + 7 * i) x0) fun C1 =>
  nm (mu C1 q (30 + 7 * i + 1) x1) fun C2 =>
  nm (mu C2 q (30 + 7 * i + 2) (0 : Int32)) fun C3 =>
  nm (mu C3 q (30 + 7 * i + 3) (0 : Int32)) fun C4 =>
  nm (mu C4 q (30 + 7 * i + 4) (0 : Int32)) fun C5 =>
  nm (mu C5 q (30 + 7 * i + 5) (0 : Int32)) fun C6 =>
  nm (mu C6 q (30 + 7 * i + 6) (0 : Int32)) fun C7 =>
  some (0, C7)
def F_X0_copyFrom (q : Nat) (i : Nat) (q0 : Nat) (i0 : Nat) (C : Mem) : Option (Int32 × Mem) :=
  nm (mu C q (30 + 7 * i) (C q0 (30 + 7 * i0))) fun C1 =>
  nm (mu C1 q (30 + 7 * i + 1) (C1 q0 (30 + 7 * i0 + 1))) fun C2 =>
  nm (mu C2 q (30 + 7 * i + 2) (C2 q0 (30 + 7 * i0 + 2))) fun C3 =>
  nm (mu C3 q (30 + 7 * i + 3) (C3 q0 (30 + 7 * i0 + 3))) fun C4 =>
  nm (mu C4 q (30 + 7 * i + 4) (C4 q0 (30 + 7 * i0 + 4))) fun C5 =>
  nm (mu C5 q (30 + 7 * i + 5) (C5 q0 (30 + 7 * i0 + 5))) fun C6 =>
  nm (mu C6 q (30 + 7 * i + 6) (C6 q0 (30 + 7 * i0 + 6))) fun C7 =>
  some (0, C7)
def F_X0_waits (q : Nat) (i : Nat) (C : Mem) : Option (Int32 × Mem) :=
  (if (C q (30 + 7 * i + 2)) = 0 then (
  some ((1 : Int32), C)) else (
  (if (C q (30 + 7 * i + 2)) = (3 : Int32) then (
  some ((1 : Int32), C)) else (
  some ((0 : Int32), C)))))
def F_X0_start (q : Nat) (i : Nat) (x0 : Int32) (C : Mem) : Option (Int32 × Mem) :=
  (if (C q (30 + 7 * i + 2)) = (3 : Int32) then (
  nm (mu C q (30 + 7 * i + 2) (2 : Int32)) fun C5 =>
  nm (mu C5 q (30 + 7 * i + 5) ((C5 q (30 + 7 * i + 5)) + (1 : Int32))) fun C6 =>
  some (0, C6)) else (
  nm (mu C q (30 + 7 * i + 2) (1 : Int32)) fun C2 =>
  nm (mu C2 q (30 + 7 * i + 3) x0) fun C3 =>
  nm (mu C3 q (30 + 7 * i + 5) ((C3 q (30 + 7 * i + 5)) + (1 : Int32))) fun C4 =>
  some (0, C4)))
def F_X0_leaveFor (q : Nat) (i : Nat) (x0 : Int32) (C : Mem) : Option (Int32 × Mem) :=
  nm (mu C q (30 + 7 * i + 2) x0) fun C1 =>
  nm (mu C1 q (30 + 7 * i + 3) (0 : Int32)) fun C2 =>
  some (0, C2)
def F_X0_work (q : Nat) (i : Nat) (C : Mem) : Option (Int32 × Mem) :=
  (if (C q (30 + 7 * i + 2)) = (1 : Int32) then (
  nm (mu C q (30 + 7 * i + 3) ((C q (30 + 7 * i + 3)) - (1 : Int32))) fun C4 =>
  (if 0 < (C4 q (30 + 7 * i + 3)) then (
  some ((0 : Int32), C4)) else (
  b2 (F_X0_leaveFor q i (2 : Int32) C4) fun r6 C7 =>
  some ((0 : Int32), C7)))) else (
  (if (C q (30 + 7 * i + 2)) = (2 : Int32) then (
  nm (mu C q (30 + 7 * i + 4) ((C q (30 + 7 * i + 4)) + (1 : Int32))) fun C9 =>
  nm (mu C9 q (30 + 7 * i + 6) ((C9 q (30 + 7 * i + 6)) + (C9 q (30 + 7 * i)))) fun C10 =>
  some ((C10 q (30 + 7 * i)), C10)) else (
  (if (C q (30 + 7 * i + 2)) = (3 : Int32) then (
  nm (mu C q (30 + 7 * i + 6) ((C q (30 + 7 * i + 6)) + (1 : Int32))) fun C11 =>
  some ((0 : Int32), C11)) else (
  some ((0 : Int32), C)))))))
def F_X1_beginAs (q : Nat) (f : Nat) (x0 : Int32) (C : Mem) : Option (Int32 × Mem) :=
  nm (mu C q (18 + f) x0) fun C1 =>
  nm (mu C1 q (20 + f) (1 : Int32)) fun C2 =>
  some (0, C2)
def F_X1_copyFrom (q : Nat) (f : Nat) (q0 : Nat) (f0 : Nat) (C : Mem) : Option (Int32 × Mem) :=
  nm (mu C q (18 + f) (C q0 (18 + f0))) fun C1 =>
  gb (C1 q0 (20 + f0)) (
  nm (mu C1 q (20 + f) (C1 q0 (20 + f0))) fun C3 =>
  some (0, C3))
def F_X3_end (q : Nat) (C : Mem) : Option (Int32 × Mem) :=
  nm (mu C q 8 (0 : Int32)) fun C1 =>
  nm (mu C1 q 9 (0 : Int32)) fun C2 =>
  nm (mu C2 q 10 (0 : Int32)) fun C3 =>
  some (0, C3)
def F_X3_beginAsNew (q : Nat) (C : Mem) : Option (Int32 × Mem) :=
  nm (mu C q 11 (0 : Int32)) fun C1 =>
  nm (mu C1 q 12 (0 : Int32)) fun C2 =>
  b2 (F_X3_end q C2) fun r3 C4 =>
  some (0, C4)
def F_X3_copyFrom (q : Nat) (q0 : Nat) (C : Mem) : Option (Int32 × Mem) :=
  gb (C q0 8) (
  nm (mu C q 8 (C q0 8)) fun C2 =>
  nm (mu C2 q 9 (C2 q0 9)) fun C3 =>
  nm (mu C3 q 10 (C3 q0 10)) fun C4 =>
  nm (mu C4 q 11 (C4 q0 11)) fun C5 =>
  nm (mu C5 q 12 (C5 q0 12)) fun C6 =>
  some (0, C6))
def J_X3_countTick_33 (q : Nat) (x1 : Int32) (C2 : Mem) (v4 : Int32) : Option (Int32 × Mem) :=
  nm (mu C2 q 9 v4) fun C5 =>
  (if (C5 q 9) < x1 then (
  (if (C5 q 10) < (12 : Int32) then (
  some (0, C5)) else (
  nm (mu C5 q 12 ((C5 q 12) + (1 : Int32))) fun C8 =>
  b2 (F_X3_end q C8) fun r9 C10 =>
  some (0, C10)))) else (
  nm (mu C5 q 11 ((C5 q 11) + (1 : Int32))) fun C12 =>
  b2 (F_X3_end q C12) fun r13 C14 =>
  some (0, C14)))
def F_X3_countTick (q : Nat) (x0 : Int32) (x1 : Int32) (C : Mem) : Option (Int32 × Mem) :=
  (if (C q 8) = 0 then (
  some (0, C)) else (
  nm (mu C q 10 ((C q 10) + (1 : Int32))) fun C2 =>
  (if x0 = 0 then (
  J_X3_countTick_33 q x1 C2 (0 : Int32)) else (
  J_X3_countTick_33 q x1 C2 ((C2 q 9) + (1 : Int32))))))
def S_X7_beginAs_20 (q : Nat) (v2 : Int32) (C3 : Mem) : Option ((Int32 × Mem) ⊕ (Int32 × Mem)) :=
  (if (C3 q 66) ≤ v2 then (
  some (Sum.inr (v2, C3))) else (
  gi v2 8 (
  gi v2 8 (
  nm (mu C3 q (22 + (v2).toNatClampNeg) (C3 22 (v2).toNatClampNeg)) fun C10 =>
  nm (v2 + (1 : Int32)) fun v11 =>
  some (Sum.inl (v11, C10))))))
def F_X7_beginAs (q : Nat) (x0 : Int32) (C : Mem) : Option (Int32 × Mem) :=
  nm (mu C q 66 (if (if (8 : Int32) < (8 : Int32) then (8 : Int32) else (8 : Int32)) < x0 then (if (8 : Int32) < (8 : Int32) then (8 : Int32) else (8 : Int32)) else x0)) fun C1 =>
  b1 (iter (fun x => S_X7_beginAs_20 q x.1 x.2) fuel ((0 : Int32), C1)) (u2 fun v5 C6 =>
  nm (mu C6 q 13 (0 : Int32)) fun C12 =>
  nm (mu C12 q 14 (0 : Int32)) fun C13 =>
  nm (mu C13 q 15 (0 : Int32)) fun C14 =>
  nm (mu C14 q 16 (0 : Int32)) fun C15 =>
  nm (mu C15 q 17 (0 : Int32)) fun C16 =>
  some (0, C16))
def S_X7_copyFrom_10 (q : Nat) (q0 : Nat) (v2 : Int32) (C3 : Mem) : Option ((Int32 × Mem) ⊕ (Int32 × Mem)) :=
  (if (C3 q 66) ≤ v2 then (
  some (Sum.inr (v2, C3))) else (
  gi v2 8 (
  gi v2 8 (
  nm (mu C3 q (22 + (v2).toNatClampNeg) (C3 q0 (22 + (v2).toNatClampNeg))) fun C10 =>
  nm (v2 + (1 : Int32)) fun v11 =>
  some (Sum.inl (v11, C10))))))
def F_X7_copyFrom (q : Nat) (q0 : Nat) (C : Mem) : Option (Int32 × Mem) :=
  nm (mu C q 66 (C q0 66)) fun C1 =>
  b1 (iter (fun x => S_X7_copyFrom_10 q q0 x.1 x.2) fuel ((0 : Int32), C1)) (u2 fun v5 C6 =>
  nm (mu C6 q 13 (C6 q0 13)) fun C12 =>
  nm (mu C12 q 14 (C12 q0 14)) fun C13 =>
  nm (mu C13 q 15 (C13 q0 15)) fun C14 =>
  nm (mu C14 q 16 (C14 q0 16)) fun C15 =>
  nm (mu C15 q 17 (C15 q0 17)) fun C16 =>
  some (0, C16))
def S_X7_mean_4 (q : Nat) (v1 : Int32) (v2 : Int32) (C3 : Mem) : Option ((Int32 × Int32 × Mem) ⊕ (Int32 × Int32 × Mem)) :=
  (if (C3 q 66) ≤ v2 then (
  some (Sum.inr (v1, v2, C3))) else (
  gi v2 8 (
  nm (v1 + (C3 q (22 + (v2).toNatClampNeg))) fun v10 =>
  nm (v2 + (1 : Int32)) fun v11 =>
  some (Sum.inl (v10, v11, C3)))))
def F_X7_mean (q : Nat) (C : Mem) : Option (Int32 × Mem) :=
  b1 (iter (fun x => S_X7_mean_4 q x.1 x.2.1 x.2.2) fuel ((0 : Int32), (0 : Int32), C)) (u3 fun v5 v6 C7 =>
  (if (C7 q 66) ≤ 0 then (
  some ((0 : Int32), C7)) else (
  gz (C7 q 66) (
  some ((v5 / (C7 q 66)), C7)))))
def F_X7_highest (q : Nat) (C : Mem) : Option (Int32 × Mem) :=
  (if (C q 66) ≤ 0 then (
  some ((0 : Int32), C)) else (
  gi ((C q 66) - (1 : Int32)) 8 (
  some ((C q (22 + (((C q 66) - (1 : Int32))).toNatClampNeg)), C))))
def S_X7_coldest_5 (q : Nat) (v1 : Int32) (v2 : Int32) (C3 : Mem) : Option ((Int32 × Int32 × Mem) ⊕ (Int32 × Int32 × Mem)) :=
  (if (C3 q 66) ≤ v2 then (
  some (Sum.inr (v1, v2, C3))) else (
  gi v2 8 (
  nm (if (C3 q (22 + (v2).toNatClampNeg)) < v1 then (C3 q (22 + (v2).toNatClampNeg)) else v1) fun v10 =>
  nm (v2 + (1 : Int32)) fun v11 =>
  some (Sum.inl (v10, v11, C3)))))
def F_X7_coldest (q : Nat) (C : Mem) : Option (Int32 × Mem) :=
  b1 (iter (fun x => S_X7_coldest_5 q x.1 x.2.1 x.2.2) fuel ((99 : Int32), (0 : Int32), C)) (u3 fun v5 v6 C7 =>
  some (v5, C7))
def S_X7_deliver_24 (q : Nat) (v14 : Int32) (C15 : Mem) : Option ((Int32 × Mem) ⊕ (Int32 × Mem)) :=
  (if v14 ≤ 0 then (
  some (Sum.inr (v14, C15))) else (
  gi (v14 - (1 : Int32)) 8 (
  gi v14 8 (
  nm (mu C15 q (22 + (v14).toNatClampNeg) (C15 q (22 + ((v14 - (1 : Int32))).toNatClampNeg))) fun C22 =>
  nm (v14 + (-1 : Int32)) fun v23 =>
  some (Sum.inl (v23, C22))))))
def S_X7_deliver_4 (q : Nat) (x0 : Int32) (v1 : Int32) (v2 : Int32) (C3 : Mem) : Option ((Int32 × Int32 × Mem) ⊕ (Int32 × Int32 × Mem)) :=
  (if x0 ≤ v2 then (
  some (Sum.inr (v1, v2, C3))) else (
  b2 (F_X7_highest q C3) fun r9 C10 =>
  nm (v1 + r9) fun v12 =>
  nm ((C10 q 66) - (1 : Int32)) fun v13 =>
  b1 (iter (fun x => S_X7_deliver_24 q x.1 x.2) fuel (v13, C10)) (u2 fun v17 C18 =>
  nm (mu C18 q (22 + ((0 : Int32)).toNatClampNeg) (10 : Int32)) fun C24 =>
  nm (mu C24 q 14 ((C24 q 14) + (10 : Int32))) fun C25 =>
  nm (mu C25 q 17 ((C25 q 17) + (1 : Int32))) fun C26 =>
  nm (v2 + (1 : Int32)) fun v27 =>
  some (Sum.inl (v12, v27, C26)))))
def F_X7_deliver (q : Nat) (x0 : Int32) (C : Mem) : Option (Int32 × Mem) :=
  b1 (iter (fun x => S_X7_deliver_4 q x0 x.1 x.2.1 x.2.2) fuel ((0 : Int32), (0 : Int32), C)) (u3 fun v5 v6 C7 =>
  nm (mu C7 q 15 ((C7 q 15) + v5)) fun C28 =>
  some (v5, C28))
def S_X7_warm_20 (q : Nat) (v5 : Int32) (v13 : Int32) (v14 : Int32) (C15 : Mem) : Option ((Int32 × Int32 × Mem) ⊕ (Int32 × Int32 × Mem)) :=
  (if (C15 q 66) ≤ v14 then (
  some (Sum.inr (v13, v14, C15))) else (
  (if v13 ≤ 0 then (
  some (Sum.inr (v13, v14, C15))) else (
  gi v14 8 (
  (if (C15 q (22 + (v14).toNatClampNeg)) = v5 then (
  gi v14 8 (
  gi v14 8 (
  nm (mu C15 q (22 + (v14).toNatClampNeg) ((C15 q (22 + (v14).toNatClampNeg)) + (1 : Int32))) fun C27 =>
  nm (v13 + (-1 : Int32)) fun v28 =>
  nm (v14 + (1 : Int32)) fun v29 =>
  some (Sum.inl (v28, v29, C27))))) else (
  nm (v14 + (1 : Int32)) fun v24 =>
  some (Sum.inl (v13, v24, C15)))))))))
def S_X7_warm_7 (q : Nat) (v4 : Int32) (v5 : Int32) (C6 : Mem) : Option ((Int32 × Int32 × Mem) ⊕ (Int32 × Int32 × Mem)) :=
  (if (99 : Int32) ≤ v5 then (
  some (Sum.inr (v4, v5, C6))) else (
  (if v4 ≤ 0 then (
  some (Sum.inr (v4, v5, C6))) else (
  b1 (iter (fun x => S_X7_warm_20 q v5 x.1 x.2.1 x.2.2) fuel (v4, (0 : Int32), C6)) (u3 fun v17 v18 C19 =>
  nm (v5 + (1 : Int32)) fun v30 =>
  some (Sum.inl (v17, v30, C19)))))))
def F_X7_warm (q : Nat) (x0 : Int32) (C : Mem) : Option (Int32 × Mem) :=
  b2 (F_X7_coldest q C) fun r1 C2 =>
  b1 (iter (fun x => S_X7_warm_7 q x.1 x.2.1 x.2.2) fuel (x0, r1, C2)) (u3 fun v8 v9 C10 =>
  nm (mu C10 q 13 ((C10 q 13) + x0)) fun C31 =>
  nm (mu C31 q 16 ((C31 q 16) + v8)) fun C32 =>
  some (0, C32))
def S_X7_cool_2 (q : Nat) (v1 : Int32) (C2 : Mem) : Option ((Int32 × Mem) ⊕ (Int32 × Mem)) :=
  (if (C2 q 66) ≤ v1 then (
  some (Sum.inr (v1, C2))) else (
  gi v1 8 (
  (if (C2 q (22 + (v1).toNatClampNeg)) ≤ (20 : Int32) then (
  nm (v1 + (1 : Int32)) fun v9 =>
  some (Sum.inl (v9, C2))) else (
  gi v1 8 (
  nm (((C2 q (22 + (v1).toNatClampNeg)) - (20 : Int32)) / (20 : Int32)) fun v11 =>
  gi v1 8 (
  gi v1 8 (
  nm (mu C2 q (22 + (v1).toNatClampNeg) ((C2 q (22 + (v1).toNatClampNeg)) - v11)) fun C14 =>
  nm (mu C14 q 16 ((C14 q 16) + v11)) fun C15 =>
  nm (v1 + (1 : Int32)) fun v16 =>
  some (Sum.inl (v16, C15))))))))))
def F_X7_cool (q : Nat) (C : Mem) : Option (Int32 × Mem) :=
  b1 (iter (fun x => S_X7_cool_2 q x.1 x.2) fuel ((0 : Int32), C)) (u2 fun v4 C5 =>
  some (0, C5))
def S_X7_putInOrder_19 (q : Nat) (v8 : Int32) (v9 : Int32) (C10 : Mem) : Option ((Int32 × Mem) ⊕ (Int32 × Mem)) :=
  (if v9 ≤ 0 then (
  some (Sum.inr (v9, C10))) else (
  gi (v9 - (1 : Int32)) 8 (
  (if (C10 q (22 + ((v9 - (1 : Int32))).toNatClampNeg)) ≤ v8 then (
  some (Sum.inr (v9, C10))) else (
  gi (v9 - (1 : Int32)) 8 (
  gi v9 8 (
  nm (mu C10 q (22 + (v9).toNatClampNeg) (C10 q (22 + ((v9 - (1 : Int32))).toNatClampNeg))) fun C19 =>
  nm (v9 + (-1 : Int32)) fun v20 =>
  some (Sum.inl (v20, C19)))))))))
def S_X7_putInOrder_2 (q : Nat) (v1 : Int32) (C2 : Mem) : Option ((Int32 × Mem) ⊕ (Int32 × Mem)) :=
  (if (C2 q 66) ≤ v1 then (
  some (Sum.inr (v1, C2))) else (
  gi v1 8 (
  nm (C2 q (22 + (v1).toNatClampNeg)) fun v8 =>
  b1 (iter (fun x => S_X7_putInOrder_19 q v8 x.1 x.2) fuel (v1, C2)) (u2 fun v12 C13 =>
  gi v12 8 (
  nm (mu C13 q (22 + (v12).toNatClampNeg) v8) fun C22 =>
  nm (v1 + (1 : Int32)) fun v23 =>
  some (Sum.inl (v23, C22)))))))
def F_X7_putInOrder (q : Nat) (C : Mem) : Option (Int32 × Mem) :=
  b1 (iter (fun x => S_X7_putInOrder_2 q x.1 x.2) fuel ((1 : Int32), C)) (u2 fun v4 C5 =>
  some (0, C5))
def F_X4_add (x0 : Int32) (C : Mem) : Option (Int32 × Mem) :=
  (if (C 18 1) < 0 then (
  some ((0 : Int32), C)) else (
  (if (C 18 1) < (60 : Int32) then (
  gi (C 18 1) 60 (
  nm (mu C 19 ((C 18 1)).toNatClampNeg x0) fun C4 =>
  nm (mu C4 18 1 ((C4 18 1) + (1 : Int32))) fun C5 =>
  some ((1 : Int32), C5))) else (
  some ((0 : Int32), C)))))
def F_X4_hasMore  (C : Mem) : Option (Int32 × Mem) :=
  (if (C 18 10) = 0 then (
  (if (C 18 1) ≤ (C 18 9) then (
  some ((0 : Int32), C)) else (
  (if (60 : Int32) ≤ (C 18 9) then (
  some ((0 : Int32), C)) else (
  some ((1 : Int32), C)))))) else (
  some ((0 : Int32), C)))
def F_X4_sees (x0 : Int32) (C : Mem) : Option (Int32 × Mem) :=
  b2 (F_X4_hasMore  C) fun r1 C2 =>
  (if r1 = 0 then (
  some ((0 : Int32), C2)) else (
  gi (C2 18 9) 60 (
  (if (C2 19 ((C2 18 9)).toNatClampNeg) = x0 then (
  some ((1 : Int32), C2)) else (
  some ((0 : Int32), C2))))))
def F_X4_readSign (x0 : Int32) (C : Mem) : Option (Int32 × Mem) :=
  b2 (F_X4_sees x0 C) fun r1 C2 =>
  (if r1 = 0 then (
  nm (mu C2 18 10 (1 : Int32)) fun C5 =>
  some (0, C5)) else (
  nm (mu C2 18 9 ((C2 18 9) + (1 : Int32))) fun C6 =>
  some (0, C6)))
def F_X4_readDigit (x0 : Int32) (x1 : Int32) (C : Mem) : Option (Int32 × Mem) :=
  b2 (F_X4_hasMore  C) fun r1 C2 =>
  (if r1 = 0 then (
  nm (mu C2 18 10 (1 : Int32)) fun C5 =>
  some (x0, C5)) else (
  gi (C2 18 9) 60 (
  nm ((C2 19 ((C2 18 9)).toNatClampNeg) - (48 : Int32)) fun v7 =>
  (if v7 < x0 then (
  nm (mu C2 18 10 (1 : Int32)) fun C9 =>
  some (x0, C9)) else (
  (if x1 < v7 then (
  nm (mu C2 18 10 (1 : Int32)) fun C11 =>
  some (x0, C11)) else (
  nm (mu C2 18 9 ((C2 18 9) + (1 : Int32))) fun C12 =>
  some (v7, C12))))))))
def J_X4_readNumber_48 (r1 : Int32) (C2 : Mem) (v5 : Int32) (v7 : Int32) : Option (Int32 × Mem) :=
  b2 (F_X4_readDigit v5 v7 C2) fun r8 C9 =>
  some ((((10 : Int32) * r1) + r8), C9)
def J_X4_readNumber_29 (x1 : Int32) (r1 : Int32) (C2 : Mem) (v5 : Int32) : Option (Int32 × Mem) :=
  (if r1 = (x1 / (10 : Int32)) then (
  J_X4_readNumber_48 r1 C2 v5 (x1 - x1 / (10 : Int32) * (10 : Int32))) else (
  J_X4_readNumber_48 r1 C2 v5 (9 : Int32)))
def F_X4_readNumber (x0 : Int32) (x1 : Int32) (C : Mem) : Option (Int32 × Mem) :=
  b2 (F_X4_readDigit (x0 / (10 : Int32)) (x1 / (10 : Int32)) C) fun r1 C2 =>
  (if r1 = (x0 / (10 : Int32)) then (
  J_X4_readNumber_29 x1 r1 C2 (x0 - x0 / (10 : Int32) * (10 : Int32))) else (
  J_X4_readNumber_29 x1 r1 C2 (0 : Int32)))
def F_X4_readBoiler (x0 : Int32) (C : Mem) : Option (Int32 × Mem) :=
  b2 (F_X4_readSign (98 : Int32) C) fun r1 C2 =>
  b2 (F_X4_readNumber (1 : Int32) (30 : Int32) C2) fun r4 C5 =>
  gi x0 5 (
  nm (mu C5 20 (x0).toNatClampNeg r4) fun C8 =>
  b2 (F_X4_readDigit (0 : Int32) (1 : Int32) C8) fun r9 C10 =>
  gi x0 5 (
  nm (mu C10 21 (x0).toNatClampNeg r9) fun C13 =>
  some (0, C13)))
def S_X4_readTemperatures_10  (v4 : Int32) (v5 : Int32) (C6 : Mem) : Option ((Int32 × Int32 × Mem) ⊕ (Int32 × Int32 × Mem)) :=
  (if (C6 18 2) ≤ v5 then (
  some (Sum.inr (v4, v5, C6))) else (
  (if (8 : Int32) ≤ v5 then (
  some (Sum.inr (v4, v5, C6))) else (
  b2 (F_X4_readNumber v4 (99 : Int32) C6) fun r13 C14 =>
  gi v5 8 (
  nm (mu C14 22 (v5).toNatClampNeg r13) fun C17 =>
  nm (v5 + (1 : Int32)) fun v18 =>
  some (Sum.inl (r13, v18, C17)))))))
def F_X4_readTemperatures  (C : Mem) : Option (Int32 × Mem) :=
  b2 (F_X4_readSign (116 : Int32) C) fun r1 C2 =>
  b1 (iter (fun x => S_X4_readTemperatures_10  x.1 x.2.1 x.2.2) fuel ((0 : Int32), (0 : Int32), C2)) (u3 fun v8 v9 C10 =>
  some (0, C10))
def S_X4_fillTemperatures_2  (v1 : Int32) (C2 : Mem) : Option ((Int32 × Mem) ⊕ (Int32 × Mem)) :=
  (if (8 : Int32) ≤ v1 then (
  some (Sum.inr (v1, C2))) else (
  gi v1 8 (
  nm (mu C2 22 (v1).toNatClampNeg (40 : Int32)) fun C8 =>
  nm (v1 + (1 : Int32)) fun v9 =>
  some (Sum.inl (v9, C8)))))
def F_X4_fillTemperatures  (C : Mem) : Option (Int32 × Mem) :=
  b1 (iter (fun x => S_X4_fillTemperatures_2  x.1 x.2) fuel ((0 : Int32), C)) (u2 fun v4 C5 =>
  some (0, C5))
def S_X4_read_59   (C22 : Mem) : Option ((Mem) ⊕ (Mem)) :=
  (if (5 : Int32) ≤ (C22 18 5) then (
  some (Sum.inr C22)) else (
  b2 (F_X4_sees (98 : Int32) C22) fun r26 C27 =>
  (if r26 = 0 then (
  some (Sum.inr C27)) else (
  b2 (F_X4_readBoiler (C27 18 5) C27) fun r30 C31 =>
  nm (mu C31 18 5 ((C31 18 5) + (1 : Int32))) fun C33 =>
  some (Sum.inl C33)))))
def J_X4_read_117  (C38 : Mem) : Option (Int32 × Mem) :=
  (if (C38 18 10) = 0 then (
  (if (C38 18 1) ≤ (C38 18 9) then (
  some ((-9 : Int32), C38)) else (
  some ((C38 18 9), C38)))) else (
  some ((C38 18 9), C38)))
def F_X4_read  (C : Mem) : Option (Int32 × Mem) :=
  nm (mu C 18 9 (0 : Int32)) fun C1 =>
  nm (mu C1 18 10 (0 : Int32)) fun C2 =>
  b2 (F_X4_readSign (72 : Int32) C2) fun r3 C4 =>
  b2 (F_X4_readDigit (2 : Int32) (8 : Int32) C4) fun r6 C7 =>
  nm (mu C7 18 2 r6) fun C9 =>
  b2 (F_X4_readNumber (0 : Int32) (99 : Int32) C9) fun r10 C11 =>
  nm (mu C11 18 3 r10) fun C13 =>
  b2 (F_X4_readNumber (0 : Int32) (99 : Int32) C13) fun r14 C15 =>
  nm (mu C15 18 4 r14) fun C17 =>
  b2 (F_X4_readBoiler (0 : Int32) C17) fun r18 C19 =>
  nm (mu C19 18 5 (1 : Int32)) fun C21 =>
  b1 (iter (fun x => S_X4_read_59  x) fuel C21) (fun C24 =>
  b2 (F_X4_sees (116 : Int32) C24) fun r34 C35 =>
  (if r34 = 0 then (
  b2 (F_X4_fillTemperatures  C35) fun r41 C42 =>
  J_X4_read_117  C42) else (
  b2 (F_X4_readTemperatures  C35) fun r44 C45 =>
  J_X4_read_117  C45)))
def F_J6_bitCount_0f7a4 (x0 : Int32) (C : Mem) : Option (Int32 × Mem) :=
  nm (x0 - ((((x0).toUInt32 >>> (((1 : Int32)).toUInt32 &&& Int32.toUInt32 31)).toInt32) &&& (1431655765 : Int32))) fun v1 =>
  nm ((v1 &&& (858993459 : Int32)) + ((((v1).toUInt32 >>> (((2 : Int32)).toUInt32 &&& Int32.toUInt32 31)).toInt32) &&& (858993459 : Int32))) fun v2 =>
  nm ((v2 + (((v2).toUInt32 >>> (((4 : Int32)).toUInt32 &&& Int32.toUInt32 31)).toInt32)) &&& (252645135 : Int32)) fun v3 =>
  nm (v3 + (((v3).toUInt32 >>> (((8 : Int32)).toUInt32 &&& Int32.toUInt32 31)).toInt32)) fun v4 =>
  nm (v4 + (((v4).toUInt32 >>> (((16 : Int32)).toUInt32 &&& Int32.toUInt32 31)).toInt32)) fun v5 =>
  some ((v5 &&& (63 : Int32)), C)
def S_X5_beginAs_18 (q : Nat) (v2 : Int32) (C3 : Mem) : Option ((Int32 × Mem) ⊕ (Int32 × Mem)) :=
  (if (C3 q 65) ≤ v2 then (
  some (Sum.inr (v2, C3))) else (
  gi v2 5 (
  gi v2 5 (
  gi v2 5 (
  b2 (F_X0_beginAs q (v2).toNatClampNeg (C3 20 (v2).toNatClampNeg) (C3 21 (v2).toNatClampNeg) C3) fun r11 C12 =>
  nm (v2 + (1 : Int32)) fun v14 =>
  some (Sum.inl (v14, C12)))))))
def S_X5_beginAs_77 (q : Nat) (v21 : Int32) (C22 : Mem) : Option ((Int32 × Mem) ⊕ (Int32 × Mem)) :=
  (if (6 : Int32) ≤ v21 then (
  some (Sum.inr (v21, C22))) else (
  gi v21 6 (
  gi v21 6 (
  nm (mu C22 q (v21).toNatClampNeg (kFirst (v21).toNatClampNeg)) fun C29 =>
  nm (v21 + (1 : Int32)) fun v30 =>
  some (Sum.inl (v30, C29))))))
def F_X5_beginAs (q : Nat) (C : Mem) : Option (Int32 × Mem) :=
  nm (mu C q 65 (if (5 : Int32) < (C 18 5) then (5 : Int32) else (C 18 5))) fun C1 =>
  b1 (iter (fun x => S_X5_beginAs_18 q x.1 x.2) fuel ((0 : Int32), C1)) (u2 fun v5 C6 =>
  b2 (F_X1_beginAs q 0 (C6 18 3) C6) fun r15 C16 =>
  b2 (F_X1_beginAs q 1 (C16 18 4) C16) fun r18 C19 =>
  b1 (iter (fun x => S_X5_beginAs_77 q x.1 x.2) fuel ((0 : Int32), C19)) (u2 fun v24 C25 =>
  b2 (F_X7_beginAs q (C25 18 2) C25) fun r31 C32 =>
  b2 (F_X3_beginAsNew q C32) fun r34 C35 =>
  nm (mu C35 q 6 (0 : Int32)) fun C37 =>
  nm (mu C37 q 7 (0 : Int32)) fun C38 =>
  some (0, C38)))
def S_X5_copyFrom_10 (q : Nat) (q0 : Nat) (v2 : Int32) (C3 : Mem) : Option ((Int32 × Mem) ⊕ (Int32 × Mem)) :=
  (if (C3 q 65) ≤ v2 then (
  some (Sum.inr (v2, C3))) else (
  gi v2 5 (
  gi v2 5 (
  b2 (F_X0_copyFrom q (v2).toNatClampNeg q0 (v2).toNatClampNeg C3) fun r10 C11 =>
  nm (v2 + (1 : Int32)) fun v13 =>
  some (Sum.inl (v13, C11))))))
def S_X5_copyFrom_63 (q : Nat) (q0 : Nat) (v20 : Int32) (C21 : Mem) : Option ((Int32 × Mem) ⊕ (Int32 × Mem)) :=
  (if (6 : Int32) ≤ v20 then (
  some (Sum.inr (v20, C21))) else (
  gi v20 6 (
  gi v20 6 (
  nm (mu C21 q (v20).toNatClampNeg (C21 q0 (v20).toNatClampNeg)) fun C28 =>
  nm (v20 + (1 : Int32)) fun v29 =>
  some (Sum.inl (v29, C28))))))
def F_X5_copyFrom (q : Nat) (q0 : Nat) (C : Mem) : Option (Int32 × Mem) :=
  nm (mu C q 65 (C q0 65)) fun C1 =>
  b1 (iter (fun x => S_X5_copyFrom_10 q q0 x.1 x.2) fuel ((0 : Int32), C1)) (u2 fun v5 C6 =>
  b2 (F_X1_copyFrom q 0 q0 0 C6) fun r14 C15 =>
  b2 (F_X1_copyFrom q 1 q0 1 C15) fun r17 C18 =>
  b1 (iter (fun x => S_X5_copyFrom_63 q q0 x.1 x.2) fuel ((0 : Int32), C18)) (u2 fun v23 C24 =>
  b2 (F_X7_copyFrom q q0 C24) fun r30 C31 =>
  b2 (F_X3_copyFrom q q0 C31) fun r33 C34 =>
  nm (mu C34 q 6 (C34 q0 6)) fun C36 =>
  nm (mu C36 q 7 (C36 q0 7)) fun C37 =>
  some (0, C37)))
def F_X5_hasBoiler (q : Nat) (x0 : Int32) (C : Mem) : Option (Int32 × Mem) :=
  (if x0 < 0 then (
  some ((0 : Int32), C)) else (
  (if (C q 65) ≤ x0 then (
  some ((0 : Int32), C)) else (
  some ((1 : Int32), C)))))
def F_X5_flueOf (q : Nat) (x0 : Int32) (C : Mem) : Option (Nat × Mem) :=
  (if x0 = 0 then (
  some (0, C)) else (
  some (1, C)))
def S_X5_useOf_4 (q : Nat) (x0 : Int32) (v1 : Int32) (v2 : Int32) (C3 : Mem) : Option ((Int32 × Int32 × Mem) ⊕ (Int32 × Int32 × Mem)) :=
  (if (C3 q 65) ≤ v2 then (
  some (Sum.inr (v1, v2, C3))) else (
  gi v2 5 (
  (if (C3 q (30 + 7 * (v2).toNatClampNeg + 1)) = x0 then (
  (if (C3 q (30 + 7 * (v2).toNatClampNeg + 2)) = (1 : Int32) then (
  nm (v1 + (C3 q (30 + 7 * (v2).toNatClampNeg))) fun v13 =>
  nm (v2 + (1 : Int32)) fun v14 =>
  some (Sum.inl (v13, v14, C3))) else (
  (if (C3 q (30 + 7 * (v2).toNatClampNeg + 2)) = (2 : Int32) then (
  nm (v1 + (C3 q (30 + 7 * (v2).toNatClampNeg))) fun v17 =>
  nm (v2 + (1 : Int32)) fun v18 =>
  some (Sum.inl (v17, v18, C3))) else (
  nm (v2 + (1 : Int32)) fun v16 =>
  some (Sum.inl (v1, v16, C3))))))) else (
  nm (v2 + (1 : Int32)) fun v11 =>
  some (Sum.inl (v1, v11, C3)))))))
def F_X5_useOf (q : Nat) (x0 : Int32) (C : Mem) : Option (Int32 × Mem) :=
  b1 (iter (fun x => S_X5_useOf_4 q x0 x.1 x.2.1 x.2.2) fuel ((0 : Int32), (0 : Int32), C)) (u3 fun v5 v6 C7 =>
  some (v5, C7))
def S_X5_countAtFlue_4 (q : Nat) (x0 : Int32) (v1 : Int32) (v2 : Int32) (C3 : Mem) : Option ((Int32 × Int32 × Mem) ⊕ (Int32 × Int32 × Mem)) :=
  (if (C3 q 65) ≤ v2 then (
  some (Sum.inr (v1, v2, C3))) else (
  gi v2 5 (
  (if (C3 q (30 + 7 * (v2).toNatClampNeg + 1)) = x0 then (
  nm (v1 + (1 : Int32)) fun v12 =>
  nm (v2 + (1 : Int32)) fun v13 =>
  some (Sum.inl (v12, v13, C3))) else (
  nm (v2 + (1 : Int32)) fun v11 =>
  some (Sum.inl (v1, v11, C3)))))))
def F_X5_countAtFlue (q : Nat) (x0 : Int32) (C : Mem) : Option (Int32 × Mem) :=
  b1 (iter (fun x => S_X5_countAtFlue_4 q x0 x.1 x.2.1 x.2.2) fuel ((0 : Int32), (0 : Int32), C)) (u3 fun v5 v6 C7 =>
  some (v5, C7))
def S_X5_countInState_4 (q : Nat) (x0 : Int32) (v1 : Int32) (v2 : Int32) (C3 : Mem) : Option ((Int32 × Int32 × Mem) ⊕ (Int32 × Int32 × Mem)) :=
  (if (C3 q 65) ≤ v2 then (
  some (Sum.inr (v1, v2, C3))) else (
  gi v2 5 (
  (if (C3 q (30 + 7 * (v2).toNatClampNeg + 2)) = x0 then (
  nm (v1 + (1 : Int32)) fun v12 =>
  nm (v2 + (1 : Int32)) fun v13 =>
  some (Sum.inl (v12, v13, C3))) else (
  nm (v2 + (1 : Int32)) fun v11 =>
  some (Sum.inl (v1, v11, C3)))))))
def F_X5_countInState (q : Nat) (x0 : Int32) (C : Mem) : Option (Int32 × Mem) :=
  b1 (iter (fun x => S_X5_countInState_4 q x0 x.1 x.2.1 x.2.2) fuel ((0 : Int32), (0 : Int32), C)) (u3 fun v5 v6 C7 =>
  some (v5, C7))
def S_X5_fuel_4 (q : Nat) (v1 : Int32) (v2 : Int32) (C3 : Mem) : Option ((Int32 × Int32 × Mem) ⊕ (Int32 × Int32 × Mem)) :=
  (if (C3 q 65) ≤ v2 then (
  some (Sum.inr (v1, v2, C3))) else (
  gi v2 5 (
  nm (v1 + (C3 q (30 + 7 * (v2).toNatClampNeg + 6))) fun v10 =>
  nm (v2 + (1 : Int32)) fun v11 =>
  some (Sum.inl (v10, v11, C3)))))
def F_X5_fuel (q : Nat) (C : Mem) : Option (Int32 × Mem) :=
  b1 (iter (fun x => S_X5_fuel_4 q x.1 x.2.1 x.2.2) fuel ((0 : Int32), (0 : Int32), C)) (u3 fun v5 v6 C7 =>
  some (v5, C7))
def S_X5_starts_4 (q : Nat) (v1 : Int32) (v2 : Int32) (C3 : Mem) : Option ((Int32 × Int32 × Mem) ⊕ (Int32 × Int32 × Mem)) :=
  (if (C3 q 65) ≤ v2 then (
  some (Sum.inr (v1, v2, C3))) else (
  gi v2 5 (
  nm (v1 + (C3 q (30 + 7 * (v2).toNatClampNeg + 5))) fun v10 =>
  nm (v2 + (1 : Int32)) fun v11 =>
  some (Sum.inl (v10, v11, C3)))))
def F_X5_starts (q : Nat) (C : Mem) : Option (Int32 × Mem) :=
  b1 (iter (fun x => S_X5_starts_4 q x.1 x.2.1 x.2.2) fuel ((0 : Int32), (0 : Int32), C)) (u3 fun v5 v6 C7 =>
  some (v5, C7))
def F_X5_hasRoomFor (q : Nat) (q0 : Nat) (i0 : Nat) (C : Mem) : Option (Int32 × Mem) :=
  b2 (F_X5_flueOf q (C q0 (30 + 7 * i0 + 1)) C) fun r1 C2 =>
  gn r1 2 (
  (if (C2 q (20 + r1)) = 0 then (
  some ((0 : Int32), C2)) else (
  b2 (F_X5_useOf q (C2 q0 (30 + 7 * i0 + 1)) C2) fun r6 C7 =>
  (if (C7 q (18 + r1)) < (r6 + (C7 q0 (30 + 7 * i0))) then (
  some ((0 : Int32), C7)) else (
  some ((1 : Int32), C7))))))
def S_X5_firstToStart_7 (q : Nat) (v1 : Int32) (v2 : Int32) (v3 : Int32) (C4 : Mem) : Option ((Int32 × Int32 × Int32 × Mem) ⊕ (Int32 × Int32 × Int32 × Mem)) :=
  (if (C4 q 65) ≤ v3 then (
  some (Sum.inr (v1, v2, v3, C4))) else (
  gi v3 5 (
  b2 (F_X0_waits q (v3).toNatClampNeg C4) fun r12 C13 =>
  (if r12 = 0 then (
  nm (v3 + (1 : Int32)) fun v16 =>
  some (Sum.inl (v1, v2, v16, C13))) else (
  (if v1 = (-9 : Int32) then (
  b2 (F_X5_hasRoomFor q q (v3).toNatClampNeg C13) fun r18 C19 =>
  (if r18 = 0 then (
  nm (v3 + (1 : Int32)) fun v22 =>
  some (Sum.inl (v1, v2, v22, C19))) else (
  nm (C19 q (30 + 7 * (v3).toNatClampNeg + 4)) fun v23 =>
  nm (v3 + (1 : Int32)) fun v24 =>
  some (Sum.inl (v3, v23, v24, C19))))) else (
  (if v2 ≤ (C13 q (30 + 7 * (v3).toNatClampNeg + 4)) then (
  nm (v3 + (1 : Int32)) fun v26 =>
  some (Sum.inl (v1, v2, v26, C13))) else (
  b2 (F_X5_hasRoomFor q q (v3).toNatClampNeg C13) fun r27 C28 =>
  (if r27 = 0 then (
  nm (v3 + (1 : Int32)) fun v31 =>
  some (Sum.inl (v1, v2, v31, C28))) else (
  nm (C28 q (30 + 7 * (v3).toNatClampNeg + 4)) fun v32 =>
  nm (v3 + (1 : Int32)) fun v33 =>
  some (Sum.inl (v3, v32, v33, C28)))))))))))))
def F_X5_firstToStart (q : Nat) (C : Mem) : Option (Int32 × Mem) :=
  b1 (iter (fun x => S_X5_firstToStart_7 q x.1 x.2.1 x.2.2.1 x.2.2.2) fuel ((-9 : Int32), (0 : Int32), (0 : Int32), C)) (u4 fun v6 v7 v8 C9 =>
  some (v6, C9))
def S_X5_firstToRest_7 (q : Nat) (v1 : Int32) (v2 : Int32) (v3 : Int32) (C4 : Mem) : Option ((Int32 × Int32 × Int32 × Mem) ⊕ (Int32 × Int32 × Int32 × Mem)) :=
  (if (C4 q 65) ≤ v3 then (
  some (Sum.inr (v1, v2, v3, C4))) else (
  gi v3 5 (
  (if (C4 q (30 + 7 * (v3).toNatClampNeg + 2)) = (2 : Int32) then (
  gi v3 5 (
  (if (C4 q (30 + 7 * (v3).toNatClampNeg + 4)) < v2 then (
  nm (v3 + (1 : Int32)) fun v16 =>
  some (Sum.inl (v1, v2, v16, C4))) else (
  gi v3 5 (
  nm (C4 q (30 + 7 * (v3).toNatClampNeg + 4)) fun v18 =>
  nm (v3 + (1 : Int32)) fun v19 =>
  some (Sum.inl (v3, v18, v19, C4))))))) else (
  nm (v3 + (1 : Int32)) fun v13 =>
  some (Sum.inl (v1, v2, v13, C4)))))))
def F_X5_firstToRest (q : Nat) (C : Mem) : Option (Int32 × Mem) :=
  b1 (iter (fun x => S_X5_firstToRest_7 q x.1 x.2.1 x.2.2.1 x.2.2.2) fuel ((-9 : Int32), (0 : Int32), (0 : Int32), C)) (u4 fun v6 v7 v8 C9 =>
  some (v6, C9))
def S_X5_moveFlue_14 (q : Nat) (x0 : Int32) (x1 : Int32) (v7 : Int32) (v8 : Int32) (C9 : Mem) : Option ((Int32 × Int32 × Mem) ⊕ (Int32 × Int32 × Mem)) :=
  (if (C9 q 65) ≤ v8 then (
  some (Sum.inr (v7, v8, C9))) else (
  (if x1 = 0 then (
  gi v8 5 (
  (if (C9 q (30 + 7 * (v8).toNatClampNeg + 1)) = x0 then (
  (if (C9 q (30 + 7 * (v8).toNatClampNeg + 2)) = 0 then (
  nm (v8 + (1 : Int32)) fun v20 =>
  some (Sum.inl (v7, v20, C9))) else (
  (if (C9 q (30 + 7 * (v8).toNatClampNeg + 2)) = (4 : Int32) then (
  nm (v8 + (1 : Int32)) fun v22 =>
  some (Sum.inl (v7, v22, C9))) else (
  b2 (F_X0_leaveFor q (v8).toNatClampNeg (0 : Int32) C9) fun r23 C24 =>
  nm (v7 + (1 : Int32)) fun v26 =>
  nm (v8 + (1 : Int32)) fun v27 =>
  some (Sum.inl (v26, v27, C24))))))) else (
  nm (v8 + (1 : Int32)) fun v18 =>
  some (Sum.inl (v7, v18, C9)))))) else (
  some (Sum.inr (v7, v8, C9))))))
def F_X5_moveFlue (q : Nat) (x0 : Int32) (x1 : Int32) (C : Mem) : Option (Int32 × Mem) :=
  b2 (F_X5_flueOf q x0 C) fun r1 C2 =>
  gn r1 2 (
  gb x1 (
  nm (mu C2 q (20 + r1) x1) fun C6 =>
  b1 (iter (fun x => S_X5_moveFlue_14 q x0 x1 x.1 x.2.1 x.2.2) fuel ((0 : Int32), (0 : Int32), C6)) (u3 fun v11 v12 C13 =>
  some (v11, C13))))
def S_X5_whyNoneStarts_4 (q : Nat) (v1 : Int32) (v2 : Int32) (C3 : Mem) : Option ((Int32 × Int32 × Mem) ⊕ (Int32 × Int32 × Mem)) :=
  (if (C3 q 65) ≤ v2 then (
  some (Sum.inr (v1, v2, C3))) else (
  gi v2 5 (
  b2 (F_X0_waits q (v2).toNatClampNeg C3) fun r10 C11 =>
  (if r10 = 0 then (
  nm (v2 + (1 : Int32)) fun v14 =>
  some (Sum.inl (v1, v14, C11))) else (
  gi v2 5 (
  b2 (F_X5_flueOf q (C11 q (30 + 7 * (v2).toNatClampNeg + 1)) C11) fun r16 C17 =>
  gn r16 2 (
  (if (C17 q (20 + r16)) = 0 then (
  nm (if (2 : Int32) < v1 then (2 : Int32) else v1) fun v21 =>
  nm (v2 + (1 : Int32)) fun v22 =>
  some (Sum.inl (v21, v22, C17))) else (
  nm (if (1 : Int32) < v1 then (1 : Int32) else v1) fun v23 =>
  nm (v2 + (1 : Int32)) fun v24 =>
  some (Sum.inl (v23, v24, C17)))))))))))
def F_X5_whyNoneStarts (q : Nat) (C : Mem) : Option (Int32 × Mem) :=
  b1 (iter (fun x => S_X5_whyNoneStarts_4 q x.1 x.2.1 x.2.2) fuel ((3 : Int32), (0 : Int32), C)) (u3 fun v5 v6 C7 =>
  some (v5, C7))
def F_X5_control (q : Nat) (x0 : Int32) (C : Mem) : Option (Int32 × Mem) :=
  b2 (F_X7_mean q C) fun r1 C2 =>
  nm (mu C2 q 7 (0 : Int32)) fun C4 =>
  (if (x0 - (C4 q ((1 : Int32)).toNatClampNeg)) ≤ r1 then (
  (if r1 ≤ (x0 + (C4 q ((1 : Int32)).toNatClampNeg)) then (
  some (0, C4)) else (
  b2 (F_X5_firstToRest q C4) fun r7 C8 =>
  b2 (F_X5_hasBoiler q r7 C8) fun r10 C11 =>
  (if r10 = 0 then (
  some (0, C11)) else (
  gi r7 5 (
  b2 (F_X0_leaveFor q (r7).toNatClampNeg (3 : Int32) C11) fun r15 C16 =>
  some (0, C16))))))) else (
  b2 (F_X5_firstToStart q C4) fun r18 C19 =>
  b2 (F_X5_hasBoiler q r18 C19) fun r21 C22 =>
  (if r21 = 0 then (
  b2 (F_X5_whyNoneStarts q C22) fun r25 C26 =>
  nm (mu C26 q 7 r25) fun C28 =>
  some (0, C28)) else (
  gi r18 5 (
  b2 (F_X0_start q (r18).toNatClampNeg (C22 q ((2 : Int32)).toNatClampNeg) C22) fun r30 C31 =>
  some (0, C31))))))
def S_X5_passTicks_72 (q : Nat) (v17 : Int32) (C18 : Mem) : Option ((Int32 × Mem) ⊕ (Int32 × Mem)) :=
  (if (C18 q 65) ≤ v17 then (
  some (Sum.inr (v17, C18))) else (
  gi v17 5 (
  b2 (F_X0_work q (v17).toNatClampNeg C18) fun r24 C25 =>
  b2 (F_X7_warm q r24 C25) fun r27 C28 =>
  nm (v17 + (1 : Int32)) fun v30 =>
  some (Sum.inl (v30, C28)))))
def J_X5_passTicks_143 (q : Nat) (v1 : Int32) (C38 : Mem) (v41 : Int32) : Option ((Int32 × Mem) ⊕ (Int32 × Mem)) :=
  b2 (F_X3_countTick q v41 (C38 q ((4 : Int32)).toNatClampNeg) C38) fun r42 C43 =>
  nm (mu C43 q 6 ((C43 q 6) + (1 : Int32))) fun C45 =>
  nm (v1 + (1 : Int32)) fun v46 =>
  some (Sum.inl (v46, C45))
def J_X5_passTicks_66 (q : Nat) (v1 : Int32) (C11 : Mem) (v13 : Int32) : Option ((Int32 × Mem) ⊕ (Int32 × Mem)) :=
  b2 (F_X5_control q v13 C11) fun r14 C15 =>
  b1 (iter (fun x => S_X5_passTicks_72 q x.1 x.2) fuel ((0 : Int32), C15)) (u2 fun v20 C21 =>
  b2 (F_X7_cool q C21) fun r31 C32 =>
  b2 (F_X7_putInOrder q C32) fun r34 C35 =>
  b2 (F_X7_coldest q C35) fun r37 C38 =>
  (if r37 < (C38 q ((3 : Int32)).toNatClampNeg) then (
  J_X5_passTicks_143 q v1 C38 (0 : Int32)) else (
  J_X5_passTicks_143 q v1 C38 (1 : Int32))))
def J_X5_passTicks_40 (q : Nat) (v1 : Int32) (C11 : Mem) : Option ((Int32 × Mem) ⊕ (Int32 × Mem)) :=
  (if (C11 q 8) = 0 then (
  J_X5_passTicks_66 q v1 C11 (C11 q ((0 : Int32)).toNatClampNeg)) else (
  J_X5_passTicks_66 q v1 C11 (C11 q ((3 : Int32)).toNatClampNeg)))
def S_X5_passTicks_2 (q : Nat) (x0 : Int32) (x1 : Int32) (v1 : Int32) (C2 : Mem) : Option ((Int32 × Mem) ⊕ (Int32 × Mem)) :=
  (if x0 ≤ v1 then (
  some (Sum.inr (v1, C2))) else (
  b2 (F_X7_deliver q x1 C2) fun r7 C8 =>
  (if ((C8 q 6) - (C8 q 6) / (24 : Int32) * (24 : Int32)) = (C8 q ((5 : Int32)).toNatClampNeg) then (
  nm (mu C8 q 8 (1 : Int32)) fun C47 =>
  J_X5_passTicks_40 q v1 C47) else (
  J_X5_passTicks_40 q v1 C8))))
def F_X5_passTicks (q : Nat) (x0 : Int32) (x1 : Int32) (C : Mem) : Option (Int32 × Mem) :=
  b1 (iter (fun x => S_X5_passTicks_2 q x0 x1 x.1 x.2) fuel ((0 : Int32), C)) (u2 fun v4 C5 =>
  some (0, C5))
def S_X5_powerAt_5 (q : Nat) (x0 : Int32) (x1 : Int32) (v1 : Int32) (v2 : Int32) (C3 : Mem) : Option ((Int32 × Int32 × Mem) ⊕ (Int32 × Int32 × Mem)) :=
  (if (C3 q 65) ≤ v2 then (
  some (Sum.inr (v1, v2, C3))) else (
  (if ((x1 >>> (v2 &&& 31)) &&& (1 : Int32)) = (1 : Int32) then (
  gi v2 5 (
  (if (C3 q (30 + 7 * (v2).toNatClampNeg + 1)) = x0 then (
  gi v2 5 (
  nm (v1 + (C3 q (30 + 7 * (v2).toNatClampNeg))) fun v15 =>
  nm (v2 + (1 : Int32)) fun v16 =>
  some (Sum.inl (v15, v16, C3)))) else (
  nm (v2 + (1 : Int32)) fun v13 =>
  some (Sum.inl (v1, v13, C3)))))) else (
  nm (v2 + (1 : Int32)) fun v10 =>
  some (Sum.inl (v1, v10, C3))))))
def F_X5_powerAt (q : Nat) (x0 : Int32) (x1 : Int32) (C : Mem) : Option (Int32 × Mem) :=
  b1 (iter (fun x => S_X5_powerAt_5 q x0 x1 x.1 x.2.1 x.2.2) fuel ((0 : Int32), (0 : Int32), C)) (u3 fun v5 v6 C7 =>
  some (v5, C7))
def F_X5_powerOf (q : Nat) (x0 : Int32) (C : Mem) : Option (Int32 × Mem) :=
  b2 (F_X5_powerAt q (0 : Int32) x0 C) fun r1 C2 =>
  b2 (F_X5_powerAt q (1 : Int32) x0 C2) fun r4 C5 =>
  some ((r1 + r4), C5)
def F_X5_fitsDrafts (q : Nat) (x0 : Int32) (C : Mem) : Option (Int32 × Mem) :=
  b2 (F_X5_powerAt q (0 : Int32) x0 C) fun r1 C2 =>
  (if (C2 q (18 + 0)) < r1 then (
  some ((0 : Int32), C2)) else (
  b2 (F_X5_powerAt q (1 : Int32) x0 C2) fun r5 C6 =>
  (if (C6 q (18 + 1)) < r5 then (
  some ((0 : Int32), C6)) else (
  some ((1 : Int32), C6)))))
def F_X5_isSmallerSet (q : Nat) (x0 : Int32) (x1 : Int32) (C : Mem) : Option (Int32 × Mem) :=
  b2 (F_J6_bitCount_0f7a4 x0 C) fun r1 C2 =>
  b2 (F_J6_bitCount_0f7a4 x1 C2) fun r4 C5 =>
  (if r1 < r4 then (
  some ((1 : Int32), C5)) else (
  (if r1 = r4 then (
  b2 (F_X5_powerOf q x0 C5) fun r9 C10 =>
  b2 (F_X5_powerOf q x1 C10) fun r12 C13 =>
  (if r12 ≤ r9 then (
  some ((0 : Int32), C13)) else (
  some ((1 : Int32), C13)))) else (
  some ((0 : Int32), C5)))))
def F_X2_forgetAll  (C : Mem) : Option (Int32 × Mem) :=
  nm (mu C 23 2 (0 : Int32)) fun C1 =>
  some (0, C1)
def J_X2_remember_17 (q0 : Nat) (C2 : Mem) : Option (Int32 × Mem) :=
  gi (C2 23 1) 14 (
  b2 (F_X5_copyFrom (2 + ((C2 23 1)).toNatClampNeg) q0 C2) fun r4 C5 =>
  nm (mu C5 23 1 ((C5 23 1) + (1 : Int32))) fun C7 =>
  nm (mu C7 23 2 (if (14 : Int32) < ((C7 23 2) + (1 : Int32)) then (14 : Int32) else ((C7 23 2) + (1 : Int32)))) fun C8 =>
  some (0, C8))
def F_X2_remember (q0 : Nat) (C : Mem) : Option (Int32 × Mem) :=
  (if (C 23 1) < (14 : Int32) then (
  J_X2_remember_17 q0 C) else (
  nm (mu C 23 1 (0 : Int32)) fun C9 =>
  J_X2_remember_17 q0 C9))
def J_X2_takeBackInto_33 (q0 : Nat) (C : Mem) (v3 : Int32) : Option (Int32 × Mem) :=
  nm (mu C 23 1 v3) fun C4 =>
  gi (C4 23 1) 14 (
  b2 (F_X5_copyFrom q0 (2 + ((C4 23 1)).toNatClampNeg) C4) fun r6 C7 =>
  nm (mu C7 23 2 ((C7 23 2) - (1 : Int32))) fun C9 =>
  some ((1 : Int32), C9))
def F_X2_takeBackInto (q0 : Nat) (C : Mem) : Option (Int32 × Mem) :=
  (if 0 < (C 23 2) then (
  (if (C 23 1) ≤ 0 then (
  J_X2_takeBackInto_33 q0 C ((14 : Int32) - (1 : Int32))) else (
  J_X2_takeBackInto_33 q0 C ((C 23 1) - (1 : Int32))))) else (
  some ((0 : Int32), C)))
def F_X8_requireWithin (x0 : Int32) (x1 : Int32) (x2 : Int32) (C : Mem) : Option (Rs × Mem) :=
  (if x0 < x1 then (
  some (Sum.inr 1, C)) else (
  (if x0 ≤ x2 then (
  some (Sum.inl 0, C)) else (
  some (Sum.inr 1, C)))))
def F_X8_append (x0 : Int32) (C : Mem) : Option (Rs × Mem) :=
  b2 (F_X8_requireWithin x0 (0 : Int32) (255 : Int32) C) fun r1 C2 => Sum.elim (fun v4 =>
  b2 (F_X4_add x0 C2) fun r6 C7 =>
  (if r6 = 0 then (
  some (Sum.inr 2, C7)) else (
  some (Sum.inl (C7 18 1), C7)))) (fun k => some (Sum.inr k, C2)) r1
def F_X8_clearText  (C : Mem) : Option (Int32 × Mem) :=
  nm (C 18 1) fun v1 =>
  nm (mu C 18 1 (0 : Int32)) fun C2 =>
  some (v1, C2)
def F_X8_errorPosition  (C : Mem) : Option (Int32 × Mem) :=
  b2 (F_X4_read  C) fun r1 C2 =>
  some (r1, C2)
def F_X8_load  (C : Mem) : Option (Rs × Mem) :=
  b2 (F_X4_read  C) fun r1 C2 =>
  (if r1 = (-9 : Int32) then (
  b2 (F_X5_beginAs 0 C2) fun r5 C6 =>
  b2 (F_X2_forgetAll  C6) fun r8 C9 =>
  nm (mu C9 24 0 (0 : Int32)) fun C11 =>
  nm (mu C11 24 1 (0 : Int32)) fun C12 =>
  some (Sum.inl (C12 0 65), C12)) else (
  some (Sum.inr 2, C2)))
def F_X8_about (x0 : Int32) (C : Mem) : Option (Rs × Mem) :=
  b2 (F_X8_requireWithin x0 (0 : Int32) (16 : Int32) C) fun r1 C2 => Sum.elim (fun v4 =>
  (if (6 : Int32) ≤ x0 then (
  (if x0 = (6 : Int32) then (
  some (Sum.inl (C2 0 65), C2)) else (
  (if x0 = (7 : Int32) then (
  some (Sum.inl (C2 0 66), C2)) else (
  (if x0 = (8 : Int32) then (
  some (Sum.inl (C2 0 6), C2)) else (
  (if x0 = (9 : Int32) then (
  b2 (F_X7_mean 0 C2) fun r17 C18 =>
  some (Sum.inl r17, C18)) else (
  (if x0 = (10 : Int32) then (
  some (Sum.inl (C2 0 7), C2)) else (
  (if x0 = (11 : Int32) then (
  (if (C2 0 8) = 0 then (
  some (Sum.inl (0 : Int32), C2)) else (
  some (Sum.inl (1 : Int32), C2)))) else (
  (if x0 = (12 : Int32) then (
  some (Sum.inl (C2 0 9), C2)) else (
  (if x0 = (13 : Int32) then (
  some (Sum.inl (C2 0 10), C2)) else (
  (if x0 = (14 : Int32) then (
  some (Sum.inl (C2 0 11), C2)) else (
  (if x0 = (15 : Int32) then (
  some (Sum.inl (C2 0 12), C2)) else (
  b2 (F_X5_countInState 0 (2 : Int32) C2) fun r21 C22 =>
  some (Sum.inl r21, C22)))))))))))))))))))))) else (
  gi x0 6 (
  some (Sum.inl (C2 0 (x0).toNatClampNeg), C2))))) (fun k => some (Sum.inr k, C2)) r1
def F_X8_requireBoiler (x0 : Int32) (C : Mem) : Option (Rs × Mem) :=
  b2 (F_X5_hasBoiler 0 x0 C) fun r1 C2 =>
  (if r1 = 0 then (
  some (Sum.inr 3, C2)) else (
  some (Sum.inl 0, C2)))
def F_X8_boiler (x0 : Int32) (x1 : Int32) (C : Mem) : Option (Rs × Mem) :=
  b2 (F_X8_requireBoiler x0 C) fun r1 C2 => Sum.elim (fun v4 =>
  b2 (F_X8_requireWithin x1 (0 : Int32) (7 : Int32) C2) fun r6 C7 => Sum.elim (fun v9 =>
  gi x0 5 (
  (if x1 = (0 : Int32) then (
  some (Sum.inl (C7 0 (30 + 7 * (x0).toNatClampNeg)), C7)) else (
  (if x1 = (1 : Int32) then (
  some (Sum.inl (C7 0 (30 + 7 * (x0).toNatClampNeg + 1)), C7)) else (
  (if x1 = (2 : Int32) then (
  some (Sum.inl (C7 0 (30 + 7 * (x0).toNatClampNeg + 2)), C7)) else (
  (if x1 = (3 : Int32) then (
  some (Sum.inl (C7 0 (30 + 7 * (x0).toNatClampNeg + 3)), C7)) else (
  (if x1 = (4 : Int32) then (
  some (Sum.inl (C7 0 (30 + 7 * (x0).toNatClampNeg + 4)), C7)) else (
  (if x1 = (5 : Int32) then (
  some (Sum.inl (C7 0 (30 + 7 * (x0).toNatClampNeg + 5)), C7)) else (
  (if x1 = (6 : Int32) then (
  some (Sum.inl (C7 0 (30 + 7 * (x0).toNatClampNeg + 6)), C7)) else (
  b2 (F_X5_hasRoomFor 0 0 (x0).toNatClampNeg C7) fun r19 C20 =>
  (if r19 = 0 then (
  some (Sum.inl (0 : Int32), C20)) else (
  some (Sum.inl (1 : Int32), C20))))))))))))))))))) (fun k => some (Sum.inr k, C7)) r6) (fun k => some (Sum.inr k, C2)) r1
def F_X8_requireFlue (x0 : Int32) (C : Mem) : Option (Rs × Mem) :=
  (if x0 < 0 then (
  some (Sum.inr 3, C)) else (
  (if x0 < (2 : Int32) then (
  some (Sum.inl 0, C)) else (
  some (Sum.inr 3, C)))))
def F_X8_flue (x0 : Int32) (x1 : Int32) (C : Mem) : Option (Rs × Mem) :=
  b2 (F_X8_requireFlue x0 C) fun r1 C2 => Sum.elim (fun v4 =>
  b2 (F_X8_requireWithin x1 (0 : Int32) (3 : Int32) C2) fun r6 C7 => Sum.elim (fun v9 =>
  b2 (F_X5_flueOf 0 x0 C7) fun r11 C12 =>
  gn r11 2 (
  (if x1 = (0 : Int32) then (
  some (Sum.inl (C12 0 (18 + r11)), C12)) else (
  (if x1 = (1 : Int32) then (
  b2 (F_X5_useOf 0 x0 C12) fun r18 C19 =>
  some (Sum.inl r18, C19)) else (
  (if x1 = (2 : Int32) then (
  (if (C12 0 (20 + r11)) = 0 then (
  some (Sum.inl (0 : Int32), C12)) else (
  some (Sum.inl (1 : Int32), C12)))) else (
  b2 (F_X5_countAtFlue 0 x0 C12) fun r22 C23 =>
  some (Sum.inl r22, C23))))))))) (fun k => some (Sum.inr k, C7)) r6) (fun k => some (Sum.inr k, C2)) r1
def F_X8_layer (x0 : Int32) (C : Mem) : Option (Rs × Mem) :=
  (if x0 < 0 then (
  some (Sum.inr 3, C)) else (
  (if x0 < (C 0 66) then (
  gi x0 8 (
  some (Sum.inl (C 0 (22 + (x0).toNatClampNeg)), C))) else (
  some (Sum.inr 3, C)))))
def F_X8_account (x0 : Int32) (C : Mem) : Option (Rs × Mem) :=
  b2 (F_X8_requireWithin x0 (0 : Int32) (5 : Int32) C) fun r1 C2 => Sum.elim (fun v4 =>
  (if x0 = (0 : Int32) then (
  some (Sum.inl (C2 0 13), C2)) else (
  (if x0 = (1 : Int32) then (
  some (Sum.inl (C2 0 14), C2)) else (
  (if x0 = (2 : Int32) then (
  some (Sum.inl (C2 0 15), C2)) else (
  (if x0 = (3 : Int32) then (
  some (Sum.inl (C2 0 16), C2)) else (
  (if x0 = (4 : Int32) then (
  b2 (F_X5_fuel 0 C2) fun r11 C12 =>
  some (Sum.inl r11, C12)) else (
  some (Sum.inl (C2 0 17), C2)))))))))))) (fun k => some (Sum.inr k, C2)) r1
def F_X8_requireTicks (x0 : Int32) (x1 : Int32) (C : Mem) : Option (Rs × Mem) :=
  b2 (F_X8_requireWithin x0 (1 : Int32) (96 : Int32) C) fun r1 C2 => Sum.elim (fun v4 =>
  b2 (F_X8_requireWithin x1 (0 : Int32) (5 : Int32) C2) fun r6 C7 => Sum.elim (fun v9 =>
  some (Sum.inl 0, C7)) (fun k => some (Sum.inr k, C7)) r6) (fun k => some (Sum.inr k, C2)) r1
def F_X8_tick (x0 : Int32) (x1 : Int32) (C : Mem) : Option (Rs × Mem) :=
  b2 (F_X8_requireTicks x0 x1 C) fun r1 C2 => Sum.elim (fun v4 =>
  b2 (F_X2_remember 0 C2) fun r6 C7 =>
  b2 (F_X5_passTicks 0 x0 x1 C7) fun r9 C10 =>
  b2 (F_X7_mean 0 C10) fun r12 C13 =>
  some (Sum.inl r12, C13)) (fun k => some (Sum.inr k, C2)) r1
def F_X8_draw (x0 : Int32) (C : Mem) : Option (Rs × Mem) :=
  b2 (F_X8_requireWithin x0 (1 : Int32) (20 : Int32) C) fun r1 C2 => Sum.elim (fun v4 =>
  b2 (F_X2_remember 0 C2) fun r6 C7 =>
  b2 (F_X7_deliver 0 x0 C7) fun r9 C10 =>
  some (Sum.inl r9, C10)) (fun k => some (Sum.inr k, C2)) r1
def F_X8_isSetting (x0 : Int32) (x1 : Int32) (C : Mem) : Option (Int32 × Mem) :=
  (if x0 < 0 then (
  some ((0 : Int32), C)) else (
  (if (6 : Int32) ≤ x0 then (
  some ((0 : Int32), C)) else (
  gi x0 6 (
  (if x1 < (kLeast (x0).toNatClampNeg) then (
  some ((0 : Int32), C)) else (
  gi x0 6 (
  (if (kMost (x0).toNatClampNeg) < x1 then (
  some ((0 : Int32), C)) else (
  some ((1 : Int32), C)))))))))))
def F_X8_set (x0 : Int32) (x1 : Int32) (C : Mem) : Option (Rs × Mem) :=
  b2 (F_X8_isSetting x0 x1 C) fun r1 C2 =>
  (if r1 = 0 then (
  some (Sum.inr 1, C2)) else (
  b2 (F_X2_remember 0 C2) fun r5 C6 =>
  gi x0 6 (
  nm (C6 0 (x0).toNatClampNeg) fun v9 =>
  gi x0 6 (
  nm (mu C6 0 (x0).toNatClampNeg x1) fun C11 =>
  some (Sum.inl v9, C11)))))
def F_X8_setFlue (x0 : Int32) (x1 : Int32) (C : Mem) : Option (Rs × Mem) :=
  b2 (F_X8_requireFlue x0 C) fun r1 C2 => Sum.elim (fun v4 =>
  b2 (F_X2_remember 0 C2) fun r6 C7 =>
  b2 (F_X5_moveFlue 0 x0 x1 C7) fun r9 C10 =>
  some (Sum.inl r9, C10)) (fun k => some (Sum.inr k, C2)) r1
def F_X8_setDraft (x0 : Int32) (x1 : Int32) (C : Mem) : Option (Rs × Mem) :=
  b2 (F_X8_requireFlue x0 C) fun r1 C2 => Sum.elim (fun v4 =>
  b2 (F_X8_requireWithin x1 (0 : Int32) (99 : Int32) C2) fun r6 C7 => Sum.elim (fun v9 =>
  b2 (F_X2_remember 0 C7) fun r11 C12 =>
  b2 (F_X5_flueOf 0 x0 C12) fun r14 C15 =>
  gn r14 2 (
  nm (C15 0 (18 + r14)) fun v18 =>
  nm (mu C15 0 (18 + r14) x1) fun C19 =>
  some (Sum.inl v18, C19))) (fun k => some (Sum.inr k, C7)) r6) (fun k => some (Sum.inr k, C2)) r1
def F_X8_lock (x0 : Int32) (C : Mem) : Option (Rs × Mem) :=
  b2 (F_X8_requireBoiler x0 C) fun r1 C2 => Sum.elim (fun v4 =>
  gi x0 5 (
  nm (C2 0 (30 + 7 * (x0).toNatClampNeg + 2)) fun v7 =>
  (if v7 = (4 : Int32) then (
  some (Sum.inr 2, C2)) else (
  b2 (F_X2_remember 0 C2) fun r9 C10 =>
  gi x0 5 (
  b2 (F_X0_leaveFor 0 (x0).toNatClampNeg (4 : Int32) C10) fun r13 C14 =>
  some (Sum.inl v7, C14)))))) (fun k => some (Sum.inr k, C2)) r1
def F_X8_unlock (x0 : Int32) (C : Mem) : Option (Rs × Mem) :=
  b2 (F_X8_requireBoiler x0 C) fun r1 C2 => Sum.elim (fun v4 =>
  gi x0 5 (
  (if (C2 0 (30 + 7 * (x0).toNatClampNeg + 2)) = (4 : Int32) then (
  b2 (F_X2_remember 0 C2) fun r8 C9 =>
  gi x0 5 (
  b2 (F_X0_leaveFor 0 (x0).toNatClampNeg (0 : Int32) C9) fun r12 C13 =>
  b2 (F_X5_countInState 0 (4 : Int32) C13) fun r15 C16 =>
  some (Sum.inl r15, C16))) else (
  some (Sum.inr 2, C2))))) (fun k => some (Sum.inr k, C2)) r1
def F_X8_putOff (x0 : Int32) (C : Mem) : Option (Rs × Mem) :=
  b2 (F_X8_requireBoiler x0 C) fun r1 C2 => Sum.elim (fun v4 =>
  gi x0 5 (
  (if (C2 0 (30 + 7 * (x0).toNatClampNeg + 2)) = (3 : Int32) then (
  b2 (F_X2_remember 0 C2) fun r8 C9 =>
  gi x0 5 (
  b2 (F_X0_leaveFor 0 (x0).toNatClampNeg (0 : Int32) C9) fun r12 C13 =>
  gi x0 5 (
  some (Sum.inl (C13 0 (30 + 7 * (x0).toNatClampNeg + 6)), C13)))) else (
  some (Sum.inr 2, C2))))) (fun k => some (Sum.inr k, C2)) r1
def F_X8_undo  (C : Mem) : Option (Rs × Mem) :=
  b2 (F_X2_takeBackInto 0 C) fun r1 C2 =>
  (if r1 = 0 then (
  some (Sum.inr 2, C2)) else (
  some (Sum.inl (C2 23 2), C2)))
def F_X8_next  (C : Mem) : Option (Int32 × Mem) :=
  b2 (F_X5_firstToStart 0 C) fun r1 C2 =>
  some (r1, C2)
def F_X8_whyNot (x0 : Int32) (C : Mem) : Option (Rs × Mem) :=
  b2 (F_X8_requireBoiler x0 C) fun r1 C2 => Sum.elim (fun v4 =>
  gi x0 5 (
  (if (C2 0 (30 + 7 * (x0).toNatClampNeg + 2)) = (4 : Int32) then (
  some (Sum.inl (2 : Int32), C2)) else (
  b2 (F_X0_waits 0 (x0).toNatClampNeg C2) fun r8 C9 =>
  (if r8 = 0 then (
  some (Sum.inl (1 : Int32), C9)) else (
  b2 (F_X5_flueOf 0 (C9 0 (30 + 7 * (x0).toNatClampNeg + 1)) C9) fun r12 C13 =>
  gn r12 2 (
  (if (C13 0 (20 + r12)) = 0 then (
  some (Sum.inl (3 : Int32), C13)) else (
  b2 (F_X5_hasRoomFor 0 0 (x0).toNatClampNeg C13) fun r17 C18 =>
  (if r17 = 0 then (
  some (Sum.inl (4 : Int32), C18)) else (
  some (Sum.inl (0 : Int32), C18)))))))))))) (fun k => some (Sum.inr k, C2)) r1
def J_X8_smallestSet_57 (v6 : Int32) (v7 : Int32) (v18 : Int32) (C19 : Mem) : Option ((Int32 × Int32 × Mem) ⊕ (Int32 × Int32 × Mem)) :=
  (if v18 = 0 then (
  nm (v7 + (1 : Int32)) fun v21 =>
  some (Sum.inl (v6, v21, C19))) else (
  (if v6 = 0 then (
  nm (v7 + (1 : Int32)) fun v23 =>
  some (Sum.inl (v7, v23, C19))) else (
  b2 (F_X5_isSmallerSet 0 v7 v6 C19) fun r24 C25 =>
  (if r24 = 0 then (
  nm (v7 + (1 : Int32)) fun v28 =>
  some (Sum.inl (v6, v28, C25))) else (
  nm (v7 + (1 : Int32)) fun v29 =>
  some (Sum.inl (v7, v29, C25))))))))
def S_X8_smallestSet_13 (x0 : Int32) (v6 : Int32) (v7 : Int32) (C8 : Mem) : Option ((Int32 × Int32 × Mem) ⊕ (Int32 × Int32 × Mem)) :=
  (if ((1 : Int32) <<< ((C8 0 65) &&& 31)) ≤ v7 then (
  some (Sum.inr (v6, v7, C8))) else (
  b2 (F_X5_powerOf 0 v7 C8) fun r14 C15 =>
  (if r14 < x0 then (
  J_X8_smallestSet_57 v6 v7 (0 : Int32) C15) else (
  b2 (F_X5_fitsDrafts 0 v7 C15) fun r30 C31 =>
  (if r30 = 0 then (
  J_X8_smallestSet_57 v6 v7 (0 : Int32) C31) else (
  J_X8_smallestSet_57 v6 v7 (1 : Int32) C31))))))
def F_X8_smallestSet (x0 : Int32) (x1 : Int32) (C : Mem) : Option (Rs × Mem) :=
  b2 (F_X8_requireWithin x0 (1 : Int32) (150 : Int32) C) fun r1 C2 => Sum.elim (fun v4 =>
  b1 (iter (fun x => S_X8_smallestSet_13 x0 x.1 x.2.1 x.2.2) fuel ((0 : Int32), (1 : Int32), C2)) (u3 fun v10 v11 C12 =>
  (if v10 = 0 then (
  some (Sum.inl (-9 : Int32), C12)) else (
  (if x1 = 0 then (
  b2 (F_X5_powerOf 0 v10 C12) fun r36 C37 =>
  some (Sum.inl r36, C37)) else (
  some (Sum.inl v10, C12))))))) (fun k => some (Sum.inr k, C2)) r1
def S_X8_ahead_30 (x0 : Int32) (x1 : Int32) (v14 : Int32) (v15 : Int32) (C16 : Mem) : Option ((Int32 × Int32 × Mem) ⊕ (Int32 × Int32 × Mem)) :=
  (if x0 ≤ v15 then (
  some (Sum.inr (v14, v15, C16))) else (
  b2 (F_X5_passTicks 1 (1 : Int32) x1 C16) fun r22 C23 =>
  b2 (F_X7_mean 1 C23) fun r25 C26 =>
  nm (if r25 < v14 then r25 else v14) fun v28 =>
  nm (v15 + (1 : Int32)) fun v29 =>
  some (Sum.inl (v28, v29, C26))))
def F_X8_ahead (x0 : Int32) (x1 : Int32) (x2 : Int32) (C : Mem) : Option (Rs × Mem) :=
  b2 (F_X8_requireTicks x0 x1 C) fun r1 C2 => Sum.elim (fun v4 =>
  b2 (F_X8_requireWithin x2 (0 : Int32) (6 : Int32) C2) fun r6 C7 => Sum.elim (fun v9 =>
  b2 (F_X5_copyFrom 1 0 C7) fun r11 C12 =>
  b1 (iter (fun x => S_X8_ahead_30 x0 x1 x.1 x.2.1 x.2.2) fuel ((99 : Int32), (0 : Int32), C12)) (u3 fun v18 v19 C20 =>
  (if x2 = (0 : Int32) then (
  b2 (F_X7_mean 1 C20) fun r36 C37 =>
  some (Sum.inl r36, C37)) else (
  (if x2 = (1 : Int32) then (
  b2 (F_X7_highest 1 C20) fun r39 C40 =>
  some (Sum.inl r39, C40)) else (
  (if x2 = (2 : Int32) then (
  some (Sum.inl ((C20 1 15) - (C20 0 15)), C20)) else (
  (if x2 = (3 : Int32) then (
  b2 (F_X5_fuel 1 C20) fun r42 C43 =>
  b2 (F_X5_fuel 0 C43) fun r45 C46 =>
  some (Sum.inl (r42 - r45), C46)) else (
  (if x2 = (4 : Int32) then (
  b2 (F_X5_starts 1 C20) fun r48 C49 =>
  b2 (F_X5_starts 0 C49) fun r51 C52 =>
  some (Sum.inl (r48 - r51), C52)) else (
  (if x2 = (5 : Int32) then (
  some (Sum.inl ((C20 1 11) - (C20 0 11)), C20)) else (
  some (Sum.inl v18, C20))))))))))))))) (fun k => some (Sum.inr k, C7)) r6) (fun k => some (Sum.inr k, C2)) r1
def S_X8_warmAfter_26 (x0 : Int32) (x1 : Int32) (v14 : Int32) (C15 : Mem) : Option ((Int32 × Mem) ⊕ ((Int32 × Mem) ⊕ (Rs × Mem))) :=
  (if (200 : Int32) ≤ v14 then (
  some (Sum.inr (Sum.inl (v14, C15)))) else (
  b2 (F_X7_mean 1 C15) fun r20 C21 =>
  (if r20 < x0 then (
  b2 (F_X5_passTicks 1 (1 : Int32) x1 C21) fun r24 C25 =>
  nm (v14 + (1 : Int32)) fun v27 =>
  some (Sum.inl (v27, C25))) else (
  some (Sum.inr (Sum.inr (Sum.inl v14, C21)))))))
def F_X8_warmAfter (x0 : Int32) (x1 : Int32) (C : Mem) : Option (Rs × Mem) :=
  b2 (F_X8_requireWithin x0 (0 : Int32) (99 : Int32) C) fun r1 C2 => Sum.elim (fun v4 =>
  b2 (F_X8_requireWithin x1 (0 : Int32) (5 : Int32) C2) fun r6 C7 => Sum.elim (fun v9 =>
  b2 (F_X5_copyFrom 1 0 C7) fun r11 C12 =>
  b1 (iter (fun x => S_X8_warmAfter_26 x0 x1 x.1 x.2) fuel ((0 : Int32), C12)) (Sum.elim (u2 fun v17 C18 =>
  b2 (F_X7_mean 1 C18) fun r28 C29 =>
  (if r28 < x0 then (
  some (Sum.inl (-9 : Int32), C29)) else (
  some (Sum.inl (200 : Int32), C29)))) fun y => some y)) (fun k => some (Sum.inr k, C7)) r6) (fun k => some (Sum.inr k, C2)) r1
def S_X8_staysHot_14 (x0 : Int32) (x1 : Int32) (x2 : Int32) (v4 : Int32) (C5 : Mem) : Option ((Int32 × Mem) ⊕ ((Int32 × Mem) ⊕ (Int32 × Mem))) :=
  (if x0 ≤ v4 then (
  some (Sum.inr (Sum.inl (v4, C5)))) else (
  b2 (F_X5_passTicks 1 (1 : Int32) x1 C5) fun r10 C11 =>
  b2 (F_X7_highest 1 C11) fun r13 C14 =>
  (if x2 ≤ r13 then (
  nm (v4 + (1 : Int32)) fun v17 =>
  some (Sum.inl (v17, C14))) else (
  some (Sum.inr (Sum.inr ((0 : Int32), C14)))))))
def F_X8_staysHot (x0 : Int32) (x1 : Int32) (x2 : Int32) (C : Mem) : Option (Int32 × Mem) :=
  b2 (F_X5_copyFrom 1 0 C) fun r1 C2 =>
  b1 (iter (fun x => S_X8_staysHot_14 x0 x1 x2 x.1 x.2) fuel ((0 : Int32), C2)) (Sum.elim (u2 fun v7 C8 =>
  some ((1 : Int32), C8)) fun y => some y)
def S_X8_bearable_17 (x0 : Int32) (x1 : Int32) (v11 : Int32) (C12 : Mem) : Option ((Int32 × Mem) ⊕ ((Int32 × Mem) ⊕ (Rs × Mem))) :=
  (if v11 < 0 then (
  some (Sum.inr (Sum.inl (v11, C12)))) else (
  b2 (F_X8_staysHot x0 v11 x1 C12) fun r17 C18 =>
  (if r17 = 0 then (
  nm (v11 + (-1 : Int32)) fun v21 =>
  some (Sum.inl (v21, C18))) else (
  some (Sum.inr (Sum.inr (Sum.inl v11, C18)))))))
def F_X8_bearable (x0 : Int32) (x1 : Int32) (C : Mem) : Option (Rs × Mem) :=
  b2 (F_X8_requireWithin x0 (1 : Int32) (96 : Int32) C) fun r1 C2 => Sum.elim (fun v4 =>
  b2 (F_X8_requireWithin x1 (10 : Int32) (80 : Int32) C2) fun r6 C7 => Sum.elim (fun v9 =>
  b1 (iter (fun x => S_X8_bearable_17 x0 x1 x.1 x.2) fuel ((5 : Int32), C7)) (Sum.elim (u2 fun v14 C15 =>
  some (Sum.inl (-9 : Int32), C15)) fun y => some y)) (fun k => some (Sum.inr k, C7)) r6) (fun k => some (Sum.inr k, C2)) r1
def S_X8_cheapestPurge_18 (x0 : Int32) (x1 : Int32) (v7 : Int32) (v8 : Int32) (v9 : Int32) (C10 : Mem) : Option ((Int32 × Int32 × Int32 × Mem) ⊕ (Int32 × Int32 × Int32 × Mem)) :=
  (if (kMost ((2 : Int32)).toNatClampNeg) < v9 then (
  some (Sum.inr (v7, v8, v9, C10))) else (
  b2 (F_X5_copyFrom 1 0 C10) fun r17 C18 =>
  nm (mu C18 1 ((2 : Int32)).toNatClampNeg v9) fun C20 =>
  b2 (F_X5_passTicks 1 x0 x1 C20) fun r21 C22 =>
  b2 (F_X5_fuel 1 C22) fun r24 C25 =>
  (if v7 = (-9 : Int32) then (
  nm (v9 + (1 : Int32)) fun v28 =>
  some (Sum.inl (v9, r24, v28, C25))) else (
  (if v8 ≤ r24 then (
  nm (v9 + (1 : Int32)) fun v30 =>
  some (Sum.inl (v7, v8, v30, C25))) else (
  nm (v9 + (1 : Int32)) fun v31 =>
  some (Sum.inl (v9, r24, v31, C25))))))))
def F_X8_cheapestPurge (x0 : Int32) (x1 : Int32) (C : Mem) : Option (Rs × Mem) :=
  b2 (F_X8_requireTicks x0 x1 C) fun r1 C2 => Sum.elim (fun v4 =>
  nm (kLeast ((2 : Int32)).toNatClampNeg) fun v6 =>
  b1 (iter (fun x => S_X8_cheapestPurge_18 x0 x1 x.1 x.2.1 x.2.2.1 x.2.2.2) fuel ((-9 : Int32), (0 : Int32), v6, C2)) (u4 fun v12 v13 v14 C15 =>
  some (Sum.inl v12, C15))) (fun k => some (Sum.inr k, C2)) r1
def F_X8_isAllowed (x0 : Int32) (x1 : Int32) (x2 : Int32) (C : Mem) : Option (Int32 × Mem) :=
  (if x0 = (1 : Int32) then (
  (if (5 : Int32) < x1 then (
  some ((0 : Int32), C)) else (
  (if x2 < (1 : Int32) then (
  some ((0 : Int32), C)) else (
  (if (96 : Int32) < x2 then (
  some ((0 : Int32), C)) else (
  some ((1 : Int32), C)))))))) else (
  (if x0 = (2 : Int32) then (
  (if x1 = 0 then (
  (if x2 < (1 : Int32) then (
  some ((0 : Int32), C)) else (
  (if (20 : Int32) < x2 then (
  some ((0 : Int32), C)) else (
  some ((1 : Int32), C)))))) else (
  some ((0 : Int32), C)))) else (
  (if x0 = (3 : Int32) then (
  b2 (F_X8_isSetting x1 x2 C) fun r16 C17 =>
  gb r16 (
  some (r16, C17))) else (
  (if x0 = (4 : Int32) then (
  (if (2 : Int32) ≤ x1 then (
  some ((0 : Int32), C)) else (
  (if (1 : Int32) < x2 then (
  some ((0 : Int32), C)) else (
  some ((1 : Int32), C)))))) else (
  (if x0 = (5 : Int32) then (
  (if x2 = 0 then (
  b2 (F_X5_hasBoiler 1 x1 C) fun r23 C24 =>
  (if r23 = 0 then (
  some ((0 : Int32), C24)) else (
  gi x1 5 (
  (if (C24 1 (30 + 7 * (x1).toNatClampNeg + 2)) = (4 : Int32) then (
  some ((0 : Int32), C24)) else (
  some ((1 : Int32), C24))))))) else (
  some ((0 : Int32), C)))) else (
  (if x0 = (6 : Int32) then (
  (if x2 = 0 then (
  b2 (F_X5_hasBoiler 1 x1 C) fun r30 C31 =>
  (if r30 = 0 then (
  some ((0 : Int32), C31)) else (
  gi x1 5 (
  (if (C31 1 (30 + 7 * (x1).toNatClampNeg + 2)) = (4 : Int32) then (
  some ((1 : Int32), C31)) else (
  some ((0 : Int32), C31))))))) else (
  some ((0 : Int32), C)))) else (
  (if x0 = (7 : Int32) then (
  (if x1 = 0 then (
  (if (99 : Int32) < x2 then (
  some ((0 : Int32), C)) else (
  b2 (F_X7_mean 1 C) fun r38 C39 =>
  (if r38 < x2 then (
  some ((0 : Int32), C39)) else (
  some ((1 : Int32), C39)))))) else (
  some ((0 : Int32), C)))) else (
  (if x0 = (8 : Int32) then (
  b2 (F_X5_hasBoiler 1 x1 C) fun r42 C43 =>
  (if r42 = 0 then (
  some ((0 : Int32), C43)) else (
  gi x1 5 (
  (if (C43 1 (30 + 7 * (x1).toNatClampNeg + 2)) = x2 then (
  some ((1 : Int32), C43)) else (
  some ((0 : Int32), C43))))))) else (
  (if x0 = (9 : Int32) then (
  (if x1 = 0 then (
  (if (9 : Int32) < x2 then (
  some ((0 : Int32), C)) else (
  (if (C 1 11) = x2 then (
  some ((1 : Int32), C)) else (
  some ((0 : Int32), C)))))) else (
  some ((0 : Int32), C)))) else (
  some ((0 : Int32), C)))))))))))))))))))
def F_X8_carryOut (x0 : Int32) (x1 : Int32) (x2 : Int32) (C : Mem) : Option (Int32 × Mem) :=
  (if x0 = (1 : Int32) then (
  b2 (F_X5_passTicks 1 x2 x1 C) fun r7 C8 =>
  some (0, C8)) else (
  (if x0 = (2 : Int32) then (
  b2 (F_X7_deliver 1 x2 C) fun r10 C11 =>
  some (0, C11)) else (
  (if x0 = (3 : Int32) then (
  gi x1 6 (
  nm (mu C 1 (x1).toNatClampNeg x2) fun C14 =>
  some (0, C14))) else (
  (if x0 = (4 : Int32) then (
  (if x2 = (1 : Int32) then (
  b2 (F_X5_moveFlue 1 x1 (1 : Int32) C) fun r19 C20 =>
  some (0, C20)) else (
  b2 (F_X5_moveFlue 1 x1 (0 : Int32) C) fun r16 C17 =>
  some (0, C17)))) else (
  (if x0 = (5 : Int32) then (
  gi x1 5 (
  b2 (F_X0_leaveFor 1 (x1).toNatClampNeg (4 : Int32) C) fun r23 C24 =>
  some (0, C24))) else (
  (if x0 = (6 : Int32) then (
  gi x1 5 (
  b2 (F_X0_leaveFor 1 (x1).toNatClampNeg (0 : Int32) C) fun r27 C28 =>
  some (0, C28))) else (
  some (0, C)))))))))))))
def S_X8_runScript_12 (x0 : Int32) (v7 : Int64) (v8 : Int32) (C9 : Mem) : Option ((Int64 × Int32 × Mem) ⊕ (Int64 × Int32 × Mem)) :=
  (if x0 ≤ v8 then (
  some (Sum.inr (v7, v8, C9))) else (
  nm (v7 * (100000 : Int64)) fun v15 =>
  nm (v8 + (1 : Int32)) fun v16 =>
  some (Sum.inl (v15, v16, C9))))
def S_X8_runScript_74 (x0 : Int32) (x1 : Int64) (v22 : Int64) (v23 : Int32) (C24 : Mem) : Option ((Int64 × Int32 × Mem) ⊕ ((Int64 × Int32 × Mem) ⊕ (Rs × Mem))) :=
  (if x0 ≤ v23 then (
  some (Sum.inr (Sum.inl (v22, v23, C24)))) else (
  (if (lg_cmp v22 (0 : Int64)) ≤ 0 then (
  some (Sum.inr (Sum.inl (v22, v23, C24)))) else (
  gzL v22 (
  nm ((((x1 / v22) - (x1 / v22) / (100000 : Int64) * (100000 : Int64))).toInt32) fun v32 =>
  nm (v32 / (10000 : Int32)) fun v33 =>
  nm ((v32 / (1000 : Int32)) - (v32 / (1000 : Int32)) / (10 : Int32) * (10 : Int32)) fun v34 =>
  nm (v32 - v32 / (1000 : Int32) * (1000 : Int32)) fun v35 =>
  b2 (F_X8_isAllowed v33 v34 v35 C24) fun r36 C37 =>
  (if r36 = 0 then (
  some (Sum.inr (Sum.inr (Sum.inl v23, C37)))) else (
  b2 (F_X8_carryOut v33 v34 v35 C37) fun r40 C41 =>
  nm (v22 / (100000 : Int64)) fun v43 =>
  nm (v23 + (1 : Int32)) fun v44 =>
  some (Sum.inl (v43, v44, C41)))))))))
def F_X8_runScript (x0 : Int32) (x1 : Int64) (C : Mem) : Option (Rs × Mem) :=
  b2 (F_X8_requireWithin x0 (1 : Int32) (3 : Int32) C) fun r1 C2 => Sum.elim (fun v4 =>
  nm (1 : Int64) fun v6 =>
  b1 (iter (fun x => S_X8_runScript_12 x0 x.1 x.2.1 x.2.2) fuel (v6, (1 : Int32), C2)) (u3 fun v11 v12 C13 =>
  (if (lg_cmp x1 (0 : Int64)) < 0 then (
  some (Sum.inr 1, C13)) else (
  (if (lg_cmp x1 (v11 * (100000 : Int64))) < 0 then (
  b2 (F_X5_copyFrom 1 0 C13) fun r19 C20 =>
  b1 (iter (fun x => S_X8_runScript_74 x0 x1 x.1 x.2.1 x.2.2) fuel (v11, (0 : Int32), C20)) (Sum.elim (u3 fun v26 v27 C28 =>
  some (Sum.inl (-9 : Int32), C28)) fun y => some y)) else (
  some (Sum.inr 1, C13))))))) (fun k => some (Sum.inr k, C2)) r1
def J_X8_simulate_97 (v10 : Int32) (v17 : Int64) (v18 : Int32) (C20 : Mem) : Option ((Int64 × Int32 × Mem) ⊕ (Int64 × Int32 × Mem)) :=
  b2 (F_X5_passTicks 1 (1 : Int32) ((v18 / (64 : Int32)) - (v18 / (64 : Int32)) / (4 : Int32) * (4 : Int32)) C20) fun r21 C22 =>
  nm (v10 + (1 : Int32)) fun v24 =>
  some (Sum.inl (v17, v24, C22))
def S_X8_simulate_24 (x1 : Int32) (v9 : Int64) (v10 : Int32) (C11 : Mem) : Option ((Int64 × Int32 × Mem) ⊕ (Int64 × Int32 × Mem)) :=
  (if x1 ≤ v10 then (
  some (Sum.inr (v9, v10, C11))) else (
  nm ((v9 * (6364136223846793005 : Int64)) + (1442695040888963407 : Int64)) fun v17 =>
  nm (((((v17).toUInt64 >>> (((33 : Int32)).toInt64.toUInt64 &&& Int64.toUInt64 63)).toInt64)).toInt32) fun v18 =>
  (if (v18 - v18 / (16 : Int32) * (16 : Int32)) = 0 then (
  nm ((v18 / (16 : Int32)) - (v18 / (16 : Int32)) / (2 : Int32) * (2 : Int32)) fun v25 =>
  b2 (F_X5_flueOf 1 v25 C11) fun r26 C27 =>
  gn r26 2 (
  (if (C27 1 (20 + r26)) = 0 then (
  b2 (F_X5_moveFlue 1 v25 (1 : Int32) C27) fun r34 C35 =>
  J_X8_simulate_97 v10 v17 v18 C35) else (
  b2 (F_X5_moveFlue 1 v25 (0 : Int32) C27) fun r31 C32 =>
  J_X8_simulate_97 v10 v17 v18 C32)))) else (
  J_X8_simulate_97 v10 v17 v18 C11))))
def F_X8_simulate (x0 : Int64) (x1 : Int32) (C : Mem) : Option (Rs × Mem) :=
  b2 (F_X8_requireWithin x1 (1 : Int32) (96 : Int32) C) fun r1 C2 => Sum.elim (fun v4 =>
  b2 (F_X5_copyFrom 1 0 C2) fun r6 C7 =>
  b1 (iter (fun x => S_X8_simulate_24 x1 x.1 x.2.1 x.2.2) fuel (x0, (0 : Int32), C7)) (u3 fun v13 v14 C15 =>
  b2 (F_X5_fuel 1 C15) fun r37 C38 =>
  b2 (F_X5_fuel 0 C38) fun r40 C41 =>
  b2 (F_X7_mean 1 C41) fun r43 C44 =>
  some (Sum.inl (((1000 : Int32) * (r37 - r40)) + r43), C44))) (fun k => some (Sum.inr k, C2)) r1
def F_X8_requireSlot (x0 : Int32) (C : Mem) : Option (Rs × Mem) :=
  (if x0 = 0 then (
  some (Sum.inl 0, C)) else (
  (if x0 = (1 : Int32) then (
  some (Sum.inl 0, C)) else (
  some (Sum.inr 3, C)))))
def F_X8_save (x0 : Int32) (C : Mem) : Option (Rs × Mem) :=
  b2 (F_X8_requireSlot x0 C) fun r1 C2 => Sum.elim (fun v4 =>
  (if x0 = 0 then (
  b2 (F_X5_copyFrom (16 + 0) 0 C2) fun r11 C12 =>
  nm (mu C12 24 0 (1 : Int32)) fun C14 =>
  some (Sum.inl (C14 0 6), C14)) else (
  b2 (F_X5_copyFrom (16 + 1) 0 C2) fun r7 C8 =>
  nm (mu C8 24 1 (1 : Int32)) fun C10 =>
  some (Sum.inl (C10 0 6), C10)))) (fun k => some (Sum.inr k, C2)) r1
def F_X8_restore (x0 : Int32) (C : Mem) : Option (Rs × Mem) :=
  b2 (F_X8_requireSlot x0 C) fun r1 C2 => Sum.elim (fun v4 =>
  (if x0 = 0 then (
  (if (C2 24 0) = 0 then (
  some (Sum.inr 2, C2)) else (
  b2 (F_X5_copyFrom 0 (16 + 0) C2) fun r15 C16 =>
  b2 (F_X2_forgetAll  C16) fun r18 C19 =>
  some (Sum.inl (C19 0 6), C19)))) else (
  (if (C2 24 1) = 0 then (
  some (Sum.inr 2, C2)) else (
  b2 (F_X5_copyFrom 0 (16 + 1) C2) fun r8 C9 =>
  b2 (F_X2_forgetAll  C9) fun r11 C12 =>
  some (Sum.inl (C12 0 6), C12)))))) (fun k => some (Sum.inr k, C2)) r1
