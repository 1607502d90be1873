/-! what the law's methods do to the memories, by program out of the bytecode -/
def F_L_number (xs : Nat → Int32) (L : Nat) (x1 : Int32) (C D : Mem) : Option (Int32 × Mem × Mem) :=
  (if (Int32.ofNat L) ≤ x1 then (
  some (((((15515971 : Int32) * (x1 + (5 : Int32))) + (10007 : Int32)) &&& (2147483647 : Int32)), C, D)) else (
  gi x1 L (
  some (((xs (x1).toNatClampNeg) &&& (2147483647 : Int32)), C, D))))
def F_L_put (x2 : Int32) (C D : Mem) : Option (Int32 × Mem × Mem) :=
  b2 (F_L_tryAppend x2 C) fun r1 C3 =>
  (if r1 ≤ 0 then (
  some ((0 : Int32), C3, D)) else (
  b2 (F_L_tryAppend x2 D) fun r5 D7 =>
  (if r5 ≤ 0 then (
  some ((0 : Int32), C3, D7)) else (
  some ((1 : Int32), C3, D7)))))
def F_L_two (x2 : Int32) (C D : Mem) : Option (Int32 × Mem × Mem) :=
  b3 (F_L_put ((48 : Int32) + (x2 / (10 : Int32))) C D) fun r1 C3 D4 =>
  (if r1 = 0 then (
  some ((0 : Int32), C3, D4)) else (
  b3 (F_L_put ((48 : Int32) + (x2 - x2 / (10 : Int32) * (10 : Int32))) C3 D4) fun r6 C8 D9 =>
  (if r6 = 0 then (
  some ((0 : Int32), C8, D9)) else (
  some ((1 : Int32), C8, D9)))))
def S_L_heat_4  (v1 : Int32) (v2 : Int32) (C3 : Mem) : Option ((Int32 × Int32 × Mem) ⊕ (Int32 × Int32 × Mem)) :=
  b2 (F_L_tryAbout (7 : Int32) C3) fun r8 C10 =>
  (if r8 ≤ v2 then (
  some (Sum.inr (v1, v2, C10))) else (
  b2 (F_L_tryLayer v2 C10) fun r12 C14 =>
  nm (v1 + r12) fun v15 =>
  nm (v2 + (1 : Int32)) fun v16 =>
  some (Sum.inl (v15, v16, C14))))
def F_L_heat  (C : Mem) : Option (Int32 × Mem) :=
  b1 (iter (fun x => S_L_heat_4  x.1 x.2.1 x.2.2) 9 ((0 : Int32), (0 : Int32), C)) (u3 fun v5 v6 C7 =>
  some (v5, C7))
def J_L_refuses_368 (r1 : Int32) (v11 : Int32) (C12 : Mem) : Option (Int32 × Mem) :=
  (if v11 = 0 then (
  some ((0 : Int32), C12)) else (
  b2 (F_L_tryWhyNot r1 C12) fun r14 C16 =>
  (if r14 = (-1001 : Int32) then (
  b2 (F_L_trySmallestSet (151 : Int32) (1 : Int32) C16) fun r18 C20 =>
  (if r18 = (-1002 : Int32) then (
  b2 (F_L_trySmallestSet (0 : Int32) (0 : Int32) C20) fun r22 C24 =>
  (if r22 = (-1002 : Int32) then (
  b2 (F_L_tryAhead (1 : Int32) (0 : Int32) (7 : Int32) C24) fun r26 C28 =>
  (if r26 = (-1002 : Int32) then (
  b2 (F_L_tryAhead (97 : Int32) (0 : Int32) (0 : Int32) C28) fun r30 C32 =>
  (if r30 = (-1002 : Int32) then (
  b2 (F_L_tryWarmAfter (100 : Int32) (0 : Int32) C32) fun r34 C36 =>
  (if r34 = (-1002 : Int32) then (
  b2 (F_L_tryWarmAfter (0 : Int32) (6 : Int32) C36) fun r38 C40 =>
  (if r38 = (-1002 : Int32) then (
  b2 (F_L_tryBearable (1 : Int32) (9 : Int32) C40) fun r42 C44 =>
  (if r42 = (-1002 : Int32) then (
  b2 (F_L_tryBearable (0 : Int32) (10 : Int32) C44) fun r46 C48 =>
  (if r46 = (-1002 : Int32) then (
  b2 (F_L_tryCheapestPurge (97 : Int32) (0 : Int32) C48) fun r50 C52 =>
  (if r50 = (-1002 : Int32) then (
  b2 (F_L_tryScript (4 : Int32) (0 : Int64) C52) fun r54 C56 =>
  (if r54 = (-1002 : Int32) then (
  b2 (F_L_tryScript (1 : Int32) (100000 : Int64) C56) fun r58 C60 =>
  (if r58 = (-1002 : Int32) then (
  b2 (F_L_trySimulate (1 : Int64) (97 : Int32) C60) fun r62 C64 =>
  (if r62 = (-1002 : Int32) then (
  b2 (F_L_trySave (2 : Int32) C64) fun r66 C68 =>
  (if r66 = (-1001 : Int32) then (
  b2 (F_L_tryRestore (-1 : Int32) C68) fun r70 C72 =>
  (if r70 = (-1001 : Int32) then (
  b2 (F_L_tryAppend (256 : Int32) C72) fun r74 C76 =>
  (if r74 = (-1002 : Int32) then (
  some ((1 : Int32), C76)) else (
  some ((0 : Int32), C76)))) else (
  some ((0 : Int32), C72)))) else (
  some ((0 : Int32), C68)))) else (
  some ((0 : Int32), C64)))) else (
  some ((0 : Int32), C60)))) else (
  some ((0 : Int32), C56)))) else (
  some ((0 : Int32), C52)))) else (
  some ((0 : Int32), C48)))) else (
  some ((0 : Int32), C44)))) else (
  some ((0 : Int32), C40)))) else (
  some ((0 : Int32), C36)))) else (
  some ((0 : Int32), C32)))) else (
  some ((0 : Int32), C28)))) else (
  some ((0 : Int32), C24)))) else (
  some ((0 : Int32), C20)))) else (
  some ((0 : Int32), C16)))))
def J_L_refuses_336 (r1 : Int32) (r4 : Int32) (C172 : Mem) : Option (Int32 × Mem) :=
  b2 (F_L_tryPutOff r1 C172) fun r173 C175 =>
  (if r173 = (-1001 : Int32) then (
  (if r4 = (3 : Int32) then (
  J_L_refuses_368 r1 (1 : Int32) C175) else (
  b2 (F_L_tryPutOff (0 : Int32) C175) fun r178 C180 =>
  (if r178 = (-1003 : Int32) then (
  J_L_refuses_368 r1 (1 : Int32) C180) else (
  J_L_refuses_368 r1 (0 : Int32) C180))))) else (
  J_L_refuses_368 r1 (0 : Int32) C175))
def J_L_refuses_309 (r1 : Int32) (r4 : Int32) (C166 : Mem) : Option (Int32 × Mem) :=
  b2 (F_L_tryUnlock r1 C166) fun r167 C169 =>
  (if r167 = (-1001 : Int32) then (
  (if r4 = (4 : Int32) then (
  J_L_refuses_336 r1 r4 C169) else (
  b2 (F_L_tryUnlock (0 : Int32) C169) fun r182 C184 =>
  (if r182 = (-1003 : Int32) then (
  J_L_refuses_336 r1 r4 C184) else (
  J_L_refuses_368 r1 (0 : Int32) C184))))) else (
  J_L_refuses_368 r1 (0 : Int32) C169))
def F_L_refuses  (C : Mem) : Option (Int32 × Mem) :=
  b2 (F_L_tryAbout (6 : Int32) C) fun r1 C3 =>
  b2 (F_L_tryBoiler (0 : Int32) (2 : Int32) C3) fun r4 C6 =>
  b2 (F_L_tryAbout (17 : Int32) C6) fun r7 C9 =>
  (if r7 = (-1002 : Int32) then (
  b2 (F_L_tryBoiler r1 (8 : Int32) C9) fun r78 C80 =>
  (if r78 = (-1001 : Int32) then (
  b2 (F_L_tryBoiler (0 : Int32) (8 : Int32) C80) fun r82 C84 =>
  (if r82 = (-1002 : Int32) then (
  b2 (F_L_tryFlue (2 : Int32) (4 : Int32) C84) fun r86 C88 =>
  (if r86 = (-1001 : Int32) then (
  b2 (F_L_tryFlue (0 : Int32) (4 : Int32) C88) fun r90 C92 =>
  (if r90 = (-1002 : Int32) then (
  b2 (F_L_tryAbout (7 : Int32) C92) fun r94 C96 =>
  b2 (F_L_tryLayer r94 C96) fun r97 C99 =>
  (if r97 = (-1001 : Int32) then (
  b2 (F_L_tryAccount (6 : Int32) C99) fun r101 C103 =>
  (if r101 = (-1002 : Int32) then (
  b2 (F_L_tryTick (0 : Int32) (0 : Int32) C103) fun r105 C107 =>
  (if r105 = (-1002 : Int32) then (
  b2 (F_L_tryTick (97 : Int32) (0 : Int32) C107) fun r109 C111 =>
  (if r109 = (-1002 : Int32) then (
  b2 (F_L_tryTick (1 : Int32) (6 : Int32) C111) fun r113 C115 =>
  (if r113 = (-1002 : Int32) then (
  b2 (F_L_tryDraw (21 : Int32) C115) fun r117 C119 =>
  (if r117 = (-1002 : Int32) then (
  b2 (F_L_trySet (0 : Int32) (39 : Int32) C119) fun r121 C123 =>
  (if r121 = (-1002 : Int32) then (
  b2 (F_L_trySet (1 : Int32) (10 : Int32) C123) fun r125 C127 =>
  (if r125 = (-1002 : Int32) then (
  b2 (F_L_trySet (2 : Int32) (6 : Int32) C127) fun r129 C131 =>
  (if r129 = (-1002 : Int32) then (
  b2 (F_L_trySet (3 : Int32) (59 : Int32) C131) fun r133 C135 =>
  (if r133 = (-1002 : Int32) then (
  b2 (F_L_trySet (4 : Int32) (0 : Int32) C135) fun r137 C139 =>
  (if r137 = (-1002 : Int32) then (
  b2 (F_L_trySet (5 : Int32) (24 : Int32) C139) fun r141 C143 =>
  (if r141 = (-1002 : Int32) then (
  b2 (F_L_trySet (6 : Int32) (1 : Int32) C143) fun r145 C147 =>
  (if r145 = (-1002 : Int32) then (
  b2 (F_L_trySetFlue (2 : Int32) (1 : Int32) C147) fun r149 C151 =>
  (if r149 = (-1001 : Int32) then (
  b2 (F_L_trySetDraft (-1 : Int32) (100 : Int32) C151) fun r153 C155 =>
  (if r153 = (-1001 : Int32) then (
  b2 (F_L_trySetDraft (0 : Int32) (100 : Int32) C155) fun r157 C159 =>
  (if r157 = (-1002 : Int32) then (
  b2 (F_L_tryLock r1 C159) fun r161 C163 =>
  (if r161 = (-1001 : Int32) then (
  (if r4 = (4 : Int32) then (
  b2 (F_L_tryLock (0 : Int32) C163) fun r186 C188 =>
  (if r186 = (-1003 : Int32) then (
  J_L_refuses_309 r1 r4 C188) else (
  J_L_refuses_368 r1 (0 : Int32) C188))) else (
  J_L_refuses_309 r1 r4 C163))) else (
  J_L_refuses_368 r1 (0 : Int32) C163))) else (
  J_L_refuses_368 r1 (0 : Int32) C159))) else (
  J_L_refuses_368 r1 (0 : Int32) C155))) else (
  J_L_refuses_368 r1 (0 : Int32) C151))) else (
  J_L_refuses_368 r1 (0 : Int32) C147))) else (
  J_L_refuses_368 r1 (0 : Int32) C143))) else (
  J_L_refuses_368 r1 (0 : Int32) C139))) else (
  J_L_refuses_368 r1 (0 : Int32) C135))) else (
  J_L_refuses_368 r1 (0 : Int32) C131))) else (
  J_L_refuses_368 r1 (0 : Int32) C127))) else (
  J_L_refuses_368 r1 (0 : Int32) C123))) else (
  J_L_refuses_368 r1 (0 : Int32) C119))) else (
  J_L_refuses_368 r1 (0 : Int32) C115))) else (
  J_L_refuses_368 r1 (0 : Int32) C111))) else (
  J_L_refuses_368 r1 (0 : Int32) C107))) else (
  J_L_refuses_368 r1 (0 : Int32) C103))) else (
  J_L_refuses_368 r1 (0 : Int32) C99))) else (
  J_L_refuses_368 r1 (0 : Int32) C92))) else (
  J_L_refuses_368 r1 (0 : Int32) C88))) else (
  J_L_refuses_368 r1 (0 : Int32) C84))) else (
  J_L_refuses_368 r1 (0 : Int32) C80))) else (
  J_L_refuses_368 r1 (0 : Int32) C9))
def F_L_purgeFuel (x1 : Int32) (x2 : Int32) (x3 : Int32) (x4 : Int32) (C : Mem) : Option (Int32 × Mem) :=
  b2 (F_L_trySet (2 : Int32) x1 C) fun r1 C3 =>
  b2 (F_L_tryAhead x2 x3 (3 : Int32) C3) fun r4 C6 =>
  (if r1 ≤ 0 then (
  some ((-1 : Int32), C6)) else (
  b2 (F_L_tryRestore (0 : Int32) C6) fun r8 C10 =>
  (if r8 = x4 then (
  some (r4, C10)) else (
  some ((-1 : Int32), C10)))))
def J_L_scripts_254 (x1 : Int32) (r4 : Int32) (r15 : Int32) (v22 : Int32) (C23 : Mem) : Option (Int32 × Mem) :=
  (if v22 = 0 then (
  some ((0 : Int32), C23)) else (
  b2 (F_L_tryScript (1 : Int32) (20000 : Int64) C23) fun r25 C27 =>
  (if r25 = 0 then (
  b2 (F_L_tryScript (1 : Int32) (20021 : Int64) C27) fun r29 C31 =>
  (if r29 = 0 then (
  b2 (F_L_tryScript (2 : Int32) (2002070000 : Int64) C31) fun r33 C35 =>
  (if r33 = (-9 : Int32) then (
  b2 (F_L_tryScript (1 : Int32) (30039 : Int64) C35) fun r37 C39 =>
  (if r37 = 0 then (
  b2 (F_L_tryScript (1 : Int32) (30040 : Int64) C39) fun r41 C43 =>
  (if r41 = (-9 : Int32) then (
  b2 (F_L_tryScript (1 : Int32) (42000 : Int64) C43) fun r45 C47 =>
  (if r45 = 0 then (
  b2 (F_L_tryScript (1 : Int32) (40002 : Int64) C47) fun r49 C51 =>
  (if r49 = 0 then (
  b2 (F_L_tryScript (1 : Int32) (41001 : Int64) C51) fun r53 C55 =>
  (if r53 = (-9 : Int32) then (
  b2 (F_L_tryScript (1 : Int32) ((50000 : Int64) + ((1000 : Int64) * ((r4).toInt64))) C55) fun r57 C59 =>
  (if r57 = 0 then (
  b2 (F_L_tryScript (1 : Int32) (0 : Int64) C59) fun r61 C63 =>
  (if r61 = 0 then (
  (if r15 < 0 then (
  some ((0 : Int32), C63)) else (
  b2 (F_L_trySimulate (((x1).toInt64) * (137 : Int64)) (20 : Int32) C63) fun r66 C68 =>
  (if r15 = r66 then (
  some ((1 : Int32), C68)) else (
  some ((0 : Int32), C68)))))) else (
  some ((0 : Int32), C63)))) else (
  some ((0 : Int32), C59)))) else (
  some ((0 : Int32), C55)))) else (
  some ((0 : Int32), C51)))) else (
  some ((0 : Int32), C47)))) else (
  some ((0 : Int32), C43)))) else (
  some ((0 : Int32), C39)))) else (
  some ((0 : Int32), C35)))) else (
  some ((0 : Int32), C31)))) else (
  some ((0 : Int32), C27)))))
def J_L_scripts_213 (x1 : Int32) (r4 : Int32) (r15 : Int32) (r88 : Int32) (C90 : Mem) (v92 : Int32) : Option (Int32 × Mem) :=
  (if r88 = v92 then (
  b2 (F_L_tryScript (1 : Int32) (10000 : Int64) C90) fun r94 C96 =>
  (if r94 = 0 then (
  b2 (F_L_tryScript (1 : Int32) (10097 : Int64) C96) fun r98 C100 =>
  (if r98 = 0 then (
  b2 (F_L_tryScript (1 : Int32) (16001 : Int64) C100) fun r102 C104 =>
  (if r102 = 0 then (
  J_L_scripts_254 x1 r4 r15 (1 : Int32) C104) else (
  J_L_scripts_254 x1 r4 r15 (0 : Int32) C104))) else (
  J_L_scripts_254 x1 r4 r15 (0 : Int32) C100))) else (
  J_L_scripts_254 x1 r4 r15 (0 : Int32) C96))) else (
  J_L_scripts_254 x1 r4 r15 (0 : Int32) C90))
def J_L_scripts_182 (x1 : Int32) (r4 : Int32) (v8 : Int32) (r9 : Int32) (r15 : Int32) (r82 : Int32) (C84 : Mem) (v86 : Int32) : Option (Int32 × Mem) :=
  (if r82 = v86 then (
  b2 (F_L_tryScript (1 : Int32) ((60000 : Int64) + ((1000 : Int64) * ((v8).toInt64))) C84) fun r88 C90 =>
  (if r9 = (4 : Int32) then (
  J_L_scripts_213 x1 r4 r15 r88 C90 (-9 : Int32)) else (
  J_L_scripts_213 x1 r4 r15 r88 C90 (0 : Int32)))) else (
  J_L_scripts_254 x1 r4 r15 (0 : Int32) C84))
def J_L_scripts_154 (x1 : Int32) (r4 : Int32) (v8 : Int32) (r9 : Int32) (r15 : Int32) (C81 : Mem) : Option (Int32 × Mem) :=
  b2 (F_L_tryScript (1 : Int32) ((50000 : Int64) + ((1000 : Int64) * ((v8).toInt64))) C81) fun r82 C84 =>
  (if r9 = (4 : Int32) then (
  J_L_scripts_182 x1 r4 v8 r9 r15 r82 C84 (0 : Int32)) else (
  J_L_scripts_182 x1 r4 v8 r9 r15 r82 C84 (-9 : Int32)))
def J_L_scripts_86 (x1 : Int32) (r4 : Int32) (v8 : Int32) (r9 : Int32) (r12 : Int32) (r15 : Int32) (C71 : Mem) : Option (Int32 × Mem) :=
  b2 (F_L_tryScript (1 : Int32) (((80000 : Int64) + ((1000 : Int64) * ((v8).toInt64))) + ((r9).toInt64)) C71) fun r72 C74 =>
  (if r72 = (-9 : Int32) then (
  b2 (F_L_tryScript (1 : Int32) ((80005 : Int64) + ((1000 : Int64) * ((v8).toInt64))) C74) fun r76 C78 =>
  (if r76 = 0 then (
  (if (9 : Int32) < r12 then (
  J_L_scripts_154 x1 r4 v8 r9 r15 C78) else (
  b2 (F_L_tryScript (1 : Int32) ((90000 : Int64) + ((r12).toInt64)) C78) fun r106 C108 =>
  (if r106 = (-9 : Int32) then (
  J_L_scripts_154 x1 r4 v8 r9 r15 C108) else (
  J_L_scripts_254 x1 r4 r15 (0 : Int32) C108))))) else (
  J_L_scripts_254 x1 r4 r15 (0 : Int32) C78))) else (
  J_L_scripts_254 x1 r4 r15 (0 : Int32) C74))
def F_L_scripts (x1 : Int32) (C : Mem) : Option (Int32 × Mem) :=
  b2 (F_L_tryAbout (9 : Int32) C) fun r1 C3 =>
  b2 (F_L_tryAbout (6 : Int32) C3) fun r4 C6 =>
  gz r4 (
  nm (x1 - x1 / r4 * r4) fun v8 =>
  b2 (F_L_tryBoiler v8 (2 : Int32) C6) fun r9 C11 =>
  b2 (F_L_tryAbout (14 : Int32) C11) fun r12 C14 =>
  b2 (F_L_trySimulate (((x1).toInt64) * (137 : Int64)) (20 : Int32) C14) fun r15 C17 =>
  b2 (F_L_tryScript (1 : Int32) ((70000 : Int64) + ((r1).toInt64)) C17) fun r18 C20 =>
  (if r18 = (-9 : Int32) then (
  (if r1 = (99 : Int32) then (
  J_L_scripts_86 x1 r4 v8 r9 r12 r15 C20) else (
  b2 (F_L_tryScript (1 : Int32) ((70001 : Int64) + ((r1).toInt64)) C20) fun r110 C112 =>
  (if r110 = 0 then (
  J_L_scripts_86 x1 r4 v8 r9 r12 r15 C112) else (
  J_L_scripts_254 x1 r4 r15 (0 : Int32) C112))))) else (
  J_L_scripts_254 x1 r4 r15 (0 : Int32) C20)))
def J_L_act_178 (x2 : Int32) (C3 : Mem) (v49 : Int32) : Option (Int32 × Mem) :=
  b2 (F_L_trySetFlue (x2 - x2 / (2 : Int32) * (2 : Int32)) v49 C3) fun r50 C52 =>
  some (r50, C52)
def F_L_act (x1 : Int32) (x2 : Int32) (C : Mem) : Option (Int32 × Mem) :=
  b2 (F_L_tryAbout (6 : Int32) C) fun r1 C3 =>
  gz r1 (
  nm (x2 - x2 / r1 * r1) fun v5 =>
  (if (x1 - x1 / (16 : Int32) * (16 : Int32)) = (0 : Int32) then (
  b2 (F_L_tryTick ((1 : Int32) + (x2 - x2 / (30 : Int32) * (30 : Int32))) ((x2 / (32 : Int32)) - (x2 / (32 : Int32)) / (4 : Int32) * (4 : Int32)) C3) fun r21 C23 =>
  some (r21, C23)) else (
  (if (x1 - x1 / (16 : Int32) * (16 : Int32)) = (1 : Int32) then (
  b2 (F_L_tryTick ((1 : Int32) + (x2 - x2 / (30 : Int32) * (30 : Int32))) ((x2 / (32 : Int32)) - (x2 / (32 : Int32)) / (4 : Int32) * (4 : Int32)) C3) fun r24 C26 =>
  some (r24, C26)) else (
  (if (x1 - x1 / (16 : Int32) * (16 : Int32)) = (2 : Int32) then (
  b2 (F_L_tryTick ((1 : Int32) + (x2 - x2 / (30 : Int32) * (30 : Int32))) ((x2 / (32 : Int32)) - (x2 / (32 : Int32)) / (4 : Int32) * (4 : Int32)) C3) fun r27 C29 =>
  some (r27, C29)) else (
  (if (x1 - x1 / (16 : Int32) * (16 : Int32)) = (3 : Int32) then (
  b2 (F_L_tryTick ((1 : Int32) + (x2 - x2 / (30 : Int32) * (30 : Int32))) ((x2 / (32 : Int32)) - (x2 / (32 : Int32)) / (4 : Int32) * (4 : Int32)) C3) fun r30 C32 =>
  some (r30, C32)) else (
  (if (x1 - x1 / (16 : Int32) * (16 : Int32)) = (4 : Int32) then (
  b2 (F_L_tryTick ((1 : Int32) + (x2 - x2 / (30 : Int32) * (30 : Int32))) ((x2 / (32 : Int32)) - (x2 / (32 : Int32)) / (4 : Int32) * (4 : Int32)) C3) fun r33 C35 =>
  some (r33, C35)) else (
  (if (x1 - x1 / (16 : Int32) * (16 : Int32)) = (5 : Int32) then (
  b2 (F_L_tryDraw ((1 : Int32) + (x2 - x2 / (8 : Int32) * (8 : Int32))) C3) fun r36 C38 =>
  some (r36, C38)) else (
  (if (x1 - x1 / (16 : Int32) * (16 : Int32)) = (6 : Int32) then (
  b2 (F_L_trySet (0 : Int32) ((40 : Int32) + (x2 - x2 / (41 : Int32) * (41 : Int32))) C3) fun r39 C41 =>
  some (r39, C41)) else (
  (if (x1 - x1 / (16 : Int32) * (16 : Int32)) = (7 : Int32) then (
  b2 (F_L_trySet ((2 : Int32) + ((2 : Int32) * (x2 - x2 / (2 : Int32) * (2 : Int32)))) ((1 : Int32) + ((x2 / (2 : Int32)) - (x2 / (2 : Int32)) / (5 : Int32) * (5 : Int32))) C3) fun r42 C44 =>
  some (r42, C44)) else (
  (if (x1 - x1 / (16 : Int32) * (16 : Int32)) = (8 : Int32) then (
  b2 (F_L_trySet (3 : Int32) ((60 : Int32) + (x2 - x2 / (31 : Int32) * (31 : Int32))) C3) fun r45 C47 =>
  some (r45, C47)) else (
  (if (x1 - x1 / (16 : Int32) * (16 : Int32)) = (9 : Int32) then (
  (if ((x2 / (2 : Int32)) - (x2 / (2 : Int32)) / (3 : Int32) * (3 : Int32)) ≤ 0 then (
  J_L_act_178 x2 C3 (0 : Int32)) else (
  J_L_act_178 x2 C3 (1 : Int32)))) else (
  (if (x1 - x1 / (16 : Int32) * (16 : Int32)) = (10 : Int32) then (
  b2 (F_L_trySetDraft (x2 - x2 / (2 : Int32) * (2 : Int32)) ((x2 / (2 : Int32)) - (x2 / (2 : Int32)) / (100 : Int32) * (100 : Int32)) C3) fun r53 C55 =>
  some (r53, C55)) else (
  (if (x1 - x1 / (16 : Int32) * (16 : Int32)) = (11 : Int32) then (
  b2 (F_L_tryLock v5 C3) fun r56 C58 =>
  some (r56, C58)) else (
  (if (x1 - x1 / (16 : Int32) * (16 : Int32)) = (12 : Int32) then (
  b2 (F_L_tryUnlock v5 C3) fun r59 C61 =>
  some (r59, C61)) else (
  (if (x1 - x1 / (16 : Int32) * (16 : Int32)) = (13 : Int32) then (
  b2 (F_L_tryPutOff v5 C3) fun r62 C64 =>
  some (r62, C64)) else (
  (if (x1 - x1 / (16 : Int32) * (16 : Int32)) = (14 : Int32) then (
  b2 (F_L_tryUndo  C3) fun r65 C67 =>
  some (r65, C67)) else (
  (if (x2 - x2 / (2 : Int32) * (2 : Int32)) = 0 then (
  b2 (F_L_trySave (1 : Int32) C3) fun r72 C74 =>
  some (r72, C74)) else (
  b2 (F_L_tryRestore (1 : Int32) C3) fun r69 C71 =>
  some (r69, C71))))))))))))))))))))))))))))))))))
def S_L_alike_19  (v9 : Int32) (v10 : Int32) (C11 : Mem) (D12 : Mem) : Option ((Int32 × Int32 × Mem × Mem) ⊕ (Int32 × Int32 × Mem × Mem)) :=
  (if (17 : Int32) ≤ v10 then (
  some (Sum.inr (v9, v10, C11, D12))) else (
  (if v9 = 0 then (
  nm (v10 + (1 : Int32)) fun v20 =>
  some (Sum.inl ((0 : Int32), v20, C11, D12))) else (
  b2 (F_L_tryAbout v10 C11) fun r21 C23 =>
  b2 (F_L_tryAbout v10 D12) fun r24 D26 =>
  (if r21 = r24 then (
  (if (5 : Int32) < v10 then (
  (if (7 : Int32) < v10 then (
  nm (v10 + (1 : Int32)) fun v31 =>
  some (Sum.inl ((1 : Int32), v31, C23, D26))) else (
  b2 (F_L_tryFlue (v10 / (4 : Int32)) (v10 - v10 / (4 : Int32) * (4 : Int32)) C23) fun r32 C34 =>
  b2 (F_L_tryFlue (v10 / (4 : Int32)) (v10 - v10 / (4 : Int32) * (4 : Int32)) D26) fun r35 D37 =>
  (if r32 = r35 then (
  nm (v10 + (1 : Int32)) fun v40 =>
  some (Sum.inl ((1 : Int32), v40, C34, D37))) else (
  nm (v10 + (1 : Int32)) fun v39 =>
  some (Sum.inl ((0 : Int32), v39, C34, D37))))))) else (
  b2 (F_L_tryAccount v10 C23) fun r41 C43 =>
  b2 (F_L_tryAccount v10 D26) fun r44 D46 =>
  (if r41 = r44 then (
  (if (7 : Int32) < v10 then (
  nm (v10 + (1 : Int32)) fun v50 =>
  some (Sum.inl ((1 : Int32), v50, C43, D46))) else (
  b2 (F_L_tryFlue (v10 / (4 : Int32)) (v10 - v10 / (4 : Int32) * (4 : Int32)) C43) fun r51 C53 =>
  b2 (F_L_tryFlue (v10 / (4 : Int32)) (v10 - v10 / (4 : Int32) * (4 : Int32)) D46) fun r54 D56 =>
  (if r51 = r54 then (
  nm (v10 + (1 : Int32)) fun v59 =>
  some (Sum.inl ((1 : Int32), v59, C53, D56))) else (
  nm (v10 + (1 : Int32)) fun v58 =>
  some (Sum.inl ((0 : Int32), v58, C53, D56))))))) else (
  nm (v10 + (1 : Int32)) fun v48 =>
  some (Sum.inl ((0 : Int32), v48, C43, D46))))))) else (
  nm (v10 + (1 : Int32)) fun v28 =>
  some (Sum.inl ((0 : Int32), v28, C23, D26))))))))
def S_L_alike_120 (v61 : Int32) (v74 : Int32) (v75 : Int32) (C76 : Mem) (D77 : Mem) : Option ((Int32 × Int32 × Mem × Mem) ⊕ (Int32 × Int32 × Mem × Mem)) :=
  (if (8 : Int32) ≤ v75 then (
  some (Sum.inr (v74, v75, C76, D77))) else (
  (if v74 = 0 then (
  nm (v75 + (1 : Int32)) fun v85 =>
  some (Sum.inl ((0 : Int32), v85, C76, D77))) else (
  b2 (F_L_tryBoiler v61 v75 C76) fun r86 C88 =>
  b2 (F_L_tryBoiler v61 v75 D77) fun r89 D91 =>
  (if r86 = r89 then (
  nm (v75 + (1 : Int32)) fun v94 =>
  some (Sum.inl ((1 : Int32), v94, C88, D91))) else (
  nm (v75 + (1 : Int32)) fun v93 =>
  some (Sum.inl ((0 : Int32), v93, C88, D91))))))))
def S_L_alike_103  (v60 : Int32) (v61 : Int32) (C62 : Mem) (D63 : Mem) : Option ((Int32 × Int32 × Mem × Mem) ⊕ (Int32 × Int32 × Mem × Mem)) :=
  b2 (F_L_tryAbout (6 : Int32) C62) fun r69 C71 =>
  (if r69 ≤ v61 then (
  some (Sum.inr (v60, v61, C71, D63))) else (
  (if v60 = 0 then (
  some (Sum.inr (v60, v61, C71, D63))) else (
  b1 (iter (fun x => S_L_alike_120 v61 x.1 x.2.1 x.2.2.1 x.2.2.2) 9 (v60, (0 : Int32), C71, D63)) (u4 fun v79 v80 C81 D82 =>
  nm (v61 + (1 : Int32)) fun v95 =>
  some (Sum.inl (v79, v95, C81, D82)))))))
def S_L_alike_168  (v96 : Int32) (v97 : Int32) (C98 : Mem) (D99 : Mem) : Option ((Int32 × Int32 × Mem × Mem) ⊕ (Int32 × Int32 × Mem × Mem)) :=
  b2 (F_L_tryAbout (7 : Int32) C98) fun r105 C107 =>
  (if r105 ≤ v97 then (
  some (Sum.inr (v96, v97, C107, D99))) else (
  (if v96 = 0 then (
  some (Sum.inr (v96, v97, C107, D99))) else (
  b2 (F_L_tryLayer v97 C107) fun r110 C112 =>
  b2 (F_L_tryLayer v97 D99) fun r113 D115 =>
  (if r110 = r113 then (
  nm (v97 + (1 : Int32)) fun v118 =>
  some (Sum.inl ((1 : Int32), v118, C112, D115))) else (
  nm (v97 + (1 : Int32)) fun v117 =>
  some (Sum.inl ((0 : Int32), v117, C112, D115))))))))
def J_L_alike_16 (C3 : Mem) (D6 : Mem) (v8 : Int32) : Option (Int32 × Mem × Mem) :=
  b1 (iter (fun x => S_L_alike_19  x.1 x.2.1 x.2.2.1 x.2.2.2) 18 (v8, (0 : Int32), C3, D6)) (u4 fun v14 v15 C16 D17 =>
  b1 (iter (fun x => S_L_alike_103  x.1 x.2.1 x.2.2.1 x.2.2.2) 6 (v14, (0 : Int32), C16, D17)) (u4 fun v65 v66 C67 D68 =>
  b1 (iter (fun x => S_L_alike_168  x.1 x.2.1 x.2.2.1 x.2.2.2) 9 (v65, (0 : Int32), C67, D68)) (u4 fun v101 v102 C103 D104 =>
  gb v101 (
  some (v101, C103, D104)))))
def F_L_alike  (C D : Mem) : Option (Int32 × Mem × Mem) :=
  b2 (F_X8_next  C) fun r1 C3 =>
  b2 (F_X8_next  D) fun r4 D6 =>
  (if r1 = r4 then (
  J_L_alike_16 C3 D6 (1 : Int32)) else (
  J_L_alike_16 C3 D6 (0 : Int32)))
def J_L_sound_162 (v19 : Int32) (r31 : Int32) (r34 : Int32) (f45 : Nat → Int32) (v48 : Int32) (C51 : Mem) (v52 : Int32) (v54 : Int32) (v56 : Int32) : Option ((Int32 × Int32 × Int32 × Int32 × Mem × (Nat → Int32)) ⊕ (Int32 × Int32 × Int32 × Int32 × Mem × (Nat → Int32))) :=
  (if v54 = v56 then (
  (if (5 : Int32) < r34 then (
  nm (v19 + (1 : Int32)) fun v60 =>
  some (Sum.inl (v48, v52, (0 : Int32), v60, C51, f45))) else (
  b2 (F_L_tryBoiler v19 (6 : Int32) C51) fun r61 C63 =>
  b2 (F_L_tryBoiler v19 (0 : Int32) C63) fun r64 C66 =>
  b2 (F_L_tryBoiler v19 (4 : Int32) C66) fun r67 C69 =>
  (if r61 < (r64 * r67) then (
  nm (v19 + (1 : Int32)) fun v71 =>
  some (Sum.inl (v48, v52, (0 : Int32), v71, C69, f45))) else (
  b2 (F_L_tryBoiler v19 (4 : Int32) C69) fun r72 C74 =>
  b2 (F_L_tryAbout (8 : Int32) C74) fun r75 C77 =>
  (if r75 < r72 then (
  nm (v19 + (1 : Int32)) fun v79 =>
  some (Sum.inl (v48, v52, (0 : Int32), v79, C77, f45))) else (
  b2 (F_L_tryBoiler v19 (5 : Int32) C77) fun r80 C82 =>
  (if 0 < r80 then (
  b2 (F_L_tryBoiler v19 (4 : Int32) C82) fun r84 C86 =>
  (if r84 = 0 then (
  nm (v19 + (1 : Int32)) fun v88 =>
  some (Sum.inl (v48, v52, (1 : Int32), v88, C86, f45))) else (
  b2 (F_L_tryBoiler v19 (5 : Int32) C86) fun r89 C91 =>
  (if r89 ≤ 0 then (
  nm (v19 + (1 : Int32)) fun v93 =>
  some (Sum.inl (v48, v52, (0 : Int32), v93, C91, f45))) else (
  nm (v19 + (1 : Int32)) fun v94 =>
  some (Sum.inl (v48, v52, (1 : Int32), v94, C91, f45))))))) else (
  (if r31 = 0 then (
  b2 (F_L_tryBoiler v19 (4 : Int32) C82) fun r96 C98 =>
  (if r96 = 0 then (
  nm (v19 + (1 : Int32)) fun v100 =>
  some (Sum.inl (v48, v52, (1 : Int32), v100, C98, f45))) else (
  b2 (F_L_tryBoiler v19 (5 : Int32) C98) fun r101 C103 =>
  (if r101 ≤ 0 then (
  nm (v19 + (1 : Int32)) fun v105 =>
  some (Sum.inl (v48, v52, (0 : Int32), v105, C103, f45))) else (
  nm (v19 + (1 : Int32)) fun v106 =>
  some (Sum.inl (v48, v52, (1 : Int32), v106, C103, f45))))))) else (
  (if r31 = (4 : Int32) then (
  b2 (F_L_tryBoiler v19 (4 : Int32) C82) fun r109 C111 =>
  (if r109 = 0 then (
  nm (v19 + (1 : Int32)) fun v113 =>
  some (Sum.inl (v48, v52, (1 : Int32), v113, C111, f45))) else (
  b2 (F_L_tryBoiler v19 (5 : Int32) C111) fun r114 C116 =>
  (if r114 ≤ 0 then (
  nm (v19 + (1 : Int32)) fun v118 =>
  some (Sum.inl (v48, v52, (0 : Int32), v118, C116, f45))) else (
  nm (v19 + (1 : Int32)) fun v119 =>
  some (Sum.inl (v48, v52, (1 : Int32), v119, C116, f45))))))) else (
  nm (v19 + (1 : Int32)) fun v108 =>
  some (Sum.inl (v48, v52, (0 : Int32), v108, C82, f45))))))))))))))) else (
  nm (v19 + (1 : Int32)) fun v58 =>
  some (Sum.inl (v48, v52, (0 : Int32), v58, C51, f45))))
def J_L_sound_152 (v19 : Int32) (r31 : Int32) (r34 : Int32) (f45 : Nat → Int32) (v48 : Int32) (C51 : Mem) (v52 : Int32) (v54 : Int32) : Option ((Int32 × Int32 × Int32 × Int32 × Mem × (Nat → Int32)) ⊕ (Int32 × Int32 × Int32 × Int32 × Mem × (Nat → Int32))) :=
  (if r34 ≤ 0 then (
  J_L_sound_162 v19 r31 r34 f45 v48 C51 v52 v54 (0 : Int32)) else (
  J_L_sound_162 v19 r31 r34 f45 v48 C51 v52 v54 (1 : Int32)))
def J_L_sound_126 (v16 : Int32) (v17 : Int32) (v19 : Int32) (r31 : Int32) (r34 : Int32) (C43 : Mem) (f45 : Nat → Int32) (v47 : Int32) : Option ((Int32 × Int32 × Int32 × Int32 × Mem × (Nat → Int32)) ⊕ (Int32 × Int32 × Int32 × Int32 × Mem × (Nat → Int32))) :=
  nm (v16 + v47) fun v48 =>
  b2 (F_L_tryBoiler v19 (6 : Int32) C43) fun r49 C51 =>
  nm (v17 + r49) fun v52 =>
  (if r31 = (1 : Int32) then (
  J_L_sound_152 v19 r31 r34 f45 v48 C51 v52 (1 : Int32)) else (
  J_L_sound_152 v19 r31 r34 f45 v48 C51 v52 (0 : Int32)))
def J_L_sound_112 (v16 : Int32) (v17 : Int32) (v19 : Int32) (f22 : Nat → Int32) (r31 : Int32) (r34 : Int32) (r37 : Int32) (v42 : Int32) (C43 : Mem) : Option ((Int32 × Int32 × Int32 × Int32 × Mem × (Nat → Int32)) ⊕ (Int32 × Int32 × Int32 × Int32 × Mem × (Nat → Int32))) :=
  gi r37 2 (
  nm (up f22 (r37).toNatClampNeg ((f22 (r37).toNatClampNeg) + v42)) fun f45 =>
  (if r31 = (2 : Int32) then (
  J_L_sound_126 v16 v17 v19 r31 r34 C43 f45 (1 : Int32)) else (
  J_L_sound_126 v16 v17 v19 r31 r34 C43 f45 (0 : Int32))))
def S_L_sound_50 (r1 : Int32) (v16 : Int32) (v17 : Int32) (v18 : Int32) (v19 : Int32) (C20 : Mem) (f22 : Nat → Int32) : Option ((Int32 × Int32 × Int32 × Int32 × Mem × (Nat → Int32)) ⊕ (Int32 × Int32 × Int32 × Int32 × Mem × (Nat → Int32))) :=
  (if r1 ≤ v19 then (
  some (Sum.inr (v16, v17, v18, v19, C20, f22))) else (
  (if v18 = 0 then (
  some (Sum.inr (v16, v17, v18, v19, C20, f22))) else (
  b2 (F_L_tryBoiler v19 (2 : Int32) C20) fun r31 C33 =>
  b2 (F_L_tryBoiler v19 (3 : Int32) C33) fun r34 C36 =>
  b2 (F_L_tryBoiler v19 (1 : Int32) C36) fun r37 C39 =>
  gi r37 2 (
  (if r31 = (1 : Int32) then (
  b2 (F_L_tryBoiler v19 (0 : Int32) C39) fun r120 C122 =>
  J_L_sound_112 v16 v17 v19 f22 r31 r34 r37 r120 C122) else (
  (if r31 = (2 : Int32) then (
  b2 (F_L_tryBoiler v19 (0 : Int32) C39) fun r124 C126 =>
  J_L_sound_112 v16 v17 v19 f22 r31 r34 r37 r124 C126) else (
  J_L_sound_112 v16 v17 v19 f22 r31 r34 r37 (0 : Int32) C39)))))))))
def J_L_sound_447 (v129 : Int32) (v151 : Int32) (v154 : Int32) (r156 : Int32) (C158 : Mem) (v160 : Int32) : Option ((Int32 × Int32 × Int32 × Mem) ⊕ (Int32 × Int32 × Int32 × Mem)) :=
  (if r156 = v160 then (
  b2 (F_L_tryWhyNot v129 C158) fun r163 C165 =>
  (if r163 = v151 then (
  nm (v129 + (1 : Int32)) fun v168 =>
  some (Sum.inl (v154, (1 : Int32), v168, C165))) else (
  nm (v129 + (1 : Int32)) fun v167 =>
  some (Sum.inl (v154, (0 : Int32), v167, C165))))) else (
  nm (v129 + (1 : Int32)) fun v162 =>
  some (Sum.inl (v154, (0 : Int32), v162, C158))))
def J_L_sound_427 (v129 : Int32) (v148 : Int32) (v151 : Int32) (v154 : Int32) (C155 : Mem) : Option ((Int32 × Int32 × Int32 × Mem) ⊕ (Int32 × Int32 × Int32 × Mem)) :=
  b2 (F_L_tryBoiler v129 (7 : Int32) C155) fun r156 C158 =>
  (if v148 = 0 then (
  J_L_sound_447 v129 v151 v154 r156 C158 (0 : Int32)) else (
  J_L_sound_447 v129 v151 v154 r156 C158 (1 : Int32)))
def J_L_sound_389 (v127 : Int32) (v129 : Int32) (v148 : Int32) (v151 : Int32) (C152 : Mem) : Option ((Int32 × Int32 × Int32 × Mem) ⊕ (Int32 × Int32 × Int32 × Mem)) :=
  (if v151 = 0 then (
  (if v127 = (-9 : Int32) then (
  J_L_sound_427 v129 v148 v151 v129 C152) else (
  b2 (F_L_tryBoiler v129 (4 : Int32) C152) fun r170 C172 =>
  b2 (F_L_tryBoiler v127 (4 : Int32) C172) fun r173 C175 =>
  (if r173 ≤ r170 then (
  J_L_sound_427 v129 v148 v151 v127 C175) else (
  J_L_sound_427 v129 v148 v151 v129 C175))))) else (
  J_L_sound_427 v129 v148 v151 v127 C152))
def J_L_sound_337 (v127 : Int32) (v129 : Int32) (r138 : Int32) (r141 : Int32) (v148 : Int32) (C149 : Mem) : Option ((Int32 × Int32 × Int32 × Mem) ⊕ (Int32 × Int32 × Int32 × Mem)) :=
  (if r141 = (1 : Int32) then (
  J_L_sound_389 v127 v129 v148 (1 : Int32) C149) else (
  (if r141 = (2 : Int32) then (
  J_L_sound_389 v127 v129 v148 (1 : Int32) C149) else (
  (if r141 = (4 : Int32) then (
  J_L_sound_389 v127 v129 v148 (2 : Int32) C149) else (
  (if v148 = 0 then (
  b2 (F_L_tryFlue r138 (2 : Int32) C149) fun r180 C182 =>
  (if r180 = 0 then (
  J_L_sound_389 v127 v129 v148 (3 : Int32) C182) else (
  J_L_sound_389 v127 v129 v148 (4 : Int32) C182))) else (
  J_L_sound_389 v127 v129 v148 (0 : Int32) C149))))))))
def S_L_sound_270 (r1 : Int32) (f28 : Nat → Int32) (v127 : Int32) (v128 : Int32) (v129 : Int32) (C130 : Mem) : Option ((Int32 × Int32 × Int32 × Mem) ⊕ (Int32 × Int32 × Int32 × Mem)) :=
  (if r1 ≤ v129 then (
  some (Sum.inr (v127, v128, v129, C130))) else (
  (if v128 = 0 then (
  some (Sum.inr (v127, v128, v129, C130))) else (
  b2 (F_L_tryBoiler v129 (1 : Int32) C130) fun r138 C140 =>
  b2 (F_L_tryBoiler v129 (2 : Int32) C140) fun r141 C143 =>
  b2 (F_L_tryFlue r138 (2 : Int32) C143) fun r144 C146 =>
  (if r144 = (1 : Int32) then (
  gi r138 2 (
  b2 (F_L_tryBoiler v129 (0 : Int32) C146) fun r185 C187 =>
  b2 (F_L_tryFlue r138 (0 : Int32) C187) fun r188 C190 =>
  (if r188 < ((f28 (r138).toNatClampNeg) + r185) then (
  J_L_sound_337 v127 v129 r138 r141 (0 : Int32) C190) else (
  J_L_sound_337 v127 v129 r138 r141 (1 : Int32) C190)))) else (
  J_L_sound_337 v127 v129 r138 r141 (0 : Int32) C146))))))
def J_L_sound_489 (r1 : Int32) (v23 : Int32) (v24 : Int32) (f28 : Nat → Int32) (v132 : Int32) (v133 : Int32) (C194 : Mem) (v196 : Int32) : Option (Int32 × Mem) :=
  (if v133 = 0 then (
  some ((0 : Int32), C194)) else (
  b2 (F_L_tryFlue (0 : Int32) (1 : Int32) C194) fun r198 C200 =>
  (if (f28 ((0 : Int32)).toNatClampNeg) = r198 then (
  b2 (F_L_tryFlue (1 : Int32) (1 : Int32) C200) fun r202 C204 =>
  (if (f28 ((1 : Int32)).toNatClampNeg) = r202 then (
  b2 (F_L_tryAbout (16 : Int32) C204) fun r206 C208 =>
  (if v23 = r206 then (
  b2 (F_L_tryAccount (4 : Int32) C208) fun r210 C212 =>
  (if v24 = r210 then (
  b2 (F_X8_next  C212) fun r214 C216 =>
  (if v132 = r214 then (
  b2 (F_L_tryFlue (0 : Int32) (3 : Int32) C216) fun r218 C220 =>
  b2 (F_L_tryFlue (1 : Int32) (3 : Int32) C220) fun r221 C223 =>
  (if (r218 + r221) = r1 then (
  b2 (F_L_tryAccount (1 : Int32) C223) fun r225 C227 =>
  b2 (F_L_tryAccount (5 : Int32) C227) fun r228 C230 =>
  (if r225 = ((10 : Int32) * r228) then (
  (if v196 = 0 then (
  b2 (F_L_tryAbout (12 : Int32) C230) fun r244 C246 =>
  (if r244 = 0 then (
  b2 (F_L_tryAbout (13 : Int32) C246) fun r248 C250 =>
  (if r248 = 0 then (
  b2 (F_L_tryAbout (12 : Int32) C250) fun r252 C254 =>
  b2 (F_L_tryAbout (13 : Int32) C254) fun r255 C257 =>
  (if r255 < r252 then (
  some ((0 : Int32), C257)) else (
  b2 (F_L_tryAbout (13 : Int32) C257) fun r259 C261 =>
  (if (12 : Int32) ≤ r259 then (
  some ((0 : Int32), C261)) else (
  some ((1 : Int32), C261)))))) else (
  some ((0 : Int32), C250)))) else (
  some ((0 : Int32), C246)))) else (
  b2 (F_L_tryAbout (12 : Int32) C230) fun r233 C235 =>
  b2 (F_L_tryAbout (13 : Int32) C235) fun r236 C238 =>
  (if r236 < r233 then (
  some ((0 : Int32), C238)) else (
  b2 (F_L_tryAbout (13 : Int32) C238) fun r240 C242 =>
  (if (12 : Int32) ≤ r240 then (
  some ((0 : Int32), C242)) else (
  some ((1 : Int32), C242)))))))) else (
  some ((0 : Int32), C230)))) else (
  some ((0 : Int32), C223)))) else (
  some ((0 : Int32), C216)))) else (
  some ((0 : Int32), C212)))) else (
  some ((0 : Int32), C208)))) else (
  some ((0 : Int32), C204)))) else (
  some ((0 : Int32), C200)))))
def J_L_sound_45 (r1 : Int32) (C12 : Mem) (v15 : Int32) : Option (Int32 × Mem) :=
  b1 (iter (fun x => S_L_sound_50 r1 x.1 x.2.1 x.2.2.1 x.2.2.2.1 x.2.2.2.2.1 x.2.2.2.2.2) 6 ((0 : Int32), (0 : Int32), v15, (0 : Int32), C12, (fun _ => 0))) (u6 fun v23 v24 v25 v26 C27 f28 =>
  b1 (iter (fun x => S_L_sound_270 r1 f28 x.1 x.2.1 x.2.2.1 x.2.2.2) 6 ((-9 : Int32), v25, (0 : Int32), C27)) (u4 fun v132 v133 v134 C135 =>
  b2 (F_L_tryAbout (11 : Int32) C135) fun r192 C194 =>
  (if r192 = (1 : Int32) then (
  J_L_sound_489 r1 v23 v24 f28 v132 v133 C194 (1 : Int32)) else (
  J_L_sound_489 r1 v23 v24 f28 v132 v133 C194 (0 : Int32)))))
def F_L_sound  (C : Mem) : Option (Int32 × Mem) :=
  b2 (F_L_tryAbout (6 : Int32) C) fun r1 C3 =>
  b2 (F_L_tryAbout (9 : Int32) C3) fun r4 C6 =>
  b2 (F_L_heat  C6) fun r7 C9 =>
  b2 (F_L_tryAbout (7 : Int32) C9) fun r10 C12 =>
  gz r10 (
  (if r4 = (r7 / r10) then (
  J_L_sound_45 r1 C12 (1 : Int32)) else (
  J_L_sound_45 r1 C12 (0 : Int32))))
def S_L_told_134 (xs : Nat → Int32) (L : Nat) (x3 : Int32) (v10 : Int32) (v21 : Int32) (v22 : Int32) (C23 : Mem) (D24 : Mem) : Option ((Int32 × Int32 × Mem × Mem) ⊕ (Int32 × Int32 × Mem × Mem)) :=
  (if v10 ≤ v22 then (
  some (Sum.inr (v21, v22, C23, D24))) else (
  (if v21 = 0 then (
  some (Sum.inr (v21, v22, C23, D24))) else (
  b3 (F_L_number xs L ((x3 + (2 : Int32)) + v22) C23 D24) fun r32 C34 D35 =>
  b3 (F_L_put (98 : Int32) C34 D35) fun r36 C38 D39 =>
  (if r36 = 0 then (
  nm (v22 + (1 : Int32)) fun v41 =>
  some (Sum.inl ((0 : Int32), v41, C38, D39))) else (
  b2 (F_X8_errorPosition  C38) fun r42 C44 =>
  (if r42 = ((7 : Int32) + ((4 : Int32) * v22)) then (
  b3 (F_L_two ((1 : Int32) + (r32 - r32 / (30 : Int32) * (30 : Int32))) C44 D39) fun r47 C49 D50 =>
  (if r47 = 0 then (
  nm (v22 + (1 : Int32)) fun v52 =>
  some (Sum.inl ((0 : Int32), v52, C49, D50))) else (
  b2 (F_X8_errorPosition  C49) fun r53 C55 =>
  (if r53 = ((9 : Int32) + ((4 : Int32) * v22)) then (
  b3 (F_L_put ((48 : Int32) + ((r32 / (32 : Int32)) - (r32 / (32 : Int32)) / (2 : Int32) * (2 : Int32))) C55 D50) fun r58 C60 D61 =>
  (if r58 = 0 then (
  nm (v22 + (1 : Int32)) fun v63 =>
  some (Sum.inl ((0 : Int32), v63, C60, D61))) else (
  b2 (F_X8_errorPosition  C60) fun r64 C66 =>
  (if r64 = (-9 : Int32) then (
  nm (v22 + (1 : Int32)) fun v69 =>
  some (Sum.inl ((1 : Int32), v69, C66, D61))) else (
  nm (v22 + (1 : Int32)) fun v68 =>
  some (Sum.inl ((0 : Int32), v68, C66, D61))))))) else (
  nm (v22 + (1 : Int32)) fun v57 =>
  some (Sum.inl ((0 : Int32), v57, C55, D50))))))) else (
  nm (v22 + (1 : Int32)) fun v46 =>
  some (Sum.inl ((0 : Int32), v46, C44, D39))))))))))
def J_L_told_384 (r1 : Int32) (v9 : Int32) (v10 : Int32) (v72 : Int32) (v73 : Int32) (v74 : Int32) (C75 : Mem) (D76 : Mem) : Option (Int32 × Mem × Mem) :=
  (if v72 = 0 then (
  some ((0 : Int32), C75, D76)) else (
  b2 (F_X8_errorPosition  C75) fun r78 C80 =>
  (if r78 = (-9 : Int32) then (
  b2 (F_L_tryLoad  C80) fun r82 C84 =>
  (if r82 = v10 then (
  b2 (F_L_tryLoad  D76) fun r86 D88 =>
  (if r86 = v10 then (
  b2 (F_L_tryAbout (6 : Int32) C84) fun r90 C92 =>
  (if r90 = v10 then (
  b2 (F_L_tryAbout (7 : Int32) C92) fun r94 C96 =>
  (if r94 = v9 then (
  b2 (F_L_tryLayer (0 : Int32) C96) fun r98 C100 =>
  (if r98 = v74 then (
  b2 (F_L_tryFlue (0 : Int32) (0 : Int32) C100) fun r102 C104 =>
  (if r102 = ((r1 / (64 : Int32)) - (r1 / (64 : Int32)) / (100 : Int32) * (100 : Int32)) then (
  b2 (F_L_tryUndo  C104) fun r106 C108 =>
  (if r106 = (-1003 : Int32) then (
  b2 (F_L_tryRestore (1 : Int32) D88) fun r110 D112 =>
  (if r110 = (-1003 : Int32) then (
  b3 (F_L_put (120 : Int32) C108 D112) fun r114 C116 D117 =>
  (if r114 = 0 then (
  some ((0 : Int32), C116, D117)) else (
  b2 (F_X8_errorPosition  C116) fun r119 C121 =>
  (if r119 = v73 then (
  b2 (F_L_tryLoad  C121) fun r123 C125 =>
  (if r123 = (-1003 : Int32) then (
  some ((1 : Int32), C125, D117)) else (
  some ((0 : Int32), C125, D117)))) else (
  some ((0 : Int32), C121, D117)))))) else (
  some ((0 : Int32), C108, D112)))) else (
  some ((0 : Int32), C108, D88)))) else (
  some ((0 : Int32), C104, D88)))) else (
  some ((0 : Int32), C100, D88)))) else (
  some ((0 : Int32), C96, D88)))) else (
  some ((0 : Int32), C92, D88)))) else (
  some ((0 : Int32), C84, D88)))) else (
  some ((0 : Int32), C84, D76)))) else (
  some ((0 : Int32), C80, D76)))))
def J_L_told_350 (r5 : Int32) (v134 : Int32) (v135 : Int32) (v150 : Int32) (C151 : Mem) (D152 : Mem) : Option ((Int32 × Int32 × Int32 × Mem × Mem) ⊕ (Int32 × Int32 × Int32 × Mem × Mem)) :=
  gz ((1 : Int32) + v135) (
  nm (v134 + ((r5 / ((1 : Int32) + v135)) - (r5 / ((1 : Int32) + v135)) / (6 : Int32) * (6 : Int32))) fun v154 =>
  nm (v135 + (1 : Int32)) fun v155 =>
  some (Sum.inl (v150, v154, v155, C151, D152)))
def S_L_told_307 (r5 : Int32) (v9 : Int32) (v70 : Int32) (v133 : Int32) (v134 : Int32) (v135 : Int32) (C136 : Mem) (D137 : Mem) : Option ((Int32 × Int32 × Int32 × Mem × Mem) ⊕ (Int32 × Int32 × Int32 × Mem × Mem)) :=
  (if v9 ≤ v135 then (
  some (Sum.inr (v133, v134, v135, C136, D137))) else (
  (if v133 = 0 then (
  some (Sum.inr (v133, v134, v135, C136, D137))) else (
  b2 (F_X8_errorPosition  C136) fun r146 C148 =>
  (if r146 = ((v70 + (1 : Int32)) + ((2 : Int32) * v135)) then (
  b3 (F_L_two v134 C148 D137) fun r156 C158 D159 =>
  (if r156 = 0 then (
  J_L_told_350 r5 v134 v135 (0 : Int32) C158 D159) else (
  J_L_told_350 r5 v134 v135 (1 : Int32) C158 D159))) else (
  J_L_told_350 r5 v134 v135 (0 : Int32) C148 D137))))))
def J_L_told_129 (xs : Nat → Int32) (L : Nat) (x3 : Int32) (r1 : Int32) (r5 : Int32) (v9 : Int32) (v10 : Int32) (v18 : Int32) (C19 : Mem) (D20 : Mem) : Option (Int32 × Mem × Mem) :=
  b1 (iter (fun x => S_L_told_134 xs L x3 v10 x.1 x.2.1 x.2.2.1 x.2.2.2) 6 (v18, (0 : Int32), C19, D20)) (u4 fun v26 v27 C28 D29 =>
  nm ((6 : Int32) + ((4 : Int32) * v10)) fun v70 =>
  (if ((r5 / (128 : Int32)) - (r5 / (128 : Int32)) / (3 : Int32) * (3 : Int32)) ≤ 0 then (
  J_L_told_384 r1 v9 v10 v26 v70 (40 : Int32) C28 D29) else (
  (if v26 = 0 then (
  J_L_told_384 r1 v9 v10 v26 v70 (40 : Int32) C28 D29) else (
  nm ((r5 / (512 : Int32)) - (r5 / (512 : Int32)) / (60 : Int32) * (60 : Int32)) fun v128 =>
  b3 (F_L_put (116 : Int32) C28 D29) fun r129 C131 D132 =>
  b1 (iter (fun x => S_L_told_307 r5 v9 v70 x.1 x.2.1 x.2.2.1 x.2.2.2.1 x.2.2.2.2) 9 (r129, v128, (0 : Int32), C131, D132)) (u5 fun v139 v140 v141 C142 D143 =>
  nm (v70 + ((1 : Int32) + ((2 : Int32) * v9))) fun v161 =>
  J_L_told_384 r1 v9 v10 v139 v161 v128 C142 D143))))))
def F_L_told (xs : Nat → Int32) (L : Nat) (x3 : Int32) (C D : Mem) : Option (Int32 × Mem × Mem) :=
  b3 (F_L_number xs L x3 C D) fun r1 C3 D4 =>
  b3 (F_L_number xs L (x3 + (1 : Int32)) C3 D4) fun r5 C7 D8 =>
  nm ((2 : Int32) + (r1 - r1 / (7 : Int32) * (7 : Int32))) fun v9 =>
  nm ((1 : Int32) + ((r1 / (8 : Int32)) - (r1 / (8 : Int32)) / (5 : Int32) * (5 : Int32))) fun v10 =>
  b2 (F_X8_clearText  C7) fun r11 C13 =>
  b2 (F_X8_clearText  D8) fun r14 D16 =>
  (if r11 = r14 then (
  b3 (F_L_put (72 : Int32) C13 D16) fun r162 C164 D165 =>
  (if r162 = 0 then (
  J_L_told_129 xs L x3 r1 r5 v9 v10 (0 : Int32) C164 D165) else (
  b2 (F_X8_errorPosition  C164) fun r167 C169 =>
  (if r167 = (1 : Int32) then (
  b3 (F_L_put ((48 : Int32) + v9) C169 D165) fun r171 C173 D174 =>
  (if r171 = 0 then (
  J_L_told_129 xs L x3 r1 r5 v9 v10 (0 : Int32) C173 D174) else (
  b3 (F_L_two ((r1 / (64 : Int32)) - (r1 / (64 : Int32)) / (100 : Int32) * (100 : Int32)) C173 D174) fun r176 C178 D179 =>
  (if r176 = 0 then (
  J_L_told_129 xs L x3 r1 r5 v9 v10 (0 : Int32) C178 D179) else (
  b2 (F_X8_errorPosition  C178) fun r181 C183 =>
  (if r181 = (4 : Int32) then (
  b3 (F_L_two (r5 - r5 / (100 : Int32) * (100 : Int32)) C183 D179) fun r185 C187 D188 =>
  (if r185 = 0 then (
  J_L_told_129 xs L x3 r1 r5 v9 v10 (0 : Int32) C187 D188) else (
  b2 (F_X8_errorPosition  C187) fun r190 C192 =>
  (if r190 = (6 : Int32) then (
  J_L_told_129 xs L x3 r1 r5 v9 v10 (1 : Int32) C192 D188) else (
  J_L_told_129 xs L x3 r1 r5 v9 v10 (0 : Int32) C192 D188))))) else (
  J_L_told_129 xs L x3 r1 r5 v9 v10 (0 : Int32) C183 D179))))))) else (
  J_L_told_129 xs L x3 r1 r5 v9 v10 (0 : Int32) C169 D165))))) else (
  J_L_told_129 xs L x3 r1 r5 v9 v10 (0 : Int32) C13 D16))
def J_L_hands_170 (v25 : Int32) (v26 : Int32) (C38 : Mem) (v40 : Int32) : Option ((Int32 × Int32 × Mem) ⊕ (Int32 × Int32 × Mem)) :=
  nm (v25 + v40) fun v41 =>
  nm (v26 + (1 : Int32)) fun v42 =>
  some (Sum.inl (v41, v42, C38))
def S_L_hands_125 (r1 : Int32) (v24 : Int32) (v25 : Int32) (v26 : Int32) (C27 : Mem) : Option ((Int32 × Int32 × Mem) ⊕ (Int32 × Int32 × Mem)) :=
  (if r1 ≤ v26 then (
  some (Sum.inr (v25, v26, C27))) else (
  b2 (F_L_tryBoiler v26 (2 : Int32) C27) fun r33 C35 =>
  b2 (F_L_tryBoiler v26 (1 : Int32) C35) fun r36 C38 =>
  (if r36 = v24 then (
  (if r33 ≤ 0 then (
  J_L_hands_170 v25 v26 C38 (0 : Int32)) else (
  (if (4 : Int32) ≤ r33 then (
  J_L_hands_170 v25 v26 C38 (0 : Int32)) else (
  J_L_hands_170 v25 v26 C38 (1 : Int32)))))) else (
  J_L_hands_170 v25 v26 C38 (0 : Int32)))))
def S_L_hands_407 (r1 : Int32) (r57 : Int32) (v60 : Int32) (v61 : Int32) (v62 : Int32) (C63 : Mem) (f65 : Nat → Int32) : Option ((Int32 × Int32 × Int32 × Mem × (Nat → Int32)) ⊕ (Int32 × Int32 × Int32 × Mem × (Nat → Int32))) :=
  (if r1 ≤ v62 then (
  some (Sum.inr (v60, v61, v62, C63, f65))) else (
  (if r57 = (-9 : Int32) then (
  some (Sum.inr (v60, v61, v62, C63, f65))) else (
  (if ((r57 >>> (v62 &&& 31)) &&& (1 : Int32)) = (1 : Int32) then (
  b2 (F_L_tryBoiler v62 (0 : Int32) C63) fun r75 C77 =>
  nm (v60 + r75) fun v78 =>
  nm (v61 + (1 : Int32)) fun v79 =>
  b2 (F_L_tryBoiler v62 (1 : Int32) C77) fun r80 C82 =>
  gi r80 2 (
  b2 (F_L_tryBoiler v62 (0 : Int32) C82) fun r84 C86 =>
  gi r80 2 (
  nm (up f65 (r80).toNatClampNeg ((f65 (r80).toNatClampNeg) + r84)) fun f88 =>
  nm (v62 + (1 : Int32)) fun v89 =>
  some (Sum.inl (v78, v79, v89, C86, f88))))) else (
  nm (v62 + (1 : Int32)) fun v74 =>
  some (Sum.inl (v60, v61, v74, C63, f65))))))))
def J_L_hands_708 (x1 : Int32) (r7 : Int32) (v93 : Int32) (v94 : Int32) (v102 : Int32) (C103 : Mem) : Option (Int32 × Mem) :=
  nm ((1 : Int32) + (x1 - x1 / (30 : Int32) * (30 : Int32))) fun v104 =>
  b2 (F_L_tryCheapestPurge v104 v94 C103) fun r105 C107 =>
  b2 (F_L_purgeFuel r105 v104 v94 r7 C107) fun r108 C110 =>
  b2 (F_L_purgeFuel ((1 : Int32) + ((x1 / (128 : Int32)) - (x1 / (128 : Int32)) / (5 : Int32) * (5 : Int32))) v104 v94 r7 C110) fun r111 C113 =>
  b2 (F_L_tryBearable v104 ((10 : Int32) + (v93 - v93 / (71 : Int32) * (71 : Int32))) C113) fun r114 C116 =>
  (if v102 = 0 then (
  some ((0 : Int32), C116)) else (
  (if r105 < (1 : Int32) then (
  some ((0 : Int32), C116)) else (
  (if (5 : Int32) < r105 then (
  some ((0 : Int32), C116)) else (
  (if r111 < r108 then (
  some ((0 : Int32), C116)) else (
  (if r114 < (-9 : Int32) then (
  some ((0 : Int32), C116)) else (
  (if (5 : Int32) < r114 then (
  some ((0 : Int32), C116)) else (
  b2 (F_L_tryUndo  C116) fun r123 C125 =>
  (if r123 = (-1003 : Int32) then (
  some ((1 : Int32), C125)) else (
  some ((0 : Int32), C125)))))))))))))))
def J_L_hands_646 (x1 : Int32) (r7 : Int32) (v93 : Int32) (v94 : Int32) (r95 : Int32) (v99 : Int32) (C100 : Mem) : Option (Int32 × Mem) :=
  (if r95 ≤ 0 then (
  J_L_hands_708 x1 r7 v93 v94 v99 C100) else (
  (if (97 : Int32) ≤ r95 then (
  J_L_hands_708 x1 r7 v93 v94 v99 C100) else (
  (if v99 = 0 then (
  J_L_hands_708 x1 r7 v93 v94 v99 C100) else (
  b2 (F_L_tryAhead r95 v94 (0 : Int32) C100) fun r129 C131 =>
  (if r129 < v93 then (
  J_L_hands_708 x1 r7 v93 v94 (0 : Int32) C131) else (
  (if r95 = (1 : Int32) then (
  J_L_hands_708 x1 r7 v93 v94 (1 : Int32) C131) else (
  b2 (F_L_tryAhead (r95 - (1 : Int32)) v94 (0 : Int32) C131) fun r134 C136 =>
  (if v93 ≤ r134 then (
  J_L_hands_708 x1 r7 v93 v94 (0 : Int32) C136) else (
  J_L_hands_708 x1 r7 v93 v94 (1 : Int32) C136))))))))))))
def J_L_hands_638 (x1 : Int32) (r7 : Int32) (v93 : Int32) (v94 : Int32) (r95 : Int32) (v139 : Int32) (C142 : Mem) (v144 : Int32) : Option (Int32 × Mem) :=
  (if v139 = v144 then (
  J_L_hands_646 x1 r7 v93 v94 r95 (1 : Int32) C142) else (
  J_L_hands_646 x1 r7 v93 v94 r95 (0 : Int32) C142))
def J_L_hands_622 (x1 : Int32) (r7 : Int32) (v93 : Int32) (v94 : Int32) (r95 : Int32) (C97 : Mem) (v139 : Int32) : Option (Int32 × Mem) :=
  b2 (F_L_tryAbout (9 : Int32) C97) fun r140 C142 =>
  (if r140 < v93 then (
  J_L_hands_638 x1 r7 v93 v94 r95 v139 C142 (0 : Int32)) else (
  J_L_hands_638 x1 r7 v93 v94 r95 v139 C142 (1 : Int32)))
def J_L_hands_576 (x1 : Int32) (r7 : Int32) (v91 : Int32) (C92 : Mem) : Option (Int32 × Mem) :=
  nm ((x1 / (64 : Int32)) - (x1 / (64 : Int32)) / (100 : Int32) * (100 : Int32)) fun v93 =>
  nm ((x1 / (8192 : Int32)) - (x1 / (8192 : Int32)) / (6 : Int32) * (6 : Int32)) fun v94 =>
  b2 (F_L_tryWarmAfter v93 v94 C92) fun r95 C97 =>
  (if v91 = 0 then (
  J_L_hands_646 x1 r7 v93 v94 r95 (0 : Int32) C97) else (
  (if r95 = 0 then (
  J_L_hands_622 x1 r7 v93 v94 r95 C97 (1 : Int32)) else (
  J_L_hands_622 x1 r7 v93 v94 r95 C97 (0 : Int32)))))
def J_L_hands_371 (x1 : Int32) (r1 : Int32) (r7 : Int32) (v54 : Int32) (C55 : Mem) : Option (Int32 × Mem) :=
  nm ((1 : Int32) + ((x1 / (16 : Int32)) - (x1 / (16 : Int32)) / (80 : Int32) * (80 : Int32))) fun v56 =>
  b2 (F_L_trySmallestSet v56 (1 : Int32) C55) fun r57 C59 =>
  b1 (iter (fun x => S_L_hands_407 r1 r57 x.1 x.2.1 x.2.2.1 x.2.2.2.1 x.2.2.2.2) 6 ((0 : Int32), (0 : Int32), (0 : Int32), C59, (fun _ => 0))) (u5 fun v66 v67 v68 C69 f70 =>
  (if v54 = 0 then (
  J_L_hands_576 x1 r7 (0 : Int32) C69) else (
  (if r57 = (-9 : Int32) then (
  b2 (F_L_trySmallestSet v56 (0 : Int32) C69) fun r161 C163 =>
  (if r161 = (-9 : Int32) then (
  (if v56 = (150 : Int32) then (
  J_L_hands_576 x1 r7 (1 : Int32) C163) else (
  b2 (F_L_trySmallestSet (v56 + (1 : Int32)) (1 : Int32) C163) fun r166 C168 =>
  (if r166 = (-9 : Int32) then (
  J_L_hands_576 x1 r7 (1 : Int32) C168) else (
  J_L_hands_576 x1 r7 (0 : Int32) C168))))) else (
  J_L_hands_576 x1 r7 (0 : Int32) C163))) else (
  b2 (F_L_trySmallestSet v56 (0 : Int32) C69) fun r147 C149 =>
  (if r147 = v66 then (
  (if v66 < v56 then (
  J_L_hands_576 x1 r7 (0 : Int32) C149) else (
  (if v67 ≤ 0 then (
  J_L_hands_576 x1 r7 (0 : Int32) C149) else (
  b2 (F_L_tryFlue (0 : Int32) (0 : Int32) C149) fun r153 C155 =>
  (if r153 < (f70 ((0 : Int32)).toNatClampNeg) then (
  J_L_hands_576 x1 r7 (0 : Int32) C155) else (
  b2 (F_L_tryFlue (1 : Int32) (0 : Int32) C155) fun r157 C159 =>
  (if r157 < (f70 ((1 : Int32)).toNatClampNeg) then (
  J_L_hands_576 x1 r7 (0 : Int32) C159) else (
  J_L_hands_576 x1 r7 (1 : Int32) C159))))))))) else (
  J_L_hands_576 x1 r7 (0 : Int32) C149)))))))
def J_L_hands_349 (x1 : Int32) (r1 : Int32) (r7 : Int32) (C171 : Mem) : Option (Int32 × Mem) :=
  b2 (F_L_sound  C171) fun r172 C174 =>
  (if r172 = 0 then (
  J_L_hands_371 x1 r1 r7 (0 : Int32) C174) else (
  b2 (F_L_tryRestore (0 : Int32) C174) fun r176 C178 =>
  (if r176 = r7 then (
  J_L_hands_371 x1 r1 r7 (1 : Int32) C178) else (
  J_L_hands_371 x1 r1 r7 (0 : Int32) C178))))
def J_L_hands_249 (x1 : Int32) (r1 : Int32) (r7 : Int32) (v46 : Int32) (C47 : Mem) : Option (Int32 × Mem) :=
  gz r1 (
  nm ((x1 / (2 : Int32)) - (x1 / (2 : Int32)) / r1 * r1) fun v49 =>
  b2 (F_L_tryBoiler v49 (2 : Int32) C47) fun r50 C52 =>
  (if v46 = 0 then (
  J_L_hands_371 x1 r1 r7 (0 : Int32) C52) else (
  (if r50 = (4 : Int32) then (
  b2 (F_L_tryUnlock v49 C52) fun r196 C198 =>
  (if r196 < 0 then (
  J_L_hands_371 x1 r1 r7 (0 : Int32) C198) else (
  b2 (F_L_tryBoiler v49 (2 : Int32) C198) fun r200 C202 =>
  (if r200 = 0 then (
  b2 (F_L_tryLock v49 C202) fun r204 C206 =>
  (if r204 = 0 then (
  J_L_hands_349 x1 r1 r7 C206) else (
  J_L_hands_371 x1 r1 r7 (0 : Int32) C206))) else (
  J_L_hands_371 x1 r1 r7 (0 : Int32) C202))))) else (
  b2 (F_L_tryLock v49 C52) fun r180 C182 =>
  (if r180 = r50 then (
  b2 (F_L_tryWhyNot v49 C182) fun r184 C186 =>
  (if r184 = (2 : Int32) then (
  b2 (F_L_tryUnlock v49 C186) fun r188 C190 =>
  (if r188 < 0 then (
  J_L_hands_371 x1 r1 r7 (0 : Int32) C190) else (
  b2 (F_L_tryBoiler v49 (2 : Int32) C190) fun r192 C194 =>
  (if r192 = 0 then (
  J_L_hands_349 x1 r1 r7 C194) else (
  J_L_hands_371 x1 r1 r7 (0 : Int32) C194))))) else (
  J_L_hands_371 x1 r1 r7 (0 : Int32) C186))) else (
  J_L_hands_371 x1 r1 r7 (0 : Int32) C182)))))))
def J_L_hands_112 (x1 : Int32) (r1 : Int32) (r7 : Int32) (v22 : Int32) (C23 : Mem) : Option (Int32 × Mem) :=
  nm (x1 - x1 / (2 : Int32) * (2 : Int32)) fun v24 =>
  b1 (iter (fun x => S_L_hands_125 r1 v24 x.1 x.2.1 x.2.2) 6 ((0 : Int32), (0 : Int32), C23)) (u3 fun v29 v30 C31 =>
  (if v22 = 0 then (
  J_L_hands_249 x1 r1 r7 (0 : Int32) C31) else (
  b2 (F_L_trySetFlue v24 (0 : Int32) C31) fun r208 C210 =>
  (if r208 = v29 then (
  b2 (F_L_tryFlue v24 (1 : Int32) C210) fun r212 C214 =>
  (if r212 = 0 then (
  b2 (F_L_trySetFlue v24 (1 : Int32) C214) fun r216 C218 =>
  (if r216 = 0 then (
  b2 (F_L_tryFlue v24 (2 : Int32) C218) fun r220 C222 =>
  (if r220 = (1 : Int32) then (
  b2 (F_L_sound  C222) fun r224 C226 =>
  (if r224 = 0 then (
  J_L_hands_249 x1 r1 r7 (0 : Int32) C226) else (
  b2 (F_L_tryRestore (0 : Int32) C226) fun r228 C230 =>
  (if r228 = r7 then (
  J_L_hands_249 x1 r1 r7 (1 : Int32) C230) else (
  J_L_hands_249 x1 r1 r7 (0 : Int32) C230))))) else (
  J_L_hands_249 x1 r1 r7 (0 : Int32) C222))) else (
  J_L_hands_249 x1 r1 r7 (0 : Int32) C218))) else (
  J_L_hands_249 x1 r1 r7 (0 : Int32) C214))) else (
  J_L_hands_249 x1 r1 r7 (0 : Int32) C210)))))
def J_L_hands_37 (x1 : Int32) (r1 : Int32) (r4 : Int32) (r7 : Int32) (C12 : Mem) (v14 : Int32) : Option (Int32 × Mem) :=
  b2 (F_L_tryLayer (r4 - (1 : Int32)) C12) fun r15 C17 =>
  b2 (F_L_tryLayer (0 : Int32) C17) fun r18 C20 =>
  (if v14 = 0 then (
  J_L_hands_112 x1 r1 r7 (0 : Int32) C20) else (
  b2 (F_L_tryDraw (1 : Int32) C20) fun r232 C234 =>
  (if r232 = r15 then (
  b2 (F_L_tryLayer (0 : Int32) C234) fun r236 C238 =>
  (if r236 = (10 : Int32) then (
  b2 (F_L_tryLayer (1 : Int32) C238) fun r240 C242 =>
  (if r240 = r18 then (
  b2 (F_L_tryUndo  C242) fun r244 C246 =>
  (if r244 < 0 then (
  J_L_hands_112 x1 r1 r7 (0 : Int32) C246) else (
  b2 (F_L_tryLayer (0 : Int32) C246) fun r248 C250 =>
  (if r248 = r18 then (
  J_L_hands_112 x1 r1 r7 (1 : Int32) C250) else (
  J_L_hands_112 x1 r1 r7 (0 : Int32) C250))))) else (
  J_L_hands_112 x1 r1 r7 (0 : Int32) C242))) else (
  J_L_hands_112 x1 r1 r7 (0 : Int32) C238))) else (
  J_L_hands_112 x1 r1 r7 (0 : Int32) C234))))
def F_L_hands (x1 : Int32) (C : Mem) : Option (Int32 × Mem) :=
  b2 (F_L_tryAbout (6 : Int32) C) fun r1 C3 =>
  b2 (F_L_tryAbout (7 : Int32) C3) fun r4 C6 =>
  b2 (F_L_tryAbout (8 : Int32) C6) fun r7 C9 =>
  b2 (F_L_trySave (0 : Int32) C9) fun r10 C12 =>
  (if r10 = r7 then (
  J_L_hands_37 x1 r1 r4 r7 C12 (1 : Int32)) else (
  J_L_hands_37 x1 r1 r4 r7 C12 (0 : Int32)))
def S_L_ticks_206 (r1 : Int32) (v77 : Int32) (C78 : Mem) (f80 : Nat → Int32) : Option ((Int32 × Mem × (Nat → Int32)) ⊕ (Int32 × Mem × (Nat → Int32))) :=
  (if r1 ≤ v77 then (
  some (Sum.inr (v77, C78, f80))) else (
  b2 (F_L_tryBoiler v77 (2 : Int32) C78) fun r85 C87 =>
  gi ((4 : Int32) * v77) 20 (
  nm (up f80 (((4 : Int32) * v77)).toNatClampNeg r85) fun f89 =>
  b2 (F_L_tryBoiler v77 (5 : Int32) C87) fun r90 C92 =>
  gi (((4 : Int32) * v77) + (1 : Int32)) 20 (
  nm (up f89 ((((4 : Int32) * v77) + (1 : Int32))).toNatClampNeg r90) fun f94 =>
  b2 (F_L_tryBoiler v77 (4 : Int32) C92) fun r95 C97 =>
  gi (((4 : Int32) * v77) + (2 : Int32)) 20 (
  nm (up f94 ((((4 : Int32) * v77) + (2 : Int32))).toNatClampNeg r95) fun f99 =>
  b2 (F_L_tryBoiler v77 (6 : Int32) C97) fun r100 C102 =>
  gi (((4 : Int32) * v77) + (3 : Int32)) 20 (
  nm (up f99 ((((4 : Int32) * v77) + (3 : Int32))).toNatClampNeg r100) fun f104 =>
  nm (v77 + (1 : Int32)) fun v105 =>
  some (Sum.inl (v105, C102, f104))))))))
def J_L_ticks_607 (f83 : Nat → Int32) (v116 : Int32) (v133 : Int32) (r140 : Int32) (v145 : Int32) (v149 : Int32) (v153 : Int32) (v156 : Int32) (r164 : Int32) (v169 : Int32) (C170 : Mem) : Option ((Int32 × Int32 × Int32 × Int32 × Int32 × Int32 × Mem) ⊕ (Int32 × Int32 × Int32 × Int32 × Int32 × Int32 × Mem)) :=
  (if (r164 - (f83 ((((4 : Int32) * v116) + (3 : Int32))).toNatClampNeg)) = v169 then (
  (if v133 = 0 then (
  gi ((4 : Int32) * v116) 20 (
  (if (f83 (((4 : Int32) * v116)).toNatClampNeg) = (4 : Int32) then (
  (if r140 = (4 : Int32) then (
  gi ((4 : Int32) * v116) 20 (
  (if (f83 (((4 : Int32) * v116)).toNatClampNeg) = (3 : Int32) then (
  (if v133 = 0 then (
  (if r140 = (3 : Int32) then (
  nm (v116 + (1 : Int32)) fun v193 =>
  some (Sum.inl (v156, (1 : Int32), v145, v149, v153, v193, C170))) else (
  nm (v116 + (1 : Int32)) fun v192 =>
  some (Sum.inl (v156, (0 : Int32), v145, v149, v153, v192, C170))))) else (
  nm (v116 + (1 : Int32)) fun v190 =>
  some (Sum.inl (v156, (1 : Int32), v145, v149, v153, v190, C170))))) else (
  nm (v116 + (1 : Int32)) fun v188 =>
  some (Sum.inl (v156, (1 : Int32), v145, v149, v153, v188, C170)))))) else (
  nm (v116 + (1 : Int32)) fun v185 =>
  some (Sum.inl (v156, (0 : Int32), v145, v149, v153, v185, C170))))) else (
  gi ((4 : Int32) * v116) 20 (
  (if (f83 (((4 : Int32) * v116)).toNatClampNeg) = (3 : Int32) then (
  (if v133 = 0 then (
  (if r140 = (3 : Int32) then (
  nm (v116 + (1 : Int32)) fun v183 =>
  some (Sum.inl (v156, (1 : Int32), v145, v149, v153, v183, C170))) else (
  nm (v116 + (1 : Int32)) fun v182 =>
  some (Sum.inl (v156, (0 : Int32), v145, v149, v153, v182, C170))))) else (
  nm (v116 + (1 : Int32)) fun v180 =>
  some (Sum.inl (v156, (1 : Int32), v145, v149, v153, v180, C170))))) else (
  nm (v116 + (1 : Int32)) fun v178 =>
  some (Sum.inl (v156, (1 : Int32), v145, v149, v153, v178, C170))))))))) else (
  gi ((4 : Int32) * v116) 20 (
  (if (f83 (((4 : Int32) * v116)).toNatClampNeg) = 0 then (
  gi ((4 : Int32) * v116) 20 (
  (if (f83 (((4 : Int32) * v116)).toNatClampNeg) = (4 : Int32) then (
  (if r140 = (4 : Int32) then (
  gi ((4 : Int32) * v116) 20 (
  (if (f83 (((4 : Int32) * v116)).toNatClampNeg) = (3 : Int32) then (
  (if v133 = 0 then (
  (if r140 = (3 : Int32) then (
  nm (v116 + (1 : Int32)) fun v215 =>
  some (Sum.inl (v156, (1 : Int32), v145, v149, v153, v215, C170))) else (
  nm (v116 + (1 : Int32)) fun v214 =>
  some (Sum.inl (v156, (0 : Int32), v145, v149, v153, v214, C170))))) else (
  nm (v116 + (1 : Int32)) fun v212 =>
  some (Sum.inl (v156, (1 : Int32), v145, v149, v153, v212, C170))))) else (
  nm (v116 + (1 : Int32)) fun v210 =>
  some (Sum.inl (v156, (1 : Int32), v145, v149, v153, v210, C170)))))) else (
  nm (v116 + (1 : Int32)) fun v207 =>
  some (Sum.inl (v156, (0 : Int32), v145, v149, v153, v207, C170))))) else (
  gi ((4 : Int32) * v116) 20 (
  (if (f83 (((4 : Int32) * v116)).toNatClampNeg) = (3 : Int32) then (
  (if v133 = 0 then (
  (if r140 = (3 : Int32) then (
  nm (v116 + (1 : Int32)) fun v205 =>
  some (Sum.inl (v156, (1 : Int32), v145, v149, v153, v205, C170))) else (
  nm (v116 + (1 : Int32)) fun v204 =>
  some (Sum.inl (v156, (0 : Int32), v145, v149, v153, v204, C170))))) else (
  nm (v116 + (1 : Int32)) fun v202 =>
  some (Sum.inl (v156, (1 : Int32), v145, v149, v153, v202, C170))))) else (
  nm (v116 + (1 : Int32)) fun v200 =>
  some (Sum.inl (v156, (1 : Int32), v145, v149, v153, v200, C170))))))))) else (
  gi ((4 : Int32) * v116) 20 (
  (if (f83 (((4 : Int32) * v116)).toNatClampNeg) = (3 : Int32) then (
  gi ((4 : Int32) * v116) 20 (
  (if (f83 (((4 : Int32) * v116)).toNatClampNeg) = (4 : Int32) then (
  (if r140 = (4 : Int32) then (
  gi ((4 : Int32) * v116) 20 (
  (if (f83 (((4 : Int32) * v116)).toNatClampNeg) = (3 : Int32) then (
  (if v133 = 0 then (
  (if r140 = (3 : Int32) then (
  nm (v116 + (1 : Int32)) fun v238 =>
  some (Sum.inl (v156, (1 : Int32), v145, v149, v153, v238, C170))) else (
  nm (v116 + (1 : Int32)) fun v237 =>
  some (Sum.inl (v156, (0 : Int32), v145, v149, v153, v237, C170))))) else (
  nm (v116 + (1 : Int32)) fun v235 =>
  some (Sum.inl (v156, (1 : Int32), v145, v149, v153, v235, C170))))) else (
  nm (v116 + (1 : Int32)) fun v233 =>
  some (Sum.inl (v156, (1 : Int32), v145, v149, v153, v233, C170)))))) else (
  nm (v116 + (1 : Int32)) fun v230 =>
  some (Sum.inl (v156, (0 : Int32), v145, v149, v153, v230, C170))))) else (
  gi ((4 : Int32) * v116) 20 (
  (if (f83 (((4 : Int32) * v116)).toNatClampNeg) = (3 : Int32) then (
  (if v133 = 0 then (
  (if r140 = (3 : Int32) then (
  nm (v116 + (1 : Int32)) fun v228 =>
  some (Sum.inl (v156, (1 : Int32), v145, v149, v153, v228, C170))) else (
  nm (v116 + (1 : Int32)) fun v227 =>
  some (Sum.inl (v156, (0 : Int32), v145, v149, v153, v227, C170))))) else (
  nm (v116 + (1 : Int32)) fun v225 =>
  some (Sum.inl (v156, (1 : Int32), v145, v149, v153, v225, C170))))) else (
  nm (v116 + (1 : Int32)) fun v223 =>
  some (Sum.inl (v156, (1 : Int32), v145, v149, v153, v223, C170))))))))) else (
  nm (v116 + (1 : Int32)) fun v218 =>
  some (Sum.inl (v156, (0 : Int32), v145, v149, v153, v218, C170))))))))))) else (
  nm (v116 + (1 : Int32)) fun v172 =>
  some (Sum.inl (v156, (0 : Int32), v145, v149, v153, v172, C170))))
def J_L_ticks_560 (f83 : Nat → Int32) (v116 : Int32) (v133 : Int32) (v139 : Int32) (r140 : Int32) (v145 : Int32) (v149 : Int32) (C152 : Mem) (v153 : Int32) (v156 : Int32) (v161 : Int32) : Option ((Int32 × Int32 × Int32 × Int32 × Int32 × Int32 × Mem) ⊕ (Int32 × Int32 × Int32 × Int32 × Int32 × Int32 × Mem)) :=
  (if v139 = v161 then (
  b2 (F_L_tryBoiler v116 (6 : Int32) C152) fun r164 C166 =>
  gi (((4 : Int32) * v116) + (3 : Int32)) 20 (
  (if v139 = 0 then (
  (if r140 = (3 : Int32) then (
  J_L_ticks_607 f83 v116 v133 r140 v145 v149 v153 v156 r164 (1 : Int32) C166) else (
  J_L_ticks_607 f83 v116 v133 r140 v145 v149 v153 v156 r164 (0 : Int32) C166))) else (
  b2 (F_L_tryBoiler v116 (0 : Int32) C166) fun r240 C242 =>
  J_L_ticks_607 f83 v116 v133 r140 v145 v149 v153 v156 r164 r240 C242)))) else (
  nm (v116 + (1 : Int32)) fun v163 =>
  some (Sum.inl (v156, (0 : Int32), v145, v149, v153, v163, C152))))
def J_L_ticks_607_2 (f83 : Nat → Int32) (v116 : Int32) (v133 : Int32) (r140 : Int32) (v145 : Int32) (v149 : Int32) (v153 : Int32) (v156 : Int32) (r261 : Int32) (v266 : Int32) (C267 : Mem) : Option ((Int32 × Int32 × Int32 × Int32 × Int32 × Int32 × Mem) ⊕ (Int32 × Int32 × Int32 × Int32 × Int32 × Int32 × Mem)) :=
  (if (r261 - (f83 ((((4 : Int32) * v116) + (3 : Int32))).toNatClampNeg)) = v266 then (
  (if v133 = 0 then (
  gi ((4 : Int32) * v116) 20 (
  (if (f83 (((4 : Int32) * v116)).toNatClampNeg) = (4 : Int32) then (
  (if r140 = (4 : Int32) then (
  gi ((4 : Int32) * v116) 20 (
  (if (f83 (((4 : Int32) * v116)).toNatClampNeg) = (3 : Int32) then (
  (if v133 = 0 then (
  (if r140 = (3 : Int32) then (
  nm (v116 + (1 : Int32)) fun v290 =>
  some (Sum.inl (v156, (1 : Int32), v145, v149, v153, v290, C267))) else (
  nm (v116 + (1 : Int32)) fun v289 =>
  some (Sum.inl (v156, (0 : Int32), v145, v149, v153, v289, C267))))) else (
  nm (v116 + (1 : Int32)) fun v287 =>
  some (Sum.inl (v156, (1 : Int32), v145, v149, v153, v287, C267))))) else (
  nm (v116 + (1 : Int32)) fun v285 =>
  some (Sum.inl (v156, (1 : Int32), v145, v149, v153, v285, C267)))))) else (
  nm (v116 + (1 : Int32)) fun v282 =>
  some (Sum.inl (v156, (0 : Int32), v145, v149, v153, v282, C267))))) else (
  gi ((4 : Int32) * v116) 20 (
  (if (f83 (((4 : Int32) * v116)).toNatClampNeg) = (3 : Int32) then (
  (if v133 = 0 then (
  (if r140 = (3 : Int32) then (
  nm (v116 + (1 : Int32)) fun v280 =>
  some (Sum.inl (v156, (1 : Int32), v145, v149, v153, v280, C267))) else (
  nm (v116 + (1 : Int32)) fun v279 =>
  some (Sum.inl (v156, (0 : Int32), v145, v149, v153, v279, C267))))) else (
  nm (v116 + (1 : Int32)) fun v277 =>
  some (Sum.inl (v156, (1 : Int32), v145, v149, v153, v277, C267))))) else (
  nm (v116 + (1 : Int32)) fun v275 =>
  some (Sum.inl (v156, (1 : Int32), v145, v149, v153, v275, C267))))))))) else (
  gi ((4 : Int32) * v116) 20 (
  (if (f83 (((4 : Int32) * v116)).toNatClampNeg) = 0 then (
  gi ((4 : Int32) * v116) 20 (
  (if (f83 (((4 : Int32) * v116)).toNatClampNeg) = (4 : Int32) then (
  (if r140 = (4 : Int32) then (
  gi ((4 : Int32) * v116) 20 (
  (if (f83 (((4 : Int32) * v116)).toNatClampNeg) = (3 : Int32) then (
  (if v133 = 0 then (
  (if r140 = (3 : Int32) then (
  nm (v116 + (1 : Int32)) fun v312 =>
  some (Sum.inl (v156, (1 : Int32), v145, v149, v153, v312, C267))) else (
  nm (v116 + (1 : Int32)) fun v311 =>
  some (Sum.inl (v156, (0 : Int32), v145, v149, v153, v311, C267))))) else (
  nm (v116 + (1 : Int32)) fun v309 =>
  some (Sum.inl (v156, (1 : Int32), v145, v149, v153, v309, C267))))) else (
  nm (v116 + (1 : Int32)) fun v307 =>
  some (Sum.inl (v156, (1 : Int32), v145, v149, v153, v307, C267)))))) else (
  nm (v116 + (1 : Int32)) fun v304 =>
  some (Sum.inl (v156, (0 : Int32), v145, v149, v153, v304, C267))))) else (
  gi ((4 : Int32) * v116) 20 (
  (if (f83 (((4 : Int32) * v116)).toNatClampNeg) = (3 : Int32) then (
  (if v133 = 0 then (
  (if r140 = (3 : Int32) then (
  nm (v116 + (1 : Int32)) fun v302 =>
  some (Sum.inl (v156, (1 : Int32), v145, v149, v153, v302, C267))) else (
  nm (v116 + (1 : Int32)) fun v301 =>
  some (Sum.inl (v156, (0 : Int32), v145, v149, v153, v301, C267))))) else (
  nm (v116 + (1 : Int32)) fun v299 =>
  some (Sum.inl (v156, (1 : Int32), v145, v149, v153, v299, C267))))) else (
  nm (v116 + (1 : Int32)) fun v297 =>
  some (Sum.inl (v156, (1 : Int32), v145, v149, v153, v297, C267))))))))) else (
  gi ((4 : Int32) * v116) 20 (
  (if (f83 (((4 : Int32) * v116)).toNatClampNeg) = (3 : Int32) then (
  gi ((4 : Int32) * v116) 20 (
  (if (f83 (((4 : Int32) * v116)).toNatClampNeg) = (4 : Int32) then (
  (if r140 = (4 : Int32) then (
  gi ((4 : Int32) * v116) 20 (
  (if (f83 (((4 : Int32) * v116)).toNatClampNeg) = (3 : Int32) then (
  (if v133 = 0 then (
  (if r140 = (3 : Int32) then (
  nm (v116 + (1 : Int32)) fun v335 =>
  some (Sum.inl (v156, (1 : Int32), v145, v149, v153, v335, C267))) else (
  nm (v116 + (1 : Int32)) fun v334 =>
  some (Sum.inl (v156, (0 : Int32), v145, v149, v153, v334, C267))))) else (
  nm (v116 + (1 : Int32)) fun v332 =>
  some (Sum.inl (v156, (1 : Int32), v145, v149, v153, v332, C267))))) else (
  nm (v116 + (1 : Int32)) fun v330 =>
  some (Sum.inl (v156, (1 : Int32), v145, v149, v153, v330, C267)))))) else (
  nm (v116 + (1 : Int32)) fun v327 =>
  some (Sum.inl (v156, (0 : Int32), v145, v149, v153, v327, C267))))) else (
  gi ((4 : Int32) * v116) 20 (
  (if (f83 (((4 : Int32) * v116)).toNatClampNeg) = (3 : Int32) then (
  (if v133 = 0 then (
  (if r140 = (3 : Int32) then (
  nm (v116 + (1 : Int32)) fun v325 =>
  some (Sum.inl (v156, (1 : Int32), v145, v149, v153, v325, C267))) else (
  nm (v116 + (1 : Int32)) fun v324 =>
  some (Sum.inl (v156, (0 : Int32), v145, v149, v153, v324, C267))))) else (
  nm (v116 + (1 : Int32)) fun v322 =>
  some (Sum.inl (v156, (1 : Int32), v145, v149, v153, v322, C267))))) else (
  nm (v116 + (1 : Int32)) fun v320 =>
  some (Sum.inl (v156, (1 : Int32), v145, v149, v153, v320, C267))))))))) else (
  nm (v116 + (1 : Int32)) fun v315 =>
  some (Sum.inl (v156, (0 : Int32), v145, v149, v153, v315, C267))))))))))) else (
  nm (v116 + (1 : Int32)) fun v269 =>
  some (Sum.inl (v156, (0 : Int32), v145, v149, v153, v269, C267))))
def J_L_ticks_560_2 (f83 : Nat → Int32) (v116 : Int32) (v133 : Int32) (v139 : Int32) (r140 : Int32) (v145 : Int32) (v149 : Int32) (v153 : Int32) (v156 : Int32) (C252 : Mem) (v258 : Int32) : Option ((Int32 × Int32 × Int32 × Int32 × Int32 × Int32 × Mem) ⊕ (Int32 × Int32 × Int32 × Int32 × Int32 × Int32 × Mem)) :=
  (if v139 = v258 then (
  b2 (F_L_tryBoiler v116 (6 : Int32) C252) fun r261 C263 =>
  gi (((4 : Int32) * v116) + (3 : Int32)) 20 (
  (if v139 = 0 then (
  (if r140 = (3 : Int32) then (
  J_L_ticks_607_2 f83 v116 v133 r140 v145 v149 v153 v156 r261 (1 : Int32) C263) else (
  J_L_ticks_607_2 f83 v116 v133 r140 v145 v149 v153 v156 r261 (0 : Int32) C263))) else (
  b2 (F_L_tryBoiler v116 (0 : Int32) C263) fun r337 C339 =>
  J_L_ticks_607_2 f83 v116 v133 r140 v145 v149 v153 v156 r261 r337 C339)))) else (
  nm (v116 + (1 : Int32)) fun v260 =>
  some (Sum.inl (v156, (0 : Int32), v145, v149, v153, v260, C252))))
def J_L_ticks_607_3 (f83 : Nat → Int32) (v116 : Int32) (v133 : Int32) (r140 : Int32) (v145 : Int32) (v149 : Int32) (v153 : Int32) (v156 : Int32) (r359 : Int32) (v364 : Int32) (C365 : Mem) : Option ((Int32 × Int32 × Int32 × Int32 × Int32 × Int32 × Mem) ⊕ (Int32 × Int32 × Int32 × Int32 × Int32 × Int32 × Mem)) :=
  (if (r359 - (f83 ((((4 : Int32) * v116) + (3 : Int32))).toNatClampNeg)) = v364 then (
  (if v133 = 0 then (
  gi ((4 : Int32) * v116) 20 (
  (if (f83 (((4 : Int32) * v116)).toNatClampNeg) = (4 : Int32) then (
  (if r140 = (4 : Int32) then (
  gi ((4 : Int32) * v116) 20 (
  (if (f83 (((4 : Int32) * v116)).toNatClampNeg) = (3 : Int32) then (
  (if v133 = 0 then (
  (if r140 = (3 : Int32) then (
  nm (v116 + (1 : Int32)) fun v388 =>
  some (Sum.inl (v156, (1 : Int32), v145, v149, v153, v388, C365))) else (
  nm (v116 + (1 : Int32)) fun v387 =>
  some (Sum.inl (v156, (0 : Int32), v145, v149, v153, v387, C365))))) else (
  nm (v116 + (1 : Int32)) fun v385 =>
  some (Sum.inl (v156, (1 : Int32), v145, v149, v153, v385, C365))))) else (
  nm (v116 + (1 : Int32)) fun v383 =>
  some (Sum.inl (v156, (1 : Int32), v145, v149, v153, v383, C365)))))) else (
  nm (v116 + (1 : Int32)) fun v380 =>
  some (Sum.inl (v156, (0 : Int32), v145, v149, v153, v380, C365))))) else (
  gi ((4 : Int32) * v116) 20 (
  (if (f83 (((4 : Int32) * v116)).toNatClampNeg) = (3 : Int32) then (
  (if v133 = 0 then (
  (if r140 = (3 : Int32) then (
  nm (v116 + (1 : Int32)) fun v378 =>
  some (Sum.inl (v156, (1 : Int32), v145, v149, v153, v378, C365))) else (
  nm (v116 + (1 : Int32)) fun v377 =>
  some (Sum.inl (v156, (0 : Int32), v145, v149, v153, v377, C365))))) else (
  nm (v116 + (1 : Int32)) fun v375 =>
  some (Sum.inl (v156, (1 : Int32), v145, v149, v153, v375, C365))))) else (
  nm (v116 + (1 : Int32)) fun v373 =>
  some (Sum.inl (v156, (1 : Int32), v145, v149, v153, v373, C365))))))))) else (
  gi ((4 : Int32) * v116) 20 (
  (if (f83 (((4 : Int32) * v116)).toNatClampNeg) = 0 then (
  gi ((4 : Int32) * v116) 20 (
  (if (f83 (((4 : Int32) * v116)).toNatClampNeg) = (4 : Int32) then (
  (if r140 = (4 : Int32) then (
  gi ((4 : Int32) * v116) 20 (
  (if (f83 (((4 : Int32) * v116)).toNatClampNeg) = (3 : Int32) then (
  (if v133 = 0 then (
  (if r140 = (3 : Int32) then (
  nm (v116 + (1 : Int32)) fun v410 =>
  some (Sum.inl (v156, (1 : Int32), v145, v149, v153, v410, C365))) else (
  nm (v116 + (1 : Int32)) fun v409 =>
  some (Sum.inl (v156, (0 : Int32), v145, v149, v153, v409, C365))))) else (
  nm (v116 + (1 : Int32)) fun v407 =>
  some (Sum.inl (v156, (1 : Int32), v145, v149, v153, v407, C365))))) else (
  nm (v116 + (1 : Int32)) fun v405 =>
  some (Sum.inl (v156, (1 : Int32), v145, v149, v153, v405, C365)))))) else (
  nm (v116 + (1 : Int32)) fun v402 =>
  some (Sum.inl (v156, (0 : Int32), v145, v149, v153, v402, C365))))) else (
  gi ((4 : Int32) * v116) 20 (
  (if (f83 (((4 : Int32) * v116)).toNatClampNeg) = (3 : Int32) then (
  (if v133 = 0 then (
  (if r140 = (3 : Int32) then (
  nm (v116 + (1 : Int32)) fun v400 =>
  some (Sum.inl (v156, (1 : Int32), v145, v149, v153, v400, C365))) else (
  nm (v116 + (1 : Int32)) fun v399 =>
  some (Sum.inl (v156, (0 : Int32), v145, v149, v153, v399, C365))))) else (
  nm (v116 + (1 : Int32)) fun v397 =>
  some (Sum.inl (v156, (1 : Int32), v145, v149, v153, v397, C365))))) else (
  nm (v116 + (1 : Int32)) fun v395 =>
  some (Sum.inl (v156, (1 : Int32), v145, v149, v153, v395, C365))))))))) else (
  gi ((4 : Int32) * v116) 20 (
  (if (f83 (((4 : Int32) * v116)).toNatClampNeg) = (3 : Int32) then (
  gi ((4 : Int32) * v116) 20 (
  (if (f83 (((4 : Int32) * v116)).toNatClampNeg) = (4 : Int32) then (
  (if r140 = (4 : Int32) then (
  gi ((4 : Int32) * v116) 20 (
  (if (f83 (((4 : Int32) * v116)).toNatClampNeg) = (3 : Int32) then (
  (if v133 = 0 then (
  (if r140 = (3 : Int32) then (
  nm (v116 + (1 : Int32)) fun v433 =>
  some (Sum.inl (v156, (1 : Int32), v145, v149, v153, v433, C365))) else (
  nm (v116 + (1 : Int32)) fun v432 =>
  some (Sum.inl (v156, (0 : Int32), v145, v149, v153, v432, C365))))) else (
  nm (v116 + (1 : Int32)) fun v430 =>
  some (Sum.inl (v156, (1 : Int32), v145, v149, v153, v430, C365))))) else (
  nm (v116 + (1 : Int32)) fun v428 =>
  some (Sum.inl (v156, (1 : Int32), v145, v149, v153, v428, C365)))))) else (
  nm (v116 + (1 : Int32)) fun v425 =>
  some (Sum.inl (v156, (0 : Int32), v145, v149, v153, v425, C365))))) else (
  gi ((4 : Int32) * v116) 20 (
  (if (f83 (((4 : Int32) * v116)).toNatClampNeg) = (3 : Int32) then (
  (if v133 = 0 then (
  (if r140 = (3 : Int32) then (
  nm (v116 + (1 : Int32)) fun v423 =>
  some (Sum.inl (v156, (1 : Int32), v145, v149, v153, v423, C365))) else (
  nm (v116 + (1 : Int32)) fun v422 =>
  some (Sum.inl (v156, (0 : Int32), v145, v149, v153, v422, C365))))) else (
  nm (v116 + (1 : Int32)) fun v420 =>
  some (Sum.inl (v156, (1 : Int32), v145, v149, v153, v420, C365))))) else (
  nm (v116 + (1 : Int32)) fun v418 =>
  some (Sum.inl (v156, (1 : Int32), v145, v149, v153, v418, C365))))))))) else (
  nm (v116 + (1 : Int32)) fun v413 =>
  some (Sum.inl (v156, (0 : Int32), v145, v149, v153, v413, C365))))))))))) else (
  nm (v116 + (1 : Int32)) fun v367 =>
  some (Sum.inl (v156, (0 : Int32), v145, v149, v153, v367, C365))))
def J_L_ticks_560_3 (f83 : Nat → Int32) (v116 : Int32) (v133 : Int32) (v139 : Int32) (r140 : Int32) (v145 : Int32) (v149 : Int32) (v153 : Int32) (v156 : Int32) (C349 : Mem) (v356 : Int32) : Option ((Int32 × Int32 × Int32 × Int32 × Int32 × Int32 × Mem) ⊕ (Int32 × Int32 × Int32 × Int32 × Int32 × Int32 × Mem)) :=
  (if v139 = v356 then (
  b2 (F_L_tryBoiler v116 (6 : Int32) C349) fun r359 C361 =>
  gi (((4 : Int32) * v116) + (3 : Int32)) 20 (
  (if v139 = 0 then (
  (if r140 = (3 : Int32) then (
  J_L_ticks_607_3 f83 v116 v133 r140 v145 v149 v153 v156 r359 (1 : Int32) C361) else (
  J_L_ticks_607_3 f83 v116 v133 r140 v145 v149 v153 v156 r359 (0 : Int32) C361))) else (
  b2 (F_L_tryBoiler v116 (0 : Int32) C361) fun r435 C437 =>
  J_L_ticks_607_3 f83 v116 v133 r140 v145 v149 v153 v156 r359 r435 C437)))) else (
  nm (v116 + (1 : Int32)) fun v358 =>
  some (Sum.inl (v156, (0 : Int32), v145, v149, v153, v358, C349))))
def J_L_ticks_607_4 (f83 : Nat → Int32) (v116 : Int32) (v133 : Int32) (r140 : Int32) (v145 : Int32) (v149 : Int32) (v153 : Int32) (v156 : Int32) (r456 : Int32) (v461 : Int32) (C462 : Mem) : Option ((Int32 × Int32 × Int32 × Int32 × Int32 × Int32 × Mem) ⊕ (Int32 × Int32 × Int32 × Int32 × Int32 × Int32 × Mem)) :=
  (if (r456 - (f83 ((((4 : Int32) * v116) + (3 : Int32))).toNatClampNeg)) = v461 then (
  (if v133 = 0 then (
  gi ((4 : Int32) * v116) 20 (
  (if (f83 (((4 : Int32) * v116)).toNatClampNeg) = (4 : Int32) then (
  (if r140 = (4 : Int32) then (
  gi ((4 : Int32) * v116) 20 (
  (if (f83 (((4 : Int32) * v116)).toNatClampNeg) = (3 : Int32) then (
  (if v133 = 0 then (
  (if r140 = (3 : Int32) then (
  nm (v116 + (1 : Int32)) fun v485 =>
  some (Sum.inl (v156, (1 : Int32), v145, v149, v153, v485, C462))) else (
  nm (v116 + (1 : Int32)) fun v484 =>
  some (Sum.inl (v156, (0 : Int32), v145, v149, v153, v484, C462))))) else (
  nm (v116 + (1 : Int32)) fun v482 =>
  some (Sum.inl (v156, (1 : Int32), v145, v149, v153, v482, C462))))) else (
  nm (v116 + (1 : Int32)) fun v480 =>
  some (Sum.inl (v156, (1 : Int32), v145, v149, v153, v480, C462)))))) else (
  nm (v116 + (1 : Int32)) fun v477 =>
  some (Sum.inl (v156, (0 : Int32), v145, v149, v153, v477, C462))))) else (
  gi ((4 : Int32) * v116) 20 (
  (if (f83 (((4 : Int32) * v116)).toNatClampNeg) = (3 : Int32) then (
  (if v133 = 0 then (
  (if r140 = (3 : Int32) then (
  nm (v116 + (1 : Int32)) fun v475 =>
  some (Sum.inl (v156, (1 : Int32), v145, v149, v153, v475, C462))) else (
  nm (v116 + (1 : Int32)) fun v474 =>
  some (Sum.inl (v156, (0 : Int32), v145, v149, v153, v474, C462))))) else (
  nm (v116 + (1 : Int32)) fun v472 =>
  some (Sum.inl (v156, (1 : Int32), v145, v149, v153, v472, C462))))) else (
  nm (v116 + (1 : Int32)) fun v470 =>
  some (Sum.inl (v156, (1 : Int32), v145, v149, v153, v470, C462))))))))) else (
  gi ((4 : Int32) * v116) 20 (
  (if (f83 (((4 : Int32) * v116)).toNatClampNeg) = 0 then (
  gi ((4 : Int32) * v116) 20 (
  (if (f83 (((4 : Int32) * v116)).toNatClampNeg) = (4 : Int32) then (
  (if r140 = (4 : Int32) then (
  gi ((4 : Int32) * v116) 20 (
  (if (f83 (((4 : Int32) * v116)).toNatClampNeg) = (3 : Int32) then (
  (if v133 = 0 then (
  (if r140 = (3 : Int32) then (
  nm (v116 + (1 : Int32)) fun v507 =>
  some (Sum.inl (v156, (1 : Int32), v145, v149, v153, v507, C462))) else (
  nm (v116 + (1 : Int32)) fun v506 =>
  some (Sum.inl (v156, (0 : Int32), v145, v149, v153, v506, C462))))) else (
  nm (v116 + (1 : Int32)) fun v504 =>
  some (Sum.inl (v156, (1 : Int32), v145, v149, v153, v504, C462))))) else (
  nm (v116 + (1 : Int32)) fun v502 =>
  some (Sum.inl (v156, (1 : Int32), v145, v149, v153, v502, C462)))))) else (
  nm (v116 + (1 : Int32)) fun v499 =>
  some (Sum.inl (v156, (0 : Int32), v145, v149, v153, v499, C462))))) else (
  gi ((4 : Int32) * v116) 20 (
  (if (f83 (((4 : Int32) * v116)).toNatClampNeg) = (3 : Int32) then (
  (if v133 = 0 then (
  (if r140 = (3 : Int32) then (
  nm (v116 + (1 : Int32)) fun v497 =>
  some (Sum.inl (v156, (1 : Int32), v145, v149, v153, v497, C462))) else (
  nm (v116 + (1 : Int32)) fun v496 =>
  some (Sum.inl (v156, (0 : Int32), v145, v149, v153, v496, C462))))) else (
  nm (v116 + (1 : Int32)) fun v494 =>
  some (Sum.inl (v156, (1 : Int32), v145, v149, v153, v494, C462))))) else (
  nm (v116 + (1 : Int32)) fun v492 =>
  some (Sum.inl (v156, (1 : Int32), v145, v149, v153, v492, C462))))))))) else (
  gi ((4 : Int32) * v116) 20 (
  (if (f83 (((4 : Int32) * v116)).toNatClampNeg) = (3 : Int32) then (
  gi ((4 : Int32) * v116) 20 (
  (if (f83 (((4 : Int32) * v116)).toNatClampNeg) = (4 : Int32) then (
  (if r140 = (4 : Int32) then (
  gi ((4 : Int32) * v116) 20 (
  (if (f83 (((4 : Int32) * v116)).toNatClampNeg) = (3 : Int32) then (
  (if v133 = 0 then (
  (if r140 = (3 : Int32) then (
  nm (v116 + (1 : Int32)) fun v530 =>
  some (Sum.inl (v156, (1 : Int32), v145, v149, v153, v530, C462))) else (
  nm (v116 + (1 : Int32)) fun v529 =>
  some (Sum.inl (v156, (0 : Int32), v145, v149, v153, v529, C462))))) else (
  nm (v116 + (1 : Int32)) fun v527 =>
  some (Sum.inl (v156, (1 : Int32), v145, v149, v153, v527, C462))))) else (
  nm (v116 + (1 : Int32)) fun v525 =>
  some (Sum.inl (v156, (1 : Int32), v145, v149, v153, v525, C462)))))) else (
  nm (v116 + (1 : Int32)) fun v522 =>
  some (Sum.inl (v156, (0 : Int32), v145, v149, v153, v522, C462))))) else (
  gi ((4 : Int32) * v116) 20 (
  (if (f83 (((4 : Int32) * v116)).toNatClampNeg) = (3 : Int32) then (
  (if v133 = 0 then (
  (if r140 = (3 : Int32) then (
  nm (v116 + (1 : Int32)) fun v520 =>
  some (Sum.inl (v156, (1 : Int32), v145, v149, v153, v520, C462))) else (
  nm (v116 + (1 : Int32)) fun v519 =>
  some (Sum.inl (v156, (0 : Int32), v145, v149, v153, v519, C462))))) else (
  nm (v116 + (1 : Int32)) fun v517 =>
  some (Sum.inl (v156, (1 : Int32), v145, v149, v153, v517, C462))))) else (
  nm (v116 + (1 : Int32)) fun v515 =>
  some (Sum.inl (v156, (1 : Int32), v145, v149, v153, v515, C462))))))))) else (
  nm (v116 + (1 : Int32)) fun v510 =>
  some (Sum.inl (v156, (0 : Int32), v145, v149, v153, v510, C462))))))))))) else (
  nm (v116 + (1 : Int32)) fun v464 =>
  some (Sum.inl (v156, (0 : Int32), v145, v149, v153, v464, C462))))
def J_L_ticks_560_4 (f83 : Nat → Int32) (v116 : Int32) (v133 : Int32) (v139 : Int32) (r140 : Int32) (v145 : Int32) (v149 : Int32) (v153 : Int32) (v156 : Int32) (C447 : Mem) (v453 : Int32) : Option ((Int32 × Int32 × Int32 × Int32 × Int32 × Int32 × Mem) ⊕ (Int32 × Int32 × Int32 × Int32 × Int32 × Int32 × Mem)) :=
  (if v139 = v453 then (
  b2 (F_L_tryBoiler v116 (6 : Int32) C447) fun r456 C458 =>
  gi (((4 : Int32) * v116) + (3 : Int32)) 20 (
  (if v139 = 0 then (
  (if r140 = (3 : Int32) then (
  J_L_ticks_607_4 f83 v116 v133 r140 v145 v149 v153 v156 r456 (1 : Int32) C458) else (
  J_L_ticks_607_4 f83 v116 v133 r140 v145 v149 v153 v156 r456 (0 : Int32) C458))) else (
  b2 (F_L_tryBoiler v116 (0 : Int32) C458) fun r532 C534 =>
  J_L_ticks_607_4 f83 v116 v133 r140 v145 v149 v153 v156 r456 r532 C534)))) else (
  nm (v116 + (1 : Int32)) fun v455 =>
  some (Sum.inl (v156, (0 : Int32), v145, v149, v153, v455, C447))))
def J_L_ticks_469 (f83 : Nat → Int32) (v111 : Int32) (v116 : Int32) (v133 : Int32) (v139 : Int32) (r140 : Int32) (v145 : Int32) (v149 : Int32) (C152 : Mem) (v153 : Int32) (v155 : Int32) : Option ((Int32 × Int32 × Int32 × Int32 × Int32 × Int32 × Mem) ⊕ (Int32 × Int32 × Int32 × Int32 × Int32 × Int32 × Mem)) :=
  nm (v111 - v155) fun v156 =>
  (if v133 = 0 then (
  b2 (F_L_tryBoiler v116 (5 : Int32) C152) fun r347 C349 =>
  gi (((4 : Int32) * v116) + (1 : Int32)) 20 (
  (if r347 = (f83 ((((4 : Int32) * v116) + (1 : Int32))).toNatClampNeg) then (
  (if v139 = 0 then (
  b2 (F_L_tryBoiler v116 (4 : Int32) C349) fun r445 C447 =>
  gi (((4 : Int32) * v116) + (2 : Int32)) 20 (
  (if r445 = (f83 ((((4 : Int32) * v116) + (2 : Int32))).toNatClampNeg) then (
  gi ((4 : Int32) * v116) 20 (
  (if (f83 (((4 : Int32) * v116)).toNatClampNeg) = (2 : Int32) then (
  (if r140 = (2 : Int32) then (
  J_L_ticks_560_4 f83 v116 v133 v139 r140 v145 v149 v153 v156 C447 (1 : Int32)) else (
  gi ((4 : Int32) * v116) 20 (
  (if (f83 (((4 : Int32) * v116)).toNatClampNeg) = (3 : Int32) then (
  (if v133 = 0 then (
  J_L_ticks_560_4 f83 v116 v133 v139 r140 v145 v149 v153 v156 C447 (0 : Int32)) else (
  J_L_ticks_560_4 f83 v116 v133 v139 r140 v145 v149 v153 v156 C447 (1 : Int32)))) else (
  J_L_ticks_560_4 f83 v116 v133 v139 r140 v145 v149 v153 v156 C447 (0 : Int32))))))) else (
  gi ((4 : Int32) * v116) 20 (
  (if (f83 (((4 : Int32) * v116)).toNatClampNeg) = (3 : Int32) then (
  (if v133 = 0 then (
  J_L_ticks_560_4 f83 v116 v133 v139 r140 v145 v149 v153 v156 C447 (0 : Int32)) else (
  J_L_ticks_560_4 f83 v116 v133 v139 r140 v145 v149 v153 v156 C447 (1 : Int32)))) else (
  J_L_ticks_560_4 f83 v116 v133 v139 r140 v145 v149 v153 v156 C447 (0 : Int32)))))))) else (
  nm (v116 + (1 : Int32)) fun v450 =>
  some (Sum.inl (v156, (0 : Int32), v145, v149, v153, v450, C447)))))) else (
  gi ((4 : Int32) * v116) 20 (
  (if (f83 (((4 : Int32) * v116)).toNatClampNeg) = (2 : Int32) then (
  (if r140 = (2 : Int32) then (
  J_L_ticks_560_3 f83 v116 v133 v139 r140 v145 v149 v153 v156 C349 (1 : Int32)) else (
  gi ((4 : Int32) * v116) 20 (
  (if (f83 (((4 : Int32) * v116)).toNatClampNeg) = (3 : Int32) then (
  (if v133 = 0 then (
  J_L_ticks_560_3 f83 v116 v133 v139 r140 v145 v149 v153 v156 C349 (0 : Int32)) else (
  J_L_ticks_560_3 f83 v116 v133 v139 r140 v145 v149 v153 v156 C349 (1 : Int32)))) else (
  J_L_ticks_560_3 f83 v116 v133 v139 r140 v145 v149 v153 v156 C349 (0 : Int32))))))) else (
  gi ((4 : Int32) * v116) 20 (
  (if (f83 (((4 : Int32) * v116)).toNatClampNeg) = (3 : Int32) then (
  (if v133 = 0 then (
  J_L_ticks_560_3 f83 v116 v133 v139 r140 v145 v149 v153 v156 C349 (0 : Int32)) else (
  J_L_ticks_560_3 f83 v116 v133 v139 r140 v145 v149 v153 v156 C349 (1 : Int32)))) else (
  J_L_ticks_560_3 f83 v116 v133 v139 r140 v145 v149 v153 v156 C349 (0 : Int32)))))))))) else (
  nm (v116 + (1 : Int32)) fun v352 =>
  some (Sum.inl (v156, (0 : Int32), v145, v149, v153, v352, C349)))))) else (
  (if v139 = 0 then (
  b2 (F_L_tryBoiler v116 (4 : Int32) C152) fun r250 C252 =>
  gi (((4 : Int32) * v116) + (2 : Int32)) 20 (
  (if r250 = (f83 ((((4 : Int32) * v116) + (2 : Int32))).toNatClampNeg) then (
  gi ((4 : Int32) * v116) 20 (
  (if (f83 (((4 : Int32) * v116)).toNatClampNeg) = (2 : Int32) then (
  (if r140 = (2 : Int32) then (
  J_L_ticks_560_2 f83 v116 v133 v139 r140 v145 v149 v153 v156 C252 (1 : Int32)) else (
  gi ((4 : Int32) * v116) 20 (
  (if (f83 (((4 : Int32) * v116)).toNatClampNeg) = (3 : Int32) then (
  (if v133 = 0 then (
  J_L_ticks_560_2 f83 v116 v133 v139 r140 v145 v149 v153 v156 C252 (0 : Int32)) else (
  J_L_ticks_560_2 f83 v116 v133 v139 r140 v145 v149 v153 v156 C252 (1 : Int32)))) else (
  J_L_ticks_560_2 f83 v116 v133 v139 r140 v145 v149 v153 v156 C252 (0 : Int32))))))) else (
  gi ((4 : Int32) * v116) 20 (
  (if (f83 (((4 : Int32) * v116)).toNatClampNeg) = (3 : Int32) then (
  (if v133 = 0 then (
  J_L_ticks_560_2 f83 v116 v133 v139 r140 v145 v149 v153 v156 C252 (0 : Int32)) else (
  J_L_ticks_560_2 f83 v116 v133 v139 r140 v145 v149 v153 v156 C252 (1 : Int32)))) else (
  J_L_ticks_560_2 f83 v116 v133 v139 r140 v145 v149 v153 v156 C252 (0 : Int32)))))))) else (
  nm (v116 + (1 : Int32)) fun v255 =>
  some (Sum.inl (v156, (0 : Int32), v145, v149, v153, v255, C252)))))) else (
  gi ((4 : Int32) * v116) 20 (
  (if (f83 (((4 : Int32) * v116)).toNatClampNeg) = (2 : Int32) then (
  (if r140 = (2 : Int32) then (
  J_L_ticks_560 f83 v116 v133 v139 r140 v145 v149 C152 v153 v156 (1 : Int32)) else (
  gi ((4 : Int32) * v116) 20 (
  (if (f83 (((4 : Int32) * v116)).toNatClampNeg) = (3 : Int32) then (
  (if v133 = 0 then (
  J_L_ticks_560 f83 v116 v133 v139 r140 v145 v149 C152 v153 v156 (0 : Int32)) else (
  J_L_ticks_560 f83 v116 v133 v139 r140 v145 v149 C152 v153 v156 (1 : Int32)))) else (
  J_L_ticks_560 f83 v116 v133 v139 r140 v145 v149 C152 v153 v156 (0 : Int32))))))) else (
  gi ((4 : Int32) * v116) 20 (
  (if (f83 (((4 : Int32) * v116)).toNatClampNeg) = (3 : Int32) then (
  (if v133 = 0 then (
  J_L_ticks_560 f83 v116 v133 v139 r140 v145 v149 C152 v153 v156 (0 : Int32)) else (
  J_L_ticks_560 f83 v116 v133 v139 r140 v145 v149 C152 v153 v156 (1 : Int32)))) else (
  J_L_ticks_560 f83 v116 v133 v139 r140 v145 v149 C152 v153 v156 (0 : Int32)))))))))))
def J_L_ticks_454 (f83 : Nat → Int32) (v111 : Int32) (v115 : Int32) (v116 : Int32) (v133 : Int32) (v139 : Int32) (r140 : Int32) (v145 : Int32) (v149 : Int32) (v151 : Int32) (C152 : Mem) : Option ((Int32 × Int32 × Int32 × Int32 × Int32 × Int32 × Mem) ⊕ (Int32 × Int32 × Int32 × Int32 × Int32 × Int32 × Mem)) :=
  nm (v115 + v151) fun v153 =>
  (if v133 = 0 then (
  J_L_ticks_469 f83 v111 v116 v133 v139 r140 v145 v149 C152 v153 (0 : Int32)) else (
  J_L_ticks_469 f83 v111 v116 v133 v139 r140 v145 v149 C152 v153 (1 : Int32)))
def J_L_ticks_433 (f83 : Nat → Int32) (v111 : Int32) (v114 : Int32) (v115 : Int32) (v116 : Int32) (v133 : Int32) (v139 : Int32) (r140 : Int32) (C142 : Mem) (v145 : Int32) (v148 : Int32) : Option ((Int32 × Int32 × Int32 × Int32 × Int32 × Int32 × Mem) ⊕ (Int32 × Int32 × Int32 × Int32 × Int32 × Int32 × Mem)) :=
  nm (v114 + v148) fun v149 =>
  (if v139 = 0 then (
  J_L_ticks_454 f83 v111 v115 v116 v133 v139 r140 v145 v149 (0 : Int32) C142) else (
  b2 (F_L_tryBoiler v116 (0 : Int32) C142) fun r542 C544 =>
  J_L_ticks_454 f83 v111 v115 v116 v133 v139 r140 v145 v149 r542 C544))
def J_L_ticks_406 (f83 : Nat → Int32) (v111 : Int32) (v113 : Int32) (v114 : Int32) (v115 : Int32) (v116 : Int32) (v133 : Int32) (v139 : Int32) (r140 : Int32) (C142 : Mem) (v144 : Int32) : Option ((Int32 × Int32 × Int32 × Int32 × Int32 × Int32 × Mem) ⊕ (Int32 × Int32 × Int32 × Int32 × Int32 × Int32 × Mem)) :=
  nm (v113 + v144) fun v145 =>
  gi ((4 : Int32) * v116) 20 (
  (if (f83 (((4 : Int32) * v116)).toNatClampNeg) = (2 : Int32) then (
  (if r140 = (3 : Int32) then (
  J_L_ticks_433 f83 v111 v114 v115 v116 v133 v139 r140 C142 v145 (1 : Int32)) else (
  J_L_ticks_433 f83 v111 v114 v115 v116 v133 v139 r140 C142 v145 (0 : Int32)))) else (
  J_L_ticks_433 f83 v111 v114 v115 v116 v133 v139 r140 C142 v145 (0 : Int32))))
def J_L_ticks_383 (f83 : Nat → Int32) (v111 : Int32) (v113 : Int32) (v114 : Int32) (v115 : Int32) (v116 : Int32) (v133 : Int32) (C136 : Mem) (v139 : Int32) : Option ((Int32 × Int32 × Int32 × Int32 × Int32 × Int32 × Mem) ⊕ (Int32 × Int32 × Int32 × Int32 × Int32 × Int32 × Mem)) :=
  b2 (F_L_tryBoiler v116 (2 : Int32) C136) fun r140 C142 =>
  (if v133 = 0 then (
  J_L_ticks_406 f83 v111 v113 v114 v115 v116 v133 v139 r140 C142 (0 : Int32)) else (
  J_L_ticks_406 f83 v111 v113 v114 v115 v116 v133 v139 r140 C142 (1 : Int32)))
def J_L_ticks_355 (f83 : Nat → Int32) (v111 : Int32) (v113 : Int32) (v114 : Int32) (v115 : Int32) (v116 : Int32) (C130 : Mem) (v133 : Int32) : Option ((Int32 × Int32 × Int32 × Int32 × Int32 × Int32 × Mem) ⊕ (Int32 × Int32 × Int32 × Int32 × Int32 × Int32 × Mem)) :=
  b2 (F_L_tryBoiler v116 (4 : Int32) C130) fun r134 C136 =>
  gi (((4 : Int32) * v116) + (2 : Int32)) 20 (
  (if r134 = ((f83 ((((4 : Int32) * v116) + (2 : Int32))).toNatClampNeg) + (1 : Int32)) then (
  J_L_ticks_383 f83 v111 v113 v114 v115 v116 v133 C136 (1 : Int32)) else (
  J_L_ticks_383 f83 v111 v113 v114 v115 v116 v133 C136 (0 : Int32))))
def S_L_ticks_318 (r1 : Int32) (f83 : Nat → Int32) (v111 : Int32) (v112 : Int32) (v113 : Int32) (v114 : Int32) (v115 : Int32) (v116 : Int32) (C117 : Mem) : Option ((Int32 × Int32 × Int32 × Int32 × Int32 × Int32 × Mem) ⊕ (Int32 × Int32 × Int32 × Int32 × Int32 × Int32 × Mem)) :=
  (if r1 ≤ v116 then (
  some (Sum.inr (v111, v112, v113, v114, v115, v116, C117))) else (
  (if v112 = 0 then (
  some (Sum.inr (v111, v112, v113, v114, v115, v116, C117))) else (
  b2 (F_L_tryBoiler v116 (5 : Int32) C117) fun r128 C130 =>
  gi (((4 : Int32) * v116) + (1 : Int32)) 20 (
  (if r128 = ((f83 ((((4 : Int32) * v116) + (1 : Int32))).toNatClampNeg) + (1 : Int32)) then (
  J_L_ticks_355 f83 v111 v113 v114 v115 v116 C130 (1 : Int32)) else (
  J_L_ticks_355 f83 v111 v113 v114 v115 v116 C130 (0 : Int32))))))))
def S_L_ticks_905  (v564 : Int32) (v565 : Int32) (C566 : Mem) : Option ((Int32 × Int32 × Mem) ⊕ (Int32 × Int32 × Mem)) :=
  b2 (F_L_tryAbout (7 : Int32) C566) fun r571 C573 =>
  (if r571 ≤ v565 then (
  some (Sum.inr (v564, v565, C573))) else (
  (if v564 = 0 then (
  some (Sum.inr (v564, v565, C573))) else (
  b2 (F_L_tryLayer (v565 - (1 : Int32)) C573) fun r576 C578 =>
  b2 (F_L_tryLayer v565 C578) fun r579 C581 =>
  (if r579 < r576 then (
  nm (v565 + (1 : Int32)) fun v583 =>
  some (Sum.inl ((0 : Int32), v583, C581))) else (
  nm (v565 + (1 : Int32)) fun v584 =>
  some (Sum.inl ((1 : Int32), v584, C581))))))))
def J_L_ticks_900 (v32 : Int32) (v110 : Int32) (v119 : Int32) (v562 : Int32) (C563 : Mem) : Option ((Int32 × Int32 × Int32 × Int32 × Mem) ⊕ (Int32 × Int32 × Int32 × Int32 × Mem)) :=
  b1 (iter (fun x => S_L_ticks_905  x.1 x.2.1 x.2.2) 8 (v562, (1 : Int32), C563)) (u3 fun v568 v569 C570 =>
  nm (v32 + (1 : Int32)) fun v585 =>
  some (Sum.inl (v119, v110, v568, v585, C570)))
def J_L_ticks_885 (v32 : Int32) (v110 : Int32) (v119 : Int32) (v560 : Int32) (C609 : Mem) (v616 : Int32) : Option ((Int32 × Int32 × Int32 × Int32 × Mem) ⊕ (Int32 × Int32 × Int32 × Int32 × Mem)) :=
  (if v616 < v560 then (
  J_L_ticks_900 v32 v110 v119 (0 : Int32) C609) else (
  b2 (F_L_sound  C609) fun r618 C620 =>
  (if r618 = 0 then (
  J_L_ticks_900 v32 v110 v119 (0 : Int32) C620) else (
  J_L_ticks_900 v32 v110 v119 (1 : Int32) C620))))
def J_L_ticks_860 (v32 : Int32) (v64 : Int32) (v69 : Int32) (v110 : Int32) (v119 : Int32) (v553 : Int32) (v560 : Int32) (C609 : Mem) (v612 : Int32) : Option ((Int32 × Int32 × Int32 × Int32 × Mem) ⊕ (Int32 × Int32 × Int32 × Int32 × Mem)) :=
  (if v553 = v612 then (
  (if v560 < 0 then (
  J_L_ticks_900 v32 v110 v119 (0 : Int32) C609) else (
  (if v69 = 0 then (
  (if v64 = 0 then (
  J_L_ticks_885 v32 v110 v119 v560 C609 (0 : Int32)) else (
  J_L_ticks_885 v32 v110 v119 v560 C609 (1 : Int32)))) else (
  J_L_ticks_885 v32 v110 v119 v560 C609 (1 : Int32)))))) else (
  J_L_ticks_900 v32 v110 v119 (0 : Int32) C609))
def J_L_ticks_770 (v5 : Int32) (v32 : Int32) (r42 : Int32) (r45 : Int32) (r48 : Int32) (r51 : Int32) (r54 : Int32) (v64 : Int32) (v69 : Int32) (v110 : Int32) (v119 : Int32) (v123 : Int32) (v553 : Int32) (C559 : Mem) (v560 : Int32)  : Option ((Int32 × Int32 × Int32 × Int32 × Mem) ⊕ (Int32 × Int32 × Int32 × Int32 × Mem)) :=
  b2 (F_L_tryAccount (0 : Int32) C559) fun r590 C592 =>
  (if r590 = (r54 + v123) then (
  b2 (F_L_heat  C592) fun r594 C596 =>
  b2 (F_L_tryAccount (1 : Int32) C596) fun r597 C599 =>
  b2 (F_L_tryAccount (2 : Int32) C599) fun r600 C602 =>
  b2 (F_L_tryAccount (3 : Int32) C602) fun r603 C605 =>
  (if r594 = (((((((r42 + v123) + r597) - r45) - r600) + r48) - r603) + r51) then (
  b2 (F_L_tryAccount (1 : Int32) C605) fun r607 C609 =>
  (if r607 = (r45 + ((10 : Int32) * v5)) then (
  (if v69 = 0 then (
  (if v64 = 0 then (
  J_L_ticks_860 v32 v64 v69 v110 v119 v553 v560 C609 (0 : Int32)) else (
  (if v560 = 0 then (
  J_L_ticks_860 v32 v64 v69 v110 v119 v553 v560 C609 (1 : Int32)) else (
  J_L_ticks_860 v32 v64 v69 v110 v119 v553 v560 C609 (0 : Int32)))))) else (
  (if v560 = 0 then (
  J_L_ticks_860 v32 v64 v69 v110 v119 v553 v560 C609 (1 : Int32)) else (
  J_L_ticks_860 v32 v64 v69 v110 v119 v553 v560 C609 (0 : Int32)))))) else (
  J_L_ticks_900 v32 v110 v119 (0 : Int32) C609))) else (
  J_L_ticks_900 v32 v110 v119 (0 : Int32) C605))) else (
  J_L_ticks_900 v32 v110 v119 (0 : Int32) C592))
def J_L_ticks_711 (v5 : Int32) (v32 : Int32) (r42 : Int32) (r45 : Int32) (r48 : Int32) (r51 : Int32) (r54 : Int32) (v64 : Int32) (v69 : Int32) (v76 : Int32) (v110 : Int32) (v119 : Int32) (v120 : Int32) (v121 : Int32) (v122 : Int32) (v123 : Int32) (r546 : Int32) (C551 : Mem) (v553 : Int32) : Option ((Int32 × Int32 × Int32 × Int32 × Mem) ⊕ (Int32 × Int32 × Int32 × Int32 × Mem)) :=
  b2 (F_L_tryAbout (14 : Int32) C551) fun r554 C556 =>
  b2 (F_L_tryAbout (15 : Int32) C556) fun r557 C559 =>
  nm ((r554 + r557) - v76) fun v560 =>
  (if v120 = 0 then (
  J_L_ticks_900 v32 v110 v119 (0 : Int32) C559) else (
  (if (1 : Int32) < v121 then (
  J_L_ticks_900 v32 v110 v119 (0 : Int32) C559) else (
  (if (1 : Int32) < v122 then (
  J_L_ticks_900 v32 v110 v119 (0 : Int32) C559) else (
  (if (1 : Int32) < (v121 + v122) then (
  J_L_ticks_900 v32 v110 v119 (0 : Int32) C559) else (
  (if r546 = 0 then (
  J_L_ticks_770 v5 v32 r42 r45 r48 r51 r54 v64 v69 v110 v119 v123 v553 C559 v560 ) else (
  (if (v121 + v122) = 0 then (
  J_L_ticks_770 v5 v32 r42 r45 r48 r51 r54 v64 v69 v110 v119 v123 v553 C559 v560 ) else (
  J_L_ticks_900 v32 v110 v119 (0 : Int32) C559))))))))))))
def J_L_ticks_304 (r1 : Int32) (v5 : Int32) (v29 : Int32) (v31 : Int32) (v32 : Int32) (r42 : Int32) (r45 : Int32) (r48 : Int32) (r51 : Int32) (r54 : Int32) (v64 : Int32) (v69 : Int32) (v76 : Int32) (f83 : Nat → Int32) (C108 : Mem) (v110 : Int32) : Option ((Int32 × Int32 × Int32 × Int32 × Mem) ⊕ (Int32 × Int32 × Int32 × Int32 × Mem)) :=
  b1 (iter (fun x => S_L_ticks_318 r1 f83 x.1 x.2.1 x.2.2.1 x.2.2.2.1 x.2.2.2.2.1 x.2.2.2.2.2.1 x.2.2.2.2.2.2) 6 (v29, v31, (0 : Int32), (0 : Int32), (0 : Int32), (0 : Int32), C108)) (u7 fun v119 v120 v121 v122 v123 v124 C125 =>
  b2 (F_L_tryAbout (10 : Int32) C125) fun r546 C548 =>
  b2 (F_L_tryAbout (11 : Int32) C548) fun r549 C551 =>
  (if r549 = (1 : Int32) then (
  J_L_ticks_711 v5 v32 r42 r45 r48 r51 r54 v64 v69 v76 v110 v119 v120 v121 v122 v123 r546 C551 (1 : Int32)) else (
  J_L_ticks_711 v5 v32 r42 r45 r48 r51 r54 v64 v69 v76 v110 v119 v120 v121 v122 v123 r546 C551 (0 : Int32))))
def J_L_ticks_180 (r1 : Int32) (v5 : Int32) (v29 : Int32) (v30 : Int32) (v31 : Int32) (v32 : Int32) (r42 : Int32) (r45 : Int32) (r48 : Int32) (r51 : Int32) (r54 : Int32) (v64 : Int32) (C67 : Mem) (v69 : Int32) : Option ((Int32 × Int32 × Int32 × Int32 × Mem) ⊕ (Int32 × Int32 × Int32 × Int32 × Mem)) :=
  b2 (F_L_tryAbout (14 : Int32) C67) fun r70 C72 =>
  b2 (F_L_tryAbout (15 : Int32) C72) fun r73 C75 =>
  nm (r70 + r73) fun v76 =>
  b1 (iter (fun x => S_L_ticks_206 r1 x.1 x.2.1 x.2.2) 6 ((0 : Int32), C75, (fun _ => 0))) (u3 fun v81 C82 f83 =>
  b2 (F_L_tryTick (1 : Int32) v5 C82) fun r106 C108 =>
  (if v30 ≤ r106 then (
  J_L_ticks_304 r1 v5 v29 v31 v32 r42 r45 r48 r51 r54 v64 v69 v76 f83 C108 v30) else (
  J_L_ticks_304 r1 v5 v29 v31 v32 r42 r45 r48 r51 r54 v64 v69 v76 f83 C108 r106)))
def J_L_ticks_163 (r1 : Int32) (v5 : Int32) (v29 : Int32) (v30 : Int32) (v31 : Int32) (v32 : Int32) (r42 : Int32) (r45 : Int32) (r48 : Int32) (r51 : Int32) (r54 : Int32) (C62 : Mem) (v64 : Int32) : Option ((Int32 × Int32 × Int32 × Int32 × Mem) ⊕ (Int32 × Int32 × Int32 × Int32 × Mem)) :=
  b2 (F_L_tryAbout (11 : Int32) C62) fun r65 C67 =>
  (if r65 = (1 : Int32) then (
  J_L_ticks_180 r1 v5 v29 v30 v31 v32 r42 r45 r48 r51 r54 v64 C67 (1 : Int32)) else (
  J_L_ticks_180 r1 v5 v29 v30 v31 v32 r42 r45 r48 r51 r54 v64 C67 (0 : Int32)))
def S_L_ticks_96 (r1 : Int32) (v4 : Int32) (v5 : Int32) (v29 : Int32) (v30 : Int32) (v31 : Int32) (v32 : Int32) (C33 : Mem) : Option ((Int32 × Int32 × Int32 × Int32 × Mem) ⊕ (Int32 × Int32 × Int32 × Int32 × Mem)) :=
  (if v4 ≤ v32 then (
  some (Sum.inr (v29, v30, v31, v32, C33))) else (
  (if v31 = 0 then (
  some (Sum.inr (v29, v30, v31, v32, C33))) else (
  b2 (F_L_heat  C33) fun r42 C44 =>
  b2 (F_L_tryAccount (1 : Int32) C44) fun r45 C47 =>
  b2 (F_L_tryAccount (2 : Int32) C47) fun r48 C50 =>
  b2 (F_L_tryAccount (3 : Int32) C50) fun r51 C53 =>
  b2 (F_L_tryAccount (0 : Int32) C53) fun r54 C56 =>
  b2 (F_L_tryAbout (8 : Int32) C56) fun r57 C59 =>
  b2 (F_L_tryAbout (5 : Int32) C59) fun r60 C62 =>
  (if (r57 - r57 / (24 : Int32) * (24 : Int32)) = r60 then (
  J_L_ticks_163 r1 v5 v29 v30 v31 v32 r42 r45 r48 r51 r54 C62 (1 : Int32)) else (
  J_L_ticks_163 r1 v5 v29 v30 v31 v32 r42 r45 r48 r51 r54 C62 (0 : Int32)))))))
def F_L_ticks (x1 : Int32) (C : Mem) : Option (Int32 × Mem) :=
  b2 (F_L_tryAbout (6 : Int32) C) fun r1 C3 =>
  nm ((1 : Int32) + (x1 - x1 / (20 : Int32) * (20 : Int32))) fun v4 =>
  nm ((x1 / (32 : Int32)) - (x1 / (32 : Int32)) / (4 : Int32) * (4 : Int32)) fun v5 =>
  b2 (F_L_tryAhead v4 v5 (0 : Int32) C3) fun r6 C8 =>
  b2 (F_L_tryAhead v4 v5 (6 : Int32) C8) fun r9 C11 =>
  b2 (F_L_tryAhead v4 v5 (3 : Int32) C11) fun r12 C14 =>
  b2 (F_L_tryAccount (4 : Int32) C14) fun r15 C17 =>
  nm (r12 + r15) fun v18 =>
  b2 (F_L_tryAhead v4 v5 (4 : Int32) C17) fun r19 C21 =>
  b2 (F_L_tryAhead v4 v5 (5 : Int32) C21) fun r22 C24 =>
  b2 (F_L_tryAbout (14 : Int32) C24) fun r25 C27 =>
  nm (r22 + r25) fun v28 =>
  b1 (iter (fun x => S_L_ticks_96 r1 v4 v5 x.1 x.2.1 x.2.2.1 x.2.2.2.1 x.2.2.2.2) 21 (r19, (99 : Int32), (1 : Int32), (0 : Int32), C27)) (u5 fun v35 v36 v37 v38 C39 =>
  (if v37 = 0 then (
  some ((0 : Int32), C39)) else (
  b2 (F_L_tryAbout (9 : Int32) C39) fun r628 C630 =>
  (if r628 = r6 then (
  (if v36 = r9 then (
  b2 (F_L_tryAccount (4 : Int32) C630) fun r633 C635 =>
  (if r633 = v18 then (
  (if v35 = 0 then (
  b2 (F_L_tryAbout (14 : Int32) C635) fun r638 C640 =>
  (if r638 = v28 then (
  some ((1 : Int32), C640)) else (
  some ((0 : Int32), C640)))) else (
  some ((0 : Int32), C635)))) else (
  some ((0 : Int32), C635)))) else (
  some ((0 : Int32), C630)))) else (
  some ((0 : Int32), C630))))))
