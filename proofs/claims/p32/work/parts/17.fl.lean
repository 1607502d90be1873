/-! what the law's methods do to the memories, by program out of the bytecode -/
def F_L_number (xs : Nat → Int32) (L : Nat) (x1 : Int32) (C D : Mem) : Option (Int32 × Mem × Mem) :=
  (if (Int32.ofNat L) ≤ x1 then (
  some (((((15515971 : Int32) * (x1 + (5 : Int32))) + (10007 : Int32)) &&& (2147483647 : Int32)), C, D)) else (
  gi x1 L (
  some (((xs (x1).toNatClampNeg) &&& (2147483647 : Int32)), C, D))))
def F_L_put (x2 : Int32) (C D : Mem) : Option (Int32 × Mem × Mem) :=
  b2 (F_L_tryAppend x2 C) fun r1 C3 =>
  (if r1 ≤ 0 then (
  some ((0 : Int32), C3, D)) else (
  b2 (F_L_tryAppend x2 D) fun r5 D7 =>
  (if r5 ≤ 0 then (
  some ((0 : Int32), C3, D7)) else (
  some ((1 : Int32), C3, D7)))))
def F_L_two (x2 : Int32) (C D : Mem) : Option (Int32 × Mem × Mem) :=
  b3 (F_L_put ((48 : Int32) + (x2 / (10 : Int32))) C D) fun r1 C3 D4 =>
  (if r1 = 0 then (
  some ((0 : Int32), C3, D4)) else (
  b3 (F_L_put ((48 : Int32) + (x2 - x2 / (10 : Int32) * (10 : Int32))) C3 D4) fun r6 C8 D9 =>
  (if r6 = 0 then (
  some ((0 : Int32), C8, D9)) else (
  some ((1 : Int32), C8, D9)))))
def S_L_heat_4  (v1 : Int32) (v2 : Int32) (C3 : Mem) : Option ((Int32 × Int32 × Mem) ⊕ (Int32 × Int32 × Mem)) :=
  b2 (F_L_tryAbout (7 : Int32) C3) fun r8 C10 =>
  (if r8 ≤ v2 then (
  some (Sum.inr (v1, v2, C10))) else (
  b2 (F_L_tryLayer v2 C10) fun r12 C14 =>
  nm (v1 + r12) fun v15 =>
  nm (v2 + (1 : Int32)) fun v16 =>
  some (Sum.inl (v15, v16, C14))))
def F_L_heat  (C : Mem) : Option (Int32 × Mem) :=
  b1 (iter (fun x => S_L_heat_4  x.1 x.2.1 x.2.2) 9 ((0 : Int32), (0 : Int32), C)) (u3 fun v5 v6 C7 =>
  some (v5, C7))
def J_L_refuses_368 (r1 : Int32) (v11 : Int32) (C12 : Mem) : Option (Int32 × Mem) :=
  (if v11 = 0 then (
  some ((0 : Int32), C12)) else (
  b2 (F_L_tryWhyNot r1 C12) fun r14 C16 =>
  (if r14 = (-1001 : Int32) then (
  b2 (F_L_trySmallestSet (151 : Int32) (1 : Int32) C16) fun r18 C20 =>
  (if r18 = (-1002 : Int32) then (
  b2 (F_L_trySmallestSet (0 : Int32) (0 : Int32) C20) fun r22 C24 =>
  (if r22 = (-1002 : Int32) then (
  b2 (F_L_tryAhead (1 : Int32) (0 : Int32) (7 : Int32) C24) fun r26 C28 =>
  (if r26 = (-1002 : Int32) then (
  b2 (F_L_tryAhead (97 : Int32) (0 : Int32) (0 : Int32) C28) fun r30 C32 =>
  (if r30 = (-1002 : Int32) then (
  b2 (F_L_tryWarmAfter (100 : Int32) (0 : Int32) C32) fun r34 C36 =>
  (if r34 = (-1002 : Int32) then (
  b2 (F_L_tryWarmAfter (0 : Int32) (6 : Int32) C36) fun r38 C40 =>
  (if r38 = (-1002 : Int32) then (
  b2 (F_L_tryBearable (1 : Int32) (9 : Int32) C40) fun r42 C44 =>
  (if r42 = (-1002 : Int32) then (
  b2 (F_L_tryBearable (0 : Int32) (10 : Int32) C44) fun r46 C48 =>
  (if r46 = (-1002 : Int32) then (
  b2 (F_L_tryCheapestPurge (97 : Int32) (0 : Int32) C48) fun r50 C52 =>
  (if r50 = (-1002 : Int32) then (
  b2 (F_L_tryScript (4 : Int32) (0 : Int64) C52) fun r54 C56 =>
  (if r54 = (-1002 : Int32) then (
  b2 (F_L_tryScript (1 : Int32) (100000 : Int64) C56) fun r58 C60 =>
  (if r58 = (-1002 : Int32) then (
  b2 (F_L_trySimulate (1 : Int64) (97 : Int32) C60) fun r62 C64 =>
  (if r62 = (-1002 : Int32) then (
  b2 (F_L_trySave (2 : Int32) C64) fun r66 C68 =>
  (if r66 = (-1001 : Int32) then (
  b2 (F_L_tryRestore (-1 : Int32) C68) fun r70 C72 =>
  (if r70 = (-1001 : Int32) then (
  b2 (F_L_tryAppend (256 : Int32) C72) fun r74 C76 =>
  (if r74 = (-1002 : Int32) then (
  some ((1 : Int32), C76)) else (
  some ((0 : Int32), C76)))) else (
  some ((0 : Int32), C72)))) else (
  some ((0 : Int32), C68)))) else (
  some ((0 : Int32), C64)))) else (
  some ((0 : Int32), C60)))) else (
  some ((0 : Int32), C56)))) else (
  some ((0 : Int32), C52)))) else (
  some ((0 : Int32), C48)))) else (
  some ((0 : Int32), C44)))) else (
  some ((0 : Int32), C40)))) else (
  some ((0 : Int32), C36)))) else (
  some ((0 : Int32), C32)))) else (
  some ((0 : Int32), C28)))) else (
  some ((0 : Int32), C24)))) else (
  some ((0 : Int32), C20)))) else (
  some ((0 : Int32), C16)))))
def J_L_refuses_336 (r1 : Int32) (r4 : Int32) (C172 : Mem) : Option (Int32 × Mem) :=
  b2 (F_L_tryPutOff r1 C172) fun r173 C175 =>
  (if r173 = (-1001 : Int32) then (
  (if r4 = (3 : Int32) then (
  J_L_refuses_368 r1 (1 : Int32) C175) else (
  b2 (F_L_tryPutOff (0 : Int32) C175) fun r178 C180 =>
  (if r178 = (-1003 : Int32) then (
  J_L_refuses_368 r1 (1 : Int32) C180) else (
  J_L_refuses_368 r1 (0 : Int32) C180))))) else (
  J_L_refuses_368 r1 (0 : Int32) C175))
def J_L_refuses_309 (r1 : Int32) (r4 : Int32) (C166 : Mem) : Option (Int32 × Mem) :=
  b2 (F_L_tryUnlock r1 C166) fun r167 C169 =>
  (if r167 = (-1001 : Int32) then (
  (if r4 = (4 : Int32) then (
  J_L_refuses_336 r1 r4 C169) else (
  b2 (F_L_tryUnlock (0 : Int32) C169) fun r182 C184 =>
  (if r182 = (-1003 : Int32) then (
  J_L_refuses_336 r1 r4 C184) else (
  J_L_refuses_368 r1 (0 : Int32) C184))))) else (
  J_L_refuses_368 r1 (0 : Int32) C169))
def F_L_refuses  (C : Mem) : Option (Int32 × Mem) :=
  b2 (F_L_tryAbout (6 : Int32) C) fun r1 C3 =>
  b2 (F_L_tryBoiler (0 : Int32) (2 : Int32) C3) fun r4 C6 =>
  b2 (F_L_tryAbout (17 : Int32) C6) fun r7 C9 =>
  (if r7 = (-1002 : Int32) then (
  b2 (F_L_tryBoiler r1 (8 : Int32) C9) fun r78 C80 =>
  (if r78 = (-1001 : Int32) then (
  b2 (F_L_tryBoiler (0 : Int32) (8 : Int32) C80) fun r82 C84 =>
  (if r82 = (-1002 : Int32) then (
  b2 (F_L_tryFlue (2 : Int32) (4 : Int32) C84) fun r86 C88 =>
  (if r86 = (-1001 : Int32) then (
  b2 (F_L_tryFlue (0 : Int32) (4 : Int32) C88) fun r90 C92 =>
  (if r90 = (-1002 : Int32) then (
  b2 (F_L_tryAbout (7 : Int32) C92) fun r94 C96 =>
  b2 (F_L_tryLayer r94 C96) fun r97 C99 =>
  (if r97 = (-1001 : Int32) then (
  b2 (F_L_tryAccount (6 : Int32) C99) fun r101 C103 =>
  (if r101 = (-1002 : Int32) then (
  b2 (F_L_tryTick (0 : Int32) (0 : Int32) C103) fun r105 C107 =>
  (if r105 = (-1002 : Int32) then (
  b2 (F_L_tryTick (97 : Int32) (0 : Int32) C107) fun r109 C111 =>
  (if r109 = (-1002 : Int32) then (
  b2 (F_L_tryTick (1 : Int32) (6 : Int32) C111) fun r113 C115 =>
  (if r113 = (-1002 : Int32) then (
  b2 (F_L_tryDraw (21 : Int32) C115) fun r117 C119 =>
  (if r117 = (-1002 : Int32) then (
  b2 (F_L_trySet (0 : Int32) (39 : Int32) C119) fun r121 C123 =>
  (if r121 = (-1002 : Int32) then (
  b2 (F_L_trySet (1 : Int32) (10 : Int32) C123) fun r125 C127 =>
  (if r125 = (-1002 : Int32) then (
  b2 (F_L_trySet (2 : Int32) (6 : Int32) C127) fun r129 C131 =>
  (if r129 = (-1002 : Int32) then (
  b2 (F_L_trySet (3 : Int32) (59 : Int32) C131) fun r133 C135 =>
  (if r133 = (-1002 : Int32) then (
  b2 (F_L_trySet (4 : Int32) (0 : Int32) C135) fun r137 C139 =>
  (if r137 = (-1002 : Int32) then (
  b2 (F_L_trySet (5 : Int32) (24 : Int32) C139) fun r141 C143 =>
  (if r141 = (-1002 : Int32) then (
  b2 (F_L_trySet (6 : Int32) (1 : Int32) C143) fun r145 C147 =>
  (if r145 = (-1002 : Int32) then (
  b2 (F_L_trySetFlue (2 : Int32) (1 : Int32) C147) fun r149 C151 =>
  (if r149 = (-1001 : Int32) then (
  b2 (F_L_trySetDraft (-1 : Int32) (100 : Int32) C151) fun r153 C155 =>
  (if r153 = (-1001 : Int32) then (
  b2 (F_L_trySetDraft (0 : Int32) (100 : Int32) C155) fun r157 C159 =>
  (if r157 = (-1002 : Int32) then (
  b2 (F_L_tryLock r1 C159) fun r161 C163 =>
  (if r161 = (-1001 : Int32) then (
  (if r4 = (4 : Int32) then (
  b2 (F_L_tryLock (0 : Int32) C163) fun r186 C188 =>
  (if r186 = (-1003 : Int32) then (
  J_L_refuses_309 r1 r4 C188) else (
  J_L_refuses_368 r1 (0 : Int32) C188))) else (
  J_L_refuses_309 r1 r4 C163))) else (
  J_L_refuses_368 r1 (0 : Int32) C163))) else (
  J_L_refuses_368 r1 (0 : Int32) C159))) else (
  J_L_refuses_368 r1 (0 : Int32) C155))) else (
  J_L_refuses_368 r1 (0 : Int32) C151))) else (
  J_L_refuses_368 r1 (0 : Int32) C147))) else (
  J_L_refuses_368 r1 (0 : Int32) C143))) else (
  J_L_refuses_368 r1 (0 : Int32) C139))) else (
  J_L_refuses_368 r1 (0 : Int32) C135))) else (
  J_L_refuses_368 r1 (0 : Int32) C131))) else (
  J_L_refuses_368 r1 (0 : Int32) C127))) else (
  J_L_refuses_368 r1 (0 : Int32) C123))) else (
  J_L_refuses_368 r1 (0 : Int32) C119))) else (
  J_L_refuses_368 r1 (0 : Int32) C115))) else (
  J_L_refuses_368 r1 (0 : Int32) C111))) else (
  J_L_refuses_368 r1 (0 : Int32) C107))) else (
  J_L_refuses_368 r1 (0 : Int32) C103))) else (
  J_L_refuses_368 r1 (0 : Int32) C99))) else (
  J_L_refuses_368 r1 (0 : Int32) C92))) else (
  J_L_refuses_368 r1 (0 : Int32) C88))) else (
  J_L_refuses_368 r1 (0 : Int32) C84))) else (
  J_L_refuses_368 r1 (0 : Int32) C80))) else (
  J_L_refuses_368 r1 (0 : Int32) C9))
def F_L_purgeFuel (x1 : Int32) (x2 : Int32) (x3 : Int32) (x4 : Int32) (C : Mem) : Option (Int32 × Mem) :=
  b2 (F_L_trySet (2 : Int32) x1 C) fun r1 C3 =>
  b2 (F_L_tryAhead x2 x3 (3 : Int32) C3) fun r4 C6 =>
  (if r1 ≤ 0 then (
  some ((-1 : Int32), C6)) else (
  b2 (F_L_tryRestore (0 : Int32) C6) fun r8 C10 =>
  (if r8 = x4 then (
  some (r4, C10)) else (
  some ((-1 : Int32), C10)))))
def J_L_scripts_254 (x1 : Int32) (r4 : Int32) (r15 : Int32) (v22 : Int32) (C23 : Mem) : Option (Int32 × Mem) :=
  (if v22 = 0 then (
  some ((0 : Int32), C23)) else (
  b2 (F_L_tryScript (1 : Int32) (20000 : Int64) C23) fun r25 C27 =>
  (if r25 = 0 then (
  b2 (F_L_tryScript (1 : Int32) (20021 : Int64) C27) fun r29 C31 =>
  (if r29 = 0 then (
  b2 (F_L_tryScript (2 : Int32) (2002070000 : Int64) C31) fun r33 C35 =>
  (if r33 = (-9 : Int32) then (
  b2 (F_L_tryScript (1 : Int32) (30039 : Int64) C35) fun r37 C39 =>
  (if r37 = 0 then (
  b2 (F_L_tryScript (1 : Int32) (30040 : Int64) C39) fun r41 C43 =>
  (if r41 = (-9 : Int32) then (
  b2 (F_L_tryScript (1 : Int32) (42000 : Int64) C43) fun r45 C47 =>
  (if r45 = 0 then (
  b2 (F_L_tryScript (1 : Int32) (40002 : Int64) C47) fun r49 C51 =>
  (if r49 = 0 then (
  b2 (F_L_tryScript (1 : Int32) (41001 : Int64) C51) fun r53 C55 =>
  (if r53 = (-9 : Int32) then (
  b2 (F_L_tryScript (1 : Int32) ((50000 : Int64) + ((1000 : Int64) * ((r4).toInt64))) C55) fun r57 C59 =>
  (if r57 = 0 then (
  b2 (F_L_tryScript (1 : Int32) (0 : Int64) C59) fun r61 C63 =>
  (if r61 = 0 then (
  (if r15 < 0 then (
  some ((0 : Int32), C63)) else (
  b2 (F_L_trySimulate (((x1).toInt64) * (137 : Int64)) (20 : Int32) C63) fun r66 C68 =>
  (if r15 = r66 then (
  some ((1 : Int32), C68)) else (
  some ((0 : Int32), C68)))))) else (
  some ((0 : Int32), C63)))) else (
  some ((0 : Int32), C59)))) else (
  some ((0 : Int32), C55)))) else (
  some ((0 : Int32), C51)))) else (
  some ((0 : Int32), C47)))) else (
  some ((0 : Int32), C43)))) else (
  some ((0 : Int32), C39)))) else (
  some ((0 : Int32), C35)))) else (
  some ((0 : Int32), C31)))) else (
  some ((0 : Int32), C27)))))
def J_L_scripts_213 (x1 : Int32) (r4 : Int32) (r15 : Int32) (r88 : Int32) (C90 : Mem) (v92 : Int32) : Option (Int32 × Mem) :=
  (if r88 = v92 then (
  b2 (F_L_tryScript (1 : Int32) (10000 : Int64) C90) fun r94 C96 =>
  (if r94 = 0 then (
  b2 (F_L_tryScript (1 : Int32) (10097 : Int64) C96) fun r98 C100 =>
  (if r98 = 0 then (
  b2 (F_L_tryScript (1 : Int32) (16001 : Int64) C100) fun r102 C104 =>
  (if r102 = 0 then (
  J_L_scripts_254 x1 r4 r15 (1 : Int32) C104) else (
  J_L_scripts_254 x1 r4 r15 (0 : Int32) C104))) else (
  J_L_scripts_254 x1 r4 r15 (0 : Int32) C100))) else (
  J_L_scripts_254 x1 r4 r15 (0 : Int32) C96))) else (
  J_L_scripts_254 x1 r4 r15 (0 : Int32) C90))
def J_L_scripts_182 (x1 : Int32) (r4 : Int32) (v8 : Int32) (r9 : Int32) (r15 : Int32) (r82 : Int32) (C84 : Mem) (v86 : Int32) : Option (Int32 × Mem) :=
  (if r82 = v86 then (
  b2 (F_L_tryScript (1 : Int32) ((60000 : Int64) + ((1000 : Int64) * ((v8).toInt64))) C84) fun r88 C90 =>
  (if r9 = (4 : Int32) then (
  J_L_scripts_213 x1 r4 r15 r88 C90 (-9 : Int32)) else (
  J_L_scripts_213 x1 r4 r15 r88 C90 (0 : Int32)))) else (
  J_L_scripts_254 x1 r4 r15 (0 : Int32) C84))
def J_L_scripts_154 (x1 : Int32) (r4 : Int32) (v8 : Int32) (r9 : Int32) (r15 : Int32) (C81 : Mem) : Option (Int32 × Mem) :=
  b2 (F_L_tryScript (1 : Int32) ((50000 : Int64) + ((1000 : Int64) * ((v8).toInt64))) C81) fun r82 C84 =>
  (if r9 = (4 : Int32) then (
  J_L_scripts_182 x1 r4 v8 r9 r15 r82 C84 (0 : Int32)) else (
  J_L_scripts_182 x1 r4 v8 r9 r15 r82 C84 (-9 : Int32)))
def J_L_scripts_86 (x1 : Int32) (r4 : Int32) (v8 : Int32) (r9 : Int32) (r12 : Int32) (r15 : Int32) (C71 : Mem) : Option (Int32 × Mem) :=
  b2 (F_L_tryScript (1 : Int32) (((80000 : Int64) + ((1000 : Int64) * ((v8).toInt64))) + ((r9).toInt64)) C71) fun r72 C74 =>
  (if r72 = (-9 : Int32) then (
  b2 (F_L_tryScript (1 : Int32) ((80005 : Int64) + ((1000 : Int64) * ((v8).toInt64))) C74) fun r76 C78 =>
  (if r76 = 0 then (
  (if (9 : Int32) < r12 then (
  J_L_scripts_154 x1 r4 v8 r9 r15 C78) else (
  b2 (F_L_tryScript (1 : Int32) ((90000 : Int64) + ((r12).toInt64)) C78) fun r106 C108 =>
  (if r106 = (-9 : Int32) then (
  J_L_scripts_154 x1 r4 v8 r9 r15 C108) else (
  J_L_scripts_254 x1 r4 r15 (0 : Int32) C108))))) else (
  J_L_scripts_254 x1 r4 r15 (0 : Int32) C78))) else (
  J_L_scripts_254 x1 r4 r15 (0 : Int32) C74))
def F_L_scripts (x1 : Int32) (C : Mem) : Option (Int32 × Mem) :=
  b2 (F_L_tryAbout (9 : Int32) C) fun r1 C3 =>
  b2 (F_L_tryAbout (6 : Int32) C3) fun r4 C6 =>
  gz r4 (
  nm (x1 - x1 / r4 * r4) fun v8 =>
  b2 (F_L_tryBoiler v8 (2 : Int32) C6) fun r9 C11 =>
  b2 (F_L_tryAbout (14 : Int32) C11) fun r12 C14 =>
  b2 (F_L_trySimulate (((x1).toInt64) * (137 : Int64)) (20 : Int32) C14) fun r15 C17 =>
  b2 (F_L_tryScript (1 : Int32) ((70000 : Int64) + ((r1).toInt64)) C17) fun r18 C20 =>
  (if r18 = (-9 : Int32) then (
  (if r1 = (99 : Int32) then (
  J_L_scripts_86 x1 r4 v8 r9 r12 r15 C20) else (
  b2 (F_L_tryScript (1 : Int32) ((70001 : Int64) + ((r1).toInt64)) C20) fun r110 C112 =>
  (if r110 = 0 then (
  J_L_scripts_86 x1 r4 v8 r9 r12 r15 C112) else (
  J_L_scripts_254 x1 r4 r15 (0 : Int32) C112))))) else (
  J_L_scripts_254 x1 r4 r15 (0 : Int32) C20)))
def J_L_act_178 (x2 : Int32) (C3 : Mem) (v49 : Int32) : Option (Int32 × Mem) :=
  b2 (F_L_trySetFlue (x2 - x2 / (2 : Int32) * (2 : Int32)) v49 C3) fun r50 C52 =>
  some (r50, C52)
def F_L_act (x1 : Int32) (x2 : Int32) (C : Mem) : Option (Int32 × Mem) :=
  b2 (F_L_tryAbout (6 : Int32) C) fun r1 C3 =>
  gz r1 (
  nm (x2 - x2 / r1 * r1) fun v5 =>
  (if (x1 - x1 / (16 : Int32) * (16 : Int32)) = (0 : Int32) then (
  b2 (F_L_tryTick ((1 : Int32) + (x2 - x2 / (30 : Int32) * (30 : Int32))) ((x2 / (32 : Int32)) - (x2 / (32 : Int32)) / (4 : Int32) * (4 : Int32)) C3) fun r21 C23 =>
  some (r21, C23)) else (
  (if (x1 - x1 / (16 : Int32) * (16 : Int32)) = (1 : Int32) then (
  b2 (F_L_tryTick ((1 : Int32) + (x2 - x2 / (30 : Int32) * (30 : Int32))) ((x2 / (32 : Int32)) - (x2 / (32 : Int32)) / (4 : Int32) * (4 : Int32)) C3) fun r24 C26 =>
  some (r24, C26)) else (
  (if (x1 - x1 / (16 : Int32) * (16 : Int32)) = (2 : Int32) then (
  b2 (F_L_tryTick ((1 : Int32) + (x2 - x2 / (30 : Int32) * (30 : Int32))) ((x2 / (32 : Int32)) - (x2 / (32 : Int32)) / (4 : Int32) * (4 : Int32)) C3) fun r27 C29 =>
  some (r27, C29)) else (
  (if (x1 - x1 / (16 : Int32) * (16 : Int32)) = (3 : Int32) then (
  b2 (F_L_tryTick ((1 : Int32) + (x2 - x2 / (30 : Int32) * (30 : Int32))) ((x2 / (32 : Int32)) - (x2 / (32 : Int32)) / (4 : Int32) * (4 : Int32)) C3) fun r30 C32 =>
  some (r30, C32)) else (
  (if (x1 - x1 / (16 : Int32) * (16 : Int32)) = (4 : Int32) then (
  b2 (F_L_tryTick ((1 : Int32) + (x2 - x2 / (30 : Int32) * (30 : Int32))) ((x2 / (32 : Int32)) - (x2 / (32 : Int32)) / (4 : Int32) * (4 : Int32)) C3) fun r33 C35 =>
  some (r33, C35)) else (
  (if (x1 - x1 / (16 : Int32) * (16 : Int32)) = (5 : Int32) then (
  b2 (F_L_tryDraw ((1 : Int32) + (x2 - x2 / (8 : Int32) * (8 : Int32))) C3) fun r36 C38 =>
  some (r36, C38)) else (
  (if (x1 - x1 / (16 : Int32) * (16 : Int32)) = (6 : Int32) then (
  b2 (F_L_trySet (0 : Int32) ((40 : Int32) + (x2 - x2 / (41 : Int32) * (41 : Int32))) C3) fun r39 C41 =>
  some (r39, C41)) else (
  (if (x1 - x1 / (16 : Int32) * (16 : Int32)) = (7 : Int32) then (
  b2 (F_L_trySet ((2 : Int32) + ((2 : Int32) * (x2 - x2 / (2 : Int32) * (2 : Int32)))) ((1 : Int32) + ((x2 / (2 : Int32)) - (x2 / (2 : Int32)) / (5 : Int32) * (5 : Int32))) C3) fun r42 C44 =>
  some (r42, C44)) else (
  (if (x1 - x1 / (16 : Int32) * (16 : Int32)) = (8 : Int32) then (
  b2 (F_L_trySet (3 : Int32) ((60 : Int32) + (x2 - x2 / (31 : Int32) * (31 : Int32))) C3) fun r45 C47 =>
  some (r45, C47)) else (
  (if (x1 - x1 / (16 : Int32) * (16 : Int32)) = (9 : Int32) then (
  (if ((x2 / (2 : Int32)) - (x2 / (2 : Int32)) / (3 : Int32) * (3 : Int32)) ≤ 0 then (
  J_L_act_178 x2 C3 (0 : Int32)) else (
  J_L_act_178 x2 C3 (1 : Int32)))) else (
  (if (x1 - x1 / (16 : Int32) * (16 : Int32)) = (10 : Int32) then (
  b2 (F_L_trySetDraft (x2 - x2 / (2 : Int32) * (2 : Int32)) ((x2 / (2 : Int32)) - (x2 / (2 : Int32)) / (100 : Int32) * (100 : Int32)) C3) fun r53 C55 =>
  some (r53, C55)) else (
  (if (x1 - x1 / (16 : Int32) * (16 : Int32)) = (11 : Int32) then (
  b2 (F_L_tryLock v5 C3) fun r56 C58 =>
  some (r56, C58)) else (
  (if (x1 - x1 / (16 : Int32) * (16 : Int32)) = (12 : Int32) then (
  b2 (F_L_tryUnlock v5 C3) fun r59 C61 =>
  some (r59, C61)) else (
  (if (x1 - x1 / (16 : Int32) * (16 : Int32)) = (13 : Int32) then (
  b2 (F_L_tryPutOff v5 C3) fun r62 C64 =>
  some (r62, C64)) else (
  (if (x1 - x1 / (16 : Int32) * (16 : Int32)) = (14 : Int32) then (
  b2 (F_L_tryUndo  C3) fun r65 C67 =>
  some (r65, C67)) else (
  (if (x2 - x2 / (2 : Int32) * (2 : Int32)) = 0 then (
  b2 (F_L_trySave (1 : Int32) C3) fun r72 C74 =>
  some (r72, C74)) else (
  b2 (F_L_tryRestore (1 : Int32) C3) fun r69 C71 =>
  some (r69, C71))))))))))))))))))))))))))))))))))
def J_L_alike_60 (v10 : Int32) (C30 : Mem) (D31 : Mem) : Option ((Int32 × Int32 × Mem × Mem) ⊕ (Int32 × Int32 × Mem × Mem)) :=
  (if (7 : Int32) < v10 then (
  nm (v10 + (1 : Int32)) fun v33 =>
  some (Sum.inl ((1 : Int32), v33, C30, D31))) else (
  b2 (F_L_tryFlue (v10 / (4 : Int32)) (v10 - v10 / (4 : Int32) * (4 : Int32)) C30) fun r34 C36 =>
  b2 (F_L_tryFlue (v10 / (4 : Int32)) (v10 - v10 / (4 : Int32) * (4 : Int32)) D31) fun r37 D39 =>
  (if r34 = r37 then (
  nm (v10 + (1 : Int32)) fun v42 =>
  some (Sum.inl ((1 : Int32), v42, C36, D39))) else (
  nm (v10 + (1 : Int32)) fun v41 =>
  some (Sum.inl ((0 : Int32), v41, C36, D39))))))
def S_L_alike_19  (v9 : Int32) (v10 : Int32) (C11 : Mem) (D12 : Mem) : Option ((Int32 × Int32 × Mem × Mem) ⊕ (Int32 × Int32 × Mem × Mem)) :=
  (if (17 : Int32) ≤ v10 then (
  some (Sum.inr (v9, v10, C11, D12))) else (
  (if v9 = 0 then (
  nm (v10 + (1 : Int32)) fun v20 =>
  some (Sum.inl ((0 : Int32), v20, C11, D12))) else (
  b2 (F_L_tryAbout v10 C11) fun r21 C23 =>
  b2 (F_L_tryAbout v10 D12) fun r24 D26 =>
  (if r21 = r24 then (
  (if (5 : Int32) < v10 then (
  J_L_alike_60 v10 C23 D26) else (
  b2 (F_L_tryAccount v10 C23) fun r43 C45 =>
  b2 (F_L_tryAccount v10 D26) fun r46 D48 =>
  (if r43 = r46 then (
  J_L_alike_60 v10 C45 D48) else (
  nm (v10 + (1 : Int32)) fun v50 =>
  some (Sum.inl ((0 : Int32), v50, C45, D48))))))) else (
  nm (v10 + (1 : Int32)) fun v28 =>
  some (Sum.inl ((0 : Int32), v28, C23, D26))))))))
def S_L_alike_120 (v52 : Int32) (v65 : Int32) (v66 : Int32) (C67 : Mem) (D68 : Mem) : Option ((Int32 × Int32 × Mem × Mem) ⊕ (Int32 × Int32 × Mem × Mem)) :=
  (if (8 : Int32) ≤ v66 then (
  some (Sum.inr (v65, v66, C67, D68))) else (
  (if v65 = 0 then (
  nm (v66 + (1 : Int32)) fun v76 =>
  some (Sum.inl ((0 : Int32), v76, C67, D68))) else (
  b2 (F_L_tryBoiler v52 v66 C67) fun r77 C79 =>
  b2 (F_L_tryBoiler v52 v66 D68) fun r80 D82 =>
  (if r77 = r80 then (
  nm (v66 + (1 : Int32)) fun v85 =>
  some (Sum.inl ((1 : Int32), v85, C79, D82))) else (
  nm (v66 + (1 : Int32)) fun v84 =>
  some (Sum.inl ((0 : Int32), v84, C79, D82))))))))
def S_L_alike_103  (v51 : Int32) (v52 : Int32) (C53 : Mem) (D54 : Mem) : Option ((Int32 × Int32 × Mem × Mem) ⊕ (Int32 × Int32 × Mem × Mem)) :=
  b2 (F_L_tryAbout (6 : Int32) C53) fun r60 C62 =>
  (if r60 ≤ v52 then (
  some (Sum.inr (v51, v52, C62, D54))) else (
  (if v51 = 0 then (
  some (Sum.inr (v51, v52, C62, D54))) else (
  b1 (iter (fun x => S_L_alike_120 v52 x.1 x.2.1 x.2.2.1 x.2.2.2) 9 (v51, (0 : Int32), C62, D54)) (u4 fun v70 v71 C72 D73 =>
  nm (v52 + (1 : Int32)) fun v86 =>
  some (Sum.inl (v70, v86, C72, D73)))))))
def S_L_alike_168  (v87 : Int32) (v88 : Int32) (C89 : Mem) (D90 : Mem) : Option ((Int32 × Int32 × Mem × Mem) ⊕ (Int32 × Int32 × Mem × Mem)) :=
  b2 (F_L_tryAbout (7 : Int32) C89) fun r96 C98 =>
  (if r96 ≤ v88 then (
  some (Sum.inr (v87, v88, C98, D90))) else (
  (if v87 = 0 then (
  some (Sum.inr (v87, v88, C98, D90))) else (
  b2 (F_L_tryLayer v88 C98) fun r101 C103 =>
  b2 (F_L_tryLayer v88 D90) fun r104 D106 =>
  (if r101 = r104 then (
  nm (v88 + (1 : Int32)) fun v109 =>
  some (Sum.inl ((1 : Int32), v109, C103, D106))) else (
  nm (v88 + (1 : Int32)) fun v108 =>
  some (Sum.inl ((0 : Int32), v108, C103, D106))))))))
def J_L_alike_16 (C3 : Mem) (D6 : Mem) (v8 : Int32) : Option (Int32 × Mem × Mem) :=
  b1 (iter (fun x => S_L_alike_19  x.1 x.2.1 x.2.2.1 x.2.2.2) 18 (v8, (0 : Int32), C3, D6)) (u4 fun v14 v15 C16 D17 =>
  b1 (iter (fun x => S_L_alike_103  x.1 x.2.1 x.2.2.1 x.2.2.2) 6 (v14, (0 : Int32), C16, D17)) (u4 fun v56 v57 C58 D59 =>
  b1 (iter (fun x => S_L_alike_168  x.1 x.2.1 x.2.2.1 x.2.2.2) 9 (v56, (0 : Int32), C58, D59)) (u4 fun v92 v93 C94 D95 =>
  gb v92 (
  some (v92, C94, D95)))))
def F_L_alike  (C D : Mem) : Option (Int32 × Mem × Mem) :=
  b2 (F_X8_next  C) fun r1 C3 =>
  b2 (F_X8_next  D) fun r4 D6 =>
  (if r1 = r4 then (
  J_L_alike_16 C3 D6 (1 : Int32)) else (
  J_L_alike_16 C3 D6 (0 : Int32)))
def J_L_sound_234 (v19 : Int32) (f45 : Nat → Int32) (v48 : Int32) (v52 : Int32) (C82 : Mem)  : Option ((Int32 × Int32 × Int32 × Int32 × Mem × (Nat → Int32)) ⊕ (Int32 × Int32 × Int32 × Int32 × Mem × (Nat → Int32))) :=
  b2 (F_L_tryBoiler v19 (4 : Int32) C82) fun r84 C86 =>
  (if r84 = 0 then (
  nm (v19 + (1 : Int32)) fun v88 =>
  some (Sum.inl (v48, v52, (1 : Int32), v88, C86, f45))) else (
  b2 (F_L_tryBoiler v19 (5 : Int32) C86) fun r89 C91 =>
  (if r89 ≤ 0 then (
  nm (v19 + (1 : Int32)) fun v93 =>
  some (Sum.inl (v48, v52, (0 : Int32), v93, C91, f45))) else (
  nm (v19 + (1 : Int32)) fun v94 =>
  some (Sum.inl (v48, v52, (1 : Int32), v94, C91, f45))))))
def J_L_sound_162 (v19 : Int32) (r31 : Int32) (r34 : Int32) (f45 : Nat → Int32) (v48 : Int32) (C51 : Mem) (v52 : Int32) (v54 : Int32) (v56 : Int32) : Option ((Int32 × Int32 × Int32 × Int32 × Mem × (Nat → Int32)) ⊕ (Int32 × Int32 × Int32 × Int32 × Mem × (Nat → Int32))) :=
  (if v54 = v56 then (
  (if (5 : Int32) < r34 then (
  nm (v19 + (1 : Int32)) fun v60 =>
  some (Sum.inl (v48, v52, (0 : Int32), v60, C51, f45))) else (
  b2 (F_L_tryBoiler v19 (6 : Int32) C51) fun r61 C63 =>
  b2 (F_L_tryBoiler v19 (0 : Int32) C63) fun r64 C66 =>
  b2 (F_L_tryBoiler v19 (4 : Int32) C66) fun r67 C69 =>
  (if r61 < (r64 * r67) then (
  nm (v19 + (1 : Int32)) fun v71 =>
  some (Sum.inl (v48, v52, (0 : Int32), v71, C69, f45))) else (
  b2 (F_L_tryBoiler v19 (4 : Int32) C69) fun r72 C74 =>
  b2 (F_L_tryAbout (8 : Int32) C74) fun r75 C77 =>
  (if r75 < r72 then (
  nm (v19 + (1 : Int32)) fun v79 =>
  some (Sum.inl (v48, v52, (0 : Int32), v79, C77, f45))) else (
  b2 (F_L_tryBoiler v19 (5 : Int32) C77) fun r80 C82 =>
  (if 0 < r80 then (
  J_L_sound_234 v19 f45 v48 v52 C82 ) else (
  (if r31 = 0 then (
  J_L_sound_234 v19 f45 v48 v52 C82 ) else (
  (if r31 = (4 : Int32) then (
  J_L_sound_234 v19 f45 v48 v52 C82 ) else (
  nm (v19 + (1 : Int32)) fun v97 =>
  some (Sum.inl (v48, v52, (0 : Int32), v97, C82, f45))))))))))))))) else (
  nm (v19 + (1 : Int32)) fun v58 =>
  some (Sum.inl (v48, v52, (0 : Int32), v58, C51, f45))))
def J_L_sound_152 (v19 : Int32) (r31 : Int32) (r34 : Int32) (f45 : Nat → Int32) (v48 : Int32) (C51 : Mem) (v52 : Int32) (v54 : Int32) : Option ((Int32 × Int32 × Int32 × Int32 × Mem × (Nat → Int32)) ⊕ (Int32 × Int32 × Int32 × Int32 × Mem × (Nat → Int32))) :=
  (if r34 ≤ 0 then (
  J_L_sound_162 v19 r31 r34 f45 v48 C51 v52 v54 (0 : Int32)) else (
  J_L_sound_162 v19 r31 r34 f45 v48 C51 v52 v54 (1 : Int32)))
def J_L_sound_126 (v16 : Int32) (v17 : Int32) (v19 : Int32) (r31 : Int32) (r34 : Int32) (C43 : Mem) (f45 : Nat → Int32) (v47 : Int32) : Option ((Int32 × Int32 × Int32 × Int32 × Mem × (Nat → Int32)) ⊕ (Int32 × Int32 × Int32 × Int32 × Mem × (Nat → Int32))) :=
  nm (v16 + v47) fun v48 =>
  b2 (F_L_tryBoiler v19 (6 : Int32) C43) fun r49 C51 =>
  nm (v17 + r49) fun v52 =>
  (if r31 = (1 : Int32) then (
  J_L_sound_152 v19 r31 r34 f45 v48 C51 v52 (1 : Int32)) else (
  J_L_sound_152 v19 r31 r34 f45 v48 C51 v52 (0 : Int32)))
def J_L_sound_112 (v16 : Int32) (v17 : Int32) (v19 : Int32) (f22 : Nat → Int32) (r31 : Int32) (r34 : Int32) (r37 : Int32) (v42 : Int32) (C43 : Mem) : Option ((Int32 × Int32 × Int32 × Int32 × Mem × (Nat → Int32)) ⊕ (Int32 × Int32 × Int32 × Int32 × Mem × (Nat → Int32))) :=
  gi r37 2 (
  nm (up f22 (r37).toNatClampNeg ((f22 (r37).toNatClampNeg) + v42)) fun f45 =>
  (if r31 = (2 : Int32) then (
  J_L_sound_126 v16 v17 v19 r31 r34 C43 f45 (1 : Int32)) else (
  J_L_sound_126 v16 v17 v19 r31 r34 C43 f45 (0 : Int32))))
def S_L_sound_50 (r1 : Int32) (v16 : Int32) (v17 : Int32) (v18 : Int32) (v19 : Int32) (C20 : Mem) (f22 : Nat → Int32) : Option ((Int32 × Int32 × Int32 × Int32 × Mem × (Nat → Int32)) ⊕ (Int32 × Int32 × Int32 × Int32 × Mem × (Nat → Int32))) :=
  (if r1 ≤ v19 then (
  some (Sum.inr (v16, v17, v18, v19, C20, f22))) else (
  (if v18 = 0 then (
  some (Sum.inr (v16, v17, v18, v19, C20, f22))) else (
  b2 (F_L_tryBoiler v19 (2 : Int32) C20) fun r31 C33 =>
  b2 (F_L_tryBoiler v19 (3 : Int32) C33) fun r34 C36 =>
  b2 (F_L_tryBoiler v19 (1 : Int32) C36) fun r37 C39 =>
  gi r37 2 (
  (if r31 = (1 : Int32) then (
  b2 (F_L_tryBoiler v19 (0 : Int32) C39) fun r98 C100 =>
  J_L_sound_112 v16 v17 v19 f22 r31 r34 r37 r98 C100) else (
  (if r31 = (2 : Int32) then (
  b2 (F_L_tryBoiler v19 (0 : Int32) C39) fun r102 C104 =>
  J_L_sound_112 v16 v17 v19 f22 r31 r34 r37 r102 C104) else (
  J_L_sound_112 v16 v17 v19 f22 r31 r34 r37 (0 : Int32) C39)))))))))
def J_L_sound_447 (v107 : Int32) (v129 : Int32) (v132 : Int32) (r134 : Int32) (C136 : Mem) (v138 : Int32) : Option ((Int32 × Int32 × Int32 × Mem) ⊕ (Int32 × Int32 × Int32 × Mem)) :=
  (if r134 = v138 then (
  b2 (F_L_tryWhyNot v107 C136) fun r141 C143 =>
  (if r141 = v129 then (
  nm (v107 + (1 : Int32)) fun v146 =>
  some (Sum.inl (v132, (1 : Int32), v146, C143))) else (
  nm (v107 + (1 : Int32)) fun v145 =>
  some (Sum.inl (v132, (0 : Int32), v145, C143))))) else (
  nm (v107 + (1 : Int32)) fun v140 =>
  some (Sum.inl (v132, (0 : Int32), v140, C136))))
def J_L_sound_427 (v107 : Int32) (v126 : Int32) (v129 : Int32) (v132 : Int32) (C133 : Mem) : Option ((Int32 × Int32 × Int32 × Mem) ⊕ (Int32 × Int32 × Int32 × Mem)) :=
  b2 (F_L_tryBoiler v107 (7 : Int32) C133) fun r134 C136 =>
  (if v126 = 0 then (
  J_L_sound_447 v107 v129 v132 r134 C136 (0 : Int32)) else (
  J_L_sound_447 v107 v129 v132 r134 C136 (1 : Int32)))
def J_L_sound_389 (v105 : Int32) (v107 : Int32) (v126 : Int32) (v129 : Int32) (C130 : Mem) : Option ((Int32 × Int32 × Int32 × Mem) ⊕ (Int32 × Int32 × Int32 × Mem)) :=
  (if v129 = 0 then (
  (if v105 = (-9 : Int32) then (
  J_L_sound_427 v107 v126 v129 v107 C130) else (
  b2 (F_L_tryBoiler v107 (4 : Int32) C130) fun r148 C150 =>
  b2 (F_L_tryBoiler v105 (4 : Int32) C150) fun r151 C153 =>
  (if r151 ≤ r148 then (
  J_L_sound_427 v107 v126 v129 v105 C153) else (
  J_L_sound_427 v107 v126 v129 v107 C153))))) else (
  J_L_sound_427 v107 v126 v129 v105 C130))
def J_L_sound_337 (v105 : Int32) (v107 : Int32) (r116 : Int32) (r119 : Int32) (v126 : Int32) (C127 : Mem) : Option ((Int32 × Int32 × Int32 × Mem) ⊕ (Int32 × Int32 × Int32 × Mem)) :=
  (if r119 = (1 : Int32) then (
  J_L_sound_389 v105 v107 v126 (1 : Int32) C127) else (
  (if r119 = (2 : Int32) then (
  J_L_sound_389 v105 v107 v126 (1 : Int32) C127) else (
  (if r119 = (4 : Int32) then (
  J_L_sound_389 v105 v107 v126 (2 : Int32) C127) else (
  (if v126 = 0 then (
  b2 (F_L_tryFlue r116 (2 : Int32) C127) fun r158 C160 =>
  (if r158 = 0 then (
  J_L_sound_389 v105 v107 v126 (3 : Int32) C160) else (
  J_L_sound_389 v105 v107 v126 (4 : Int32) C160))) else (
  J_L_sound_389 v105 v107 v126 (0 : Int32) C127))))))))
def S_L_sound_270 (r1 : Int32) (f28 : Nat → Int32) (v105 : Int32) (v106 : Int32) (v107 : Int32) (C108 : Mem) : Option ((Int32 × Int32 × Int32 × Mem) ⊕ (Int32 × Int32 × Int32 × Mem)) :=
  (if r1 ≤ v107 then (
  some (Sum.inr (v105, v106, v107, C108))) else (
  (if v106 = 0 then (
  some (Sum.inr (v105, v106, v107, C108))) else (
  b2 (F_L_tryBoiler v107 (1 : Int32) C108) fun r116 C118 =>
  b2 (F_L_tryBoiler v107 (2 : Int32) C118) fun r119 C121 =>
  b2 (F_L_tryFlue r116 (2 : Int32) C121) fun r122 C124 =>
  (if r122 = (1 : Int32) then (
  gi r116 2 (
  b2 (F_L_tryBoiler v107 (0 : Int32) C124) fun r163 C165 =>
  b2 (F_L_tryFlue r116 (0 : Int32) C165) fun r166 C168 =>
  (if r166 < ((f28 (r116).toNatClampNeg) + r163) then (
  J_L_sound_337 v105 v107 r116 r119 (0 : Int32) C168) else (
  J_L_sound_337 v105 v107 r116 r119 (1 : Int32) C168)))) else (
  J_L_sound_337 v105 v107 r116 r119 (0 : Int32) C124))))))
def J_L_sound_605  (C211 : Mem) : Option (Int32 × Mem) :=
  b2 (F_L_tryAbout (12 : Int32) C211) fun r212 C214 =>
  b2 (F_L_tryAbout (13 : Int32) C214) fun r215 C217 =>
  (if r215 < r212 then (
  some ((0 : Int32), C217)) else (
  b2 (F_L_tryAbout (13 : Int32) C217) fun r219 C221 =>
  (if (12 : Int32) ≤ r219 then (
  some ((0 : Int32), C221)) else (
  some ((1 : Int32), C221)))))
def J_L_sound_489 (r1 : Int32) (v23 : Int32) (v24 : Int32) (f28 : Nat → Int32) (v110 : Int32) (v111 : Int32) (C172 : Mem) (v174 : Int32) : Option (Int32 × Mem) :=
  (if v111 = 0 then (
  some ((0 : Int32), C172)) else (
  b2 (F_L_tryFlue (0 : Int32) (1 : Int32) C172) fun r176 C178 =>
  (if (f28 ((0 : Int32)).toNatClampNeg) = r176 then (
  b2 (F_L_tryFlue (1 : Int32) (1 : Int32) C178) fun r180 C182 =>
  (if (f28 ((1 : Int32)).toNatClampNeg) = r180 then (
  b2 (F_L_tryAbout (16 : Int32) C182) fun r184 C186 =>
  (if v23 = r184 then (
  b2 (F_L_tryAccount (4 : Int32) C186) fun r188 C190 =>
  (if v24 = r188 then (
  b2 (F_X8_next  C190) fun r192 C194 =>
  (if v110 = r192 then (
  b2 (F_L_tryFlue (0 : Int32) (3 : Int32) C194) fun r196 C198 =>
  b2 (F_L_tryFlue (1 : Int32) (3 : Int32) C198) fun r199 C201 =>
  (if (r196 + r199) = r1 then (
  b2 (F_L_tryAccount (1 : Int32) C201) fun r203 C205 =>
  b2 (F_L_tryAccount (5 : Int32) C205) fun r206 C208 =>
  (if r203 = ((10 : Int32) * r206) then (
  (if v174 = 0 then (
  b2 (F_L_tryAbout (12 : Int32) C208) fun r223 C225 =>
  (if r223 = 0 then (
  b2 (F_L_tryAbout (13 : Int32) C225) fun r227 C229 =>
  (if r227 = 0 then (
  J_L_sound_605  C229) else (
  some ((0 : Int32), C229)))) else (
  some ((0 : Int32), C225)))) else (
  J_L_sound_605  C208))) else (
  some ((0 : Int32), C208)))) else (
  some ((0 : Int32), C201)))) else (
  some ((0 : Int32), C194)))) else (
  some ((0 : Int32), C190)))) else (
  some ((0 : Int32), C186)))) else (
  some ((0 : Int32), C182)))) else (
  some ((0 : Int32), C178)))))
def J_L_sound_45 (r1 : Int32) (C12 : Mem) (v15 : Int32) : Option (Int32 × Mem) :=
  b1 (iter (fun x => S_L_sound_50 r1 x.1 x.2.1 x.2.2.1 x.2.2.2.1 x.2.2.2.2.1 x.2.2.2.2.2) 6 ((0 : Int32), (0 : Int32), v15, (0 : Int32), C12, (fun _ => 0))) (u6 fun v23 v24 v25 v26 C27 f28 =>
  b1 (iter (fun x => S_L_sound_270 r1 f28 x.1 x.2.1 x.2.2.1 x.2.2.2) 6 ((-9 : Int32), v25, (0 : Int32), C27)) (u4 fun v110 v111 v112 C113 =>
  b2 (F_L_tryAbout (11 : Int32) C113) fun r170 C172 =>
  (if r170 = (1 : Int32) then (
  J_L_sound_489 r1 v23 v24 f28 v110 v111 C172 (1 : Int32)) else (
  J_L_sound_489 r1 v23 v24 f28 v110 v111 C172 (0 : Int32)))))
def F_L_sound  (C : Mem) : Option (Int32 × Mem) :=
  b2 (F_L_tryAbout (6 : Int32) C) fun r1 C3 =>
  b2 (F_L_tryAbout (9 : Int32) C3) fun r4 C6 =>
  b2 (F_L_heat  C6) fun r7 C9 =>
  b2 (F_L_tryAbout (7 : Int32) C9) fun r10 C12 =>
  gz r10 (
  (if r4 = (r7 / r10) then (
  J_L_sound_45 r1 C12 (1 : Int32)) else (
  J_L_sound_45 r1 C12 (0 : Int32))))
def S_L_told_134 (xs : Nat → Int32) (L : Nat) (x3 : Int32) (v10 : Int32) (v21 : Int32) (v22 : Int32) (C23 : Mem) (D24 : Mem) : Option ((Int32 × Int32 × Mem × Mem) ⊕ (Int32 × Int32 × Mem × Mem)) :=
  (if v10 ≤ v22 then (
  some (Sum.inr (v21, v22, C23, D24))) else (
  (if v21 = 0 then (
  some (Sum.inr (v21, v22, C23, D24))) else (
  b3 (F_L_number xs L ((x3 + (2 : Int32)) + v22) C23 D24) fun r32 C34 D35 =>
  b3 (F_L_put (98 : Int32) C34 D35) fun r36 C38 D39 =>
  (if r36 = 0 then (
  nm (v22 + (1 : Int32)) fun v41 =>
  some (Sum.inl ((0 : Int32), v41, C38, D39))) else (
  b2 (F_X8_errorPosition  C38) fun r42 C44 =>
  (if r42 = ((7 : Int32) + ((4 : Int32) * v22)) then (
  b3 (F_L_two ((1 : Int32) + (r32 - r32 / (30 : Int32) * (30 : Int32))) C44 D39) fun r47 C49 D50 =>
  (if r47 = 0 then (
  nm (v22 + (1 : Int32)) fun v52 =>
  some (Sum.inl ((0 : Int32), v52, C49, D50))) else (
  b2 (F_X8_errorPosition  C49) fun r53 C55 =>
  (if r53 = ((9 : Int32) + ((4 : Int32) * v22)) then (
  b3 (F_L_put ((48 : Int32) + ((r32 / (32 : Int32)) - (r32 / (32 : Int32)) / (2 : Int32) * (2 : Int32))) C55 D50) fun r58 C60 D61 =>
  (if r58 = 0 then (
  nm (v22 + (1 : Int32)) fun v63 =>
  some (Sum.inl ((0 : Int32), v63, C60, D61))) else (
  b2 (F_X8_errorPosition  C60) fun r64 C66 =>
  (if r64 = (-9 : Int32) then (
  nm (v22 + (1 : Int32)) fun v69 =>
  some (Sum.inl ((1 : Int32), v69, C66, D61))) else (
  nm (v22 + (1 : Int32)) fun v68 =>
  some (Sum.inl ((0 : Int32), v68, C66, D61))))))) else (
  nm (v22 + (1 : Int32)) fun v57 =>
  some (Sum.inl ((0 : Int32), v57, C55, D50))))))) else (
  nm (v22 + (1 : Int32)) fun v46 =>
  some (Sum.inl ((0 : Int32), v46, C44, D39))))))))))
def J_L_told_384 (r1 : Int32) (v9 : Int32) (v10 : Int32) (v72 : Int32) (v73 : Int32) (v74 : Int32) (C75 : Mem) (D76 : Mem) : Option (Int32 × Mem × Mem) :=
  (if v72 = 0 then (
  some ((0 : Int32), C75, D76)) else (
  b2 (F_X8_errorPosition  C75) fun r78 C80 =>
  (if r78 = (-9 : Int32) then (
  b2 (F_L_tryLoad  C80) fun r82 C84 =>
  (if r82 = v10 then (
  b2 (F_L_tryLoad  D76) fun r86 D88 =>
  (if r86 = v10 then (
  b2 (F_L_tryAbout (6 : Int32) C84) fun r90 C92 =>
  (if r90 = v10 then (
  b2 (F_L_tryAbout (7 : Int32) C92) fun r94 C96 =>
  (if r94 = v9 then (
  b2 (F_L_tryLayer (0 : Int32) C96) fun r98 C100 =>
  (if r98 = v74 then (
  b2 (F_L_tryFlue (0 : Int32) (0 : Int32) C100) fun r102 C104 =>
  (if r102 = ((r1 / (64 : Int32)) - (r1 / (64 : Int32)) / (100 : Int32) * (100 : Int32)) then (
  b2 (F_L_tryUndo  C104) fun r106 C108 =>
  (if r106 = (-1003 : Int32) then (
  b2 (F_L_tryRestore (1 : Int32) D88) fun r110 D112 =>
  (if r110 = (-1003 : Int32) then (
  b3 (F_L_put (120 : Int32) C108 D112) fun r114 C116 D117 =>
  (if r114 = 0 then (
  some ((0 : Int32), C116, D117)) else (
  b2 (F_X8_errorPosition  C116) fun r119 C121 =>
  (if r119 = v73 then (
  b2 (F_L_tryLoad  C121) fun r123 C125 =>
  (if r123 = (-1003 : Int32) then (
  some ((1 : Int32), C125, D117)) else (
  some ((0 : Int32), C125, D117)))) else (
  some ((0 : Int32), C121, D117)))))) else (
  some ((0 : Int32), C108, D112)))) else (
  some ((0 : Int32), C108, D88)))) else (
  some ((0 : Int32), C104, D88)))) else (
  some ((0 : Int32), C100, D88)))) else (
  some ((0 : Int32), C96, D88)))) else (
  some ((0 : Int32), C92, D88)))) else (
  some ((0 : Int32), C84, D88)))) else (
  some ((0 : Int32), C84, D76)))) else (
  some ((0 : Int32), C80, D76)))))
def J_L_told_350 (r5 : Int32) (v134 : Int32) (v135 : Int32) (v150 : Int32) (C151 : Mem) (D152 : Mem) : Option ((Int32 × Int32 × Int32 × Mem × Mem) ⊕ (Int32 × Int32 × Int32 × Mem × Mem)) :=
  gz ((1 : Int32) + v135) (
  nm (v134 + ((r5 / ((1 : Int32) + v135)) - (r5 / ((1 : Int32) + v135)) / (6 : Int32) * (6 : Int32))) fun v154 =>
  nm (v135 + (1 : Int32)) fun v155 =>
  some (Sum.inl (v150, v154, v155, C151, D152)))
def S_L_told_307 (r5 : Int32) (v9 : Int32) (v70 : Int32) (v133 : Int32) (v134 : Int32) (v135 : Int32) (C136 : Mem) (D137 : Mem) : Option ((Int32 × Int32 × Int32 × Mem × Mem) ⊕ (Int32 × Int32 × Int32 × Mem × Mem)) :=
  (if v9 ≤ v135 then (
  some (Sum.inr (v133, v134, v135, C136, D137))) else (
  (if v133 = 0 then (
  some (Sum.inr (v133, v134, v135, C136, D137))) else (
  b2 (F_X8_errorPosition  C136) fun r146 C148 =>
  (if r146 = ((v70 + (1 : Int32)) + ((2 : Int32) * v135)) then (
  b3 (F_L_two v134 C148 D137) fun r156 C158 D159 =>
  (if r156 = 0 then (
  J_L_told_350 r5 v134 v135 (0 : Int32) C158 D159) else (
  J_L_told_350 r5 v134 v135 (1 : Int32) C158 D159))) else (
  J_L_told_350 r5 v134 v135 (0 : Int32) C148 D137))))))
def J_L_told_129 (xs : Nat → Int32) (L : Nat) (x3 : Int32) (r1 : Int32) (r5 : Int32) (v9 : Int32) (v10 : Int32) (v18 : Int32) (C19 : Mem) (D20 : Mem) : Option (Int32 × Mem × Mem) :=
  b1 (iter (fun x => S_L_told_134 xs L x3 v10 x.1 x.2.1 x.2.2.1 x.2.2.2) 6 (v18, (0 : Int32), C19, D20)) (u4 fun v26 v27 C28 D29 =>
  nm ((6 : Int32) + ((4 : Int32) * v10)) fun v70 =>
  (if ((r5 / (128 : Int32)) - (r5 / (128 : Int32)) / (3 : Int32) * (3 : Int32)) ≤ 0 then (
  J_L_told_384 r1 v9 v10 v26 v70 (40 : Int32) C28 D29) else (
  (if v26 = 0 then (
  J_L_told_384 r1 v9 v10 v26 v70 (40 : Int32) C28 D29) else (
  nm ((r5 / (512 : Int32)) - (r5 / (512 : Int32)) / (60 : Int32) * (60 : Int32)) fun v128 =>
  b3 (F_L_put (116 : Int32) C28 D29) fun r129 C131 D132 =>
  b1 (iter (fun x => S_L_told_307 r5 v9 v70 x.1 x.2.1 x.2.2.1 x.2.2.2.1 x.2.2.2.2) 9 (r129, v128, (0 : Int32), C131, D132)) (u5 fun v139 v140 v141 C142 D143 =>
  nm (v70 + ((1 : Int32) + ((2 : Int32) * v9))) fun v161 =>
  J_L_told_384 r1 v9 v10 v139 v161 v128 C142 D143))))))
def F_L_told (xs : Nat → Int32) (L : Nat) (x3 : Int32) (C D : Mem) : Option (Int32 × Mem × Mem) :=
  b3 (F_L_number xs L x3 C D) fun r1 C3 D4 =>
  b3 (F_L_number xs L (x3 + (1 : Int32)) C3 D4) fun r5 C7 D8 =>
  nm ((2 : Int32) + (r1 - r1 / (7 : Int32) * (7 : Int32))) fun v9 =>
  nm ((1 : Int32) + ((r1 / (8 : Int32)) - (r1 / (8 : Int32)) / (5 : Int32) * (5 : Int32))) fun v10 =>
  b2 (F_X8_clearText  C7) fun r11 C13 =>
  b2 (F_X8_clearText  D8) fun r14 D16 =>
  (if r11 = r14 then (
  b3 (F_L_put (72 : Int32) C13 D16) fun r162 C164 D165 =>
  (if r162 = 0 then (
  J_L_told_129 xs L x3 r1 r5 v9 v10 (0 : Int32) C164 D165) else (
  b2 (F_X8_errorPosition  C164) fun r167 C169 =>
  (if r167 = (1 : Int32) then (
  b3 (F_L_put ((48 : Int32) + v9) C169 D165) fun r171 C173 D174 =>
  (if r171 = 0 then (
  J_L_told_129 xs L x3 r1 r5 v9 v10 (0 : Int32) C173 D174) else (
  b3 (F_L_two ((r1 / (64 : Int32)) - (r1 / (64 : Int32)) / (100 : Int32) * (100 : Int32)) C173 D174) fun r176 C178 D179 =>
  (if r176 = 0 then (
  J_L_told_129 xs L x3 r1 r5 v9 v10 (0 : Int32) C178 D179) else (
  b2 (F_X8_errorPosition  C178) fun r181 C183 =>
  (if r181 = (4 : Int32) then (
  b3 (F_L_two (r5 - r5 / (100 : Int32) * (100 : Int32)) C183 D179) fun r185 C187 D188 =>
  (if r185 = 0 then (
  J_L_told_129 xs L x3 r1 r5 v9 v10 (0 : Int32) C187 D188) else (
  b2 (F_X8_errorPosition  C187) fun r190 C192 =>
  (if r190 = (6 : Int32) then (
  J_L_told_129 xs L x3 r1 r5 v9 v10 (1 : Int32) C192 D188) else (
  J_L_told_129 xs L x3 r1 r5 v9 v10 (0 : Int32) C192 D188))))) else (
  J_L_told_129 xs L x3 r1 r5 v9 v10 (0 : Int32) C183 D179))))))) else (
  J_L_told_129 xs L x3 r1 r5 v9 v10 (0 : Int32) C169 D165))))) else (
  J_L_told_129 xs L x3 r1 r5 v9 v10 (0 : Int32) C13 D16))
def J_L_hands_170 (v25 : Int32) (v26 : Int32) (C38 : Mem) (v40 : Int32) : Option ((Int32 × Int32 × Mem) ⊕ (Int32 × Int32 × Mem)) :=
  nm (v25 + v40) fun v41 =>
  nm (v26 + (1 : Int32)) fun v42 =>
  some (Sum.inl (v41, v42, C38))
def S_L_hands_125 (r1 : Int32) (v24 : Int32) (v25 : Int32) (v26 : Int32) (C27 : Mem) : Option ((Int32 × Int32 × Mem) ⊕ (Int32 × Int32 × Mem)) :=
  (if r1 ≤ v26 then (
  some (Sum.inr (v25, v26, C27))) else (
  b2 (F_L_tryBoiler v26 (2 : Int32) C27) fun r33 C35 =>
  b2 (F_L_tryBoiler v26 (1 : Int32) C35) fun r36 C38 =>
  (if r36 = v24 then (
  (if r33 ≤ 0 then (
  J_L_hands_170 v25 v26 C38 (0 : Int32)) else (
  (if (4 : Int32) ≤ r33 then (
  J_L_hands_170 v25 v26 C38 (0 : Int32)) else (
  J_L_hands_170 v25 v26 C38 (1 : Int32)))))) else (
  J_L_hands_170 v25 v26 C38 (0 : Int32)))))
def S_L_hands_407 (r1 : Int32) (r57 : Int32) (v60 : Int32) (v61 : Int32) (v62 : Int32) (C63 : Mem) (f65 : Nat → Int32) : Option ((Int32 × Int32 × Int32 × Mem × (Nat → Int32)) ⊕ (Int32 × Int32 × Int32 × Mem × (Nat → Int32))) :=
  (if r1 ≤ v62 then (
  some (Sum.inr (v60, v61, v62, C63, f65))) else (
  (if r57 = (-9 : Int32) then (
  some (Sum.inr (v60, v61, v62, C63, f65))) else (
  (if ((r57 >>> (v62 &&& 31)) &&& (1 : Int32)) = (1 : Int32) then (
  b2 (F_L_tryBoiler v62 (0 : Int32) C63) fun r75 C77 =>
  nm (v60 + r75) fun v78 =>
  nm (v61 + (1 : Int32)) fun v79 =>
  b2 (F_L_tryBoiler v62 (1 : Int32) C77) fun r80 C82 =>
  gi r80 2 (
  b2 (F_L_tryBoiler v62 (0 : Int32) C82) fun r84 C86 =>
  gi r80 2 (
  nm (up f65 (r80).toNatClampNeg ((f65 (r80).toNatClampNeg) + r84)) fun f88 =>
  nm (v62 + (1 : Int32)) fun v89 =>
  some (Sum.inl (v78, v79, v89, C86, f88))))) else (
  nm (v62 + (1 : Int32)) fun v74 =>
  some (Sum.inl (v60, v61, v74, C63, f65))))))))
def J_L_hands_708 (x1 : Int32) (r7 : Int32) (v93 : Int32) (v94 : Int32) (v102 : Int32) (C103 : Mem) : Option (Int32 × Mem) :=
  nm ((1 : Int32) + (x1 - x1 / (30 : Int32) * (30 : Int32))) fun v104 =>
  b2 (F_L_tryCheapestPurge v104 v94 C103) fun r105 C107 =>
  b2 (F_L_purgeFuel r105 v104 v94 r7 C107) fun r108 C110 =>
  b2 (F_L_purgeFuel ((1 : Int32) + ((x1 / (128 : Int32)) - (x1 / (128 : Int32)) / (5 : Int32) * (5 : Int32))) v104 v94 r7 C110) fun r111 C113 =>
  b2 (F_L_tryBearable v104 ((10 : Int32) + (v93 - v93 / (71 : Int32) * (71 : Int32))) C113) fun r114 C116 =>
  (if v102 = 0 then (
  some ((0 : Int32), C116)) else (
  (if r105 < (1 : Int32) then (
  some ((0 : Int32), C116)) else (
  (if (5 : Int32) < r105 then (
  some ((0 : Int32), C116)) else (
  (if r111 < r108 then (
  some ((0 : Int32), C116)) else (
  (if r114 < (-9 : Int32) then (
  some ((0 : Int32), C116)) else (
  (if (5 : Int32) < r114 then (
  some ((0 : Int32), C116)) else (
  b2 (F_L_tryUndo  C116) fun r123 C125 =>
  (if r123 = (-1003 : Int32) then (
  some ((1 : Int32), C125)) else (
  some ((0 : Int32), C125)))))))))))))))
def J_L_hands_646 (x1 : Int32) (r7 : Int32) (v93 : Int32) (v94 : Int32) (r95 : Int32) (v99 : Int32) (C100 : Mem) : Option (Int32 × Mem) :=
  (if r95 ≤ 0 then (
  J_L_hands_708 x1 r7 v93 v94 v99 C100) else (
  (if (97 : Int32) ≤ r95 then (
  J_L_hands_708 x1 r7 v93 v94 v99 C100) else (
  (if v99 = 0 then (
  J_L_hands_708 x1 r7 v93 v94 v99 C100) else (
  b2 (F_L_tryAhead r95 v94 (0 : Int32) C100) fun r129 C131 =>
  (if r129 < v93 then (
  J_L_hands_708 x1 r7 v93 v94 (0 : Int32) C131) else (
  (if r95 = (1 : Int32) then (
  J_L_hands_708 x1 r7 v93 v94 (1 : Int32) C131) else (
  b2 (F_L_tryAhead (r95 - (1 : Int32)) v94 (0 : Int32) C131) fun r134 C136 =>
  (if v93 ≤ r134 then (
  J_L_hands_708 x1 r7 v93 v94 (0 : Int32) C136) else (
  J_L_hands_708 x1 r7 v93 v94 (1 : Int32) C136))))))))))))
def J_L_hands_638 (x1 : Int32) (r7 : Int32) (v93 : Int32) (v94 : Int32) (r95 : Int32) (v139 : Int32) (C142 : Mem) (v144 : Int32) : Option (Int32 × Mem) :=
  (if v139 = v144 then (
  J_L_hands_646 x1 r7 v93 v94 r95 (1 : Int32) C142) else (
  J_L_hands_646 x1 r7 v93 v94 r95 (0 : Int32) C142))
def J_L_hands_622 (x1 : Int32) (r7 : Int32) (v93 : Int32) (v94 : Int32) (r95 : Int32) (C97 : Mem) (v139 : Int32) : Option (Int32 × Mem) :=
  b2 (F_L_tryAbout (9 : Int32) C97) fun r140 C142 =>
  (if r140 < v93 then (
  J_L_hands_638 x1 r7 v93 v94 r95 v139 C142 (0 : Int32)) else (
  J_L_hands_638 x1 r7 v93 v94 r95 v139 C142 (1 : Int32)))
def J_L_hands_576 (x1 : Int32) (r7 : Int32) (v91 : Int32) (C92 : Mem) : Option (Int32 × Mem) :=
  nm ((x1 / (64 : Int32)) - (x1 / (64 : Int32)) / (100 : Int32) * (100 : Int32)) fun v93 =>
  nm ((x1 / (8192 : Int32)) - (x1 / (8192 : Int32)) / (6 : Int32) * (6 : Int32)) fun v94 =>
  b2 (F_L_tryWarmAfter v93 v94 C92) fun r95 C97 =>
  (if v91 = 0 then (
  J_L_hands_646 x1 r7 v93 v94 r95 (0 : Int32) C97) else (
  (if r95 = 0 then (
  J_L_hands_622 x1 r7 v93 v94 r95 C97 (1 : Int32)) else (
  J_L_hands_622 x1 r7 v93 v94 r95 C97 (0 : Int32)))))
def J_L_hands_371 (x1 : Int32) (r1 : Int32) (r7 : Int32) (v54 : Int32) (C55 : Mem) : Option (Int32 × Mem) :=
  nm ((1 : Int32) + ((x1 / (16 : Int32)) - (x1 / (16 : Int32)) / (80 : Int32) * (80 : Int32))) fun v56 =>
  b2 (F_L_trySmallestSet v56 (1 : Int32) C55) fun r57 C59 =>
  b1 (iter (fun x => S_L_hands_407 r1 r57 x.1 x.2.1 x.2.2.1 x.2.2.2.1 x.2.2.2.2) 6 ((0 : Int32), (0 : Int32), (0 : Int32), C59, (fun _ => 0))) (u5 fun v66 v67 v68 C69 f70 =>
  (if v54 = 0 then (
  J_L_hands_576 x1 r7 (0 : Int32) C69) else (
  (if r57 = (-9 : Int32) then (
  b2 (F_L_trySmallestSet v56 (0 : Int32) C69) fun r161 C163 =>
  (if r161 = (-9 : Int32) then (
  (if v56 = (150 : Int32) then (
  J_L_hands_576 x1 r7 (1 : Int32) C163) else (
  b2 (F_L_trySmallestSet (v56 + (1 : Int32)) (1 : Int32) C163) fun r166 C168 =>
  (if r166 = (-9 : Int32) then (
  J_L_hands_576 x1 r7 (1 : Int32) C168) else (
  J_L_hands_576 x1 r7 (0 : Int32) C168))))) else (
  J_L_hands_576 x1 r7 (0 : Int32) C163))) else (
  b2 (F_L_trySmallestSet v56 (0 : Int32) C69) fun r147 C149 =>
  (if r147 = v66 then (
  (if v66 < v56 then (
  J_L_hands_576 x1 r7 (0 : Int32) C149) else (
  (if v67 ≤ 0 then (
  J_L_hands_576 x1 r7 (0 : Int32) C149) else (
  b2 (F_L_tryFlue (0 : Int32) (0 : Int32) C149) fun r153 C155 =>
  (if r153 < (f70 ((0 : Int32)).toNatClampNeg) then (
  J_L_hands_576 x1 r7 (0 : Int32) C155) else (
  b2 (F_L_tryFlue (1 : Int32) (0 : Int32) C155) fun r157 C159 =>
  (if r157 < (f70 ((1 : Int32)).toNatClampNeg) then (
  J_L_hands_576 x1 r7 (0 : Int32) C159) else (
  J_L_hands_576 x1 r7 (1 : Int32) C159))))))))) else (
  J_L_hands_576 x1 r7 (0 : Int32) C149)))))))
def J_L_hands_349 (x1 : Int32) (r1 : Int32) (r7 : Int32) (C171 : Mem) : Option (Int32 × Mem) :=
  b2 (F_L_sound  C171) fun r172 C174 =>
  (if r172 = 0 then (
  J_L_hands_371 x1 r1 r7 (0 : Int32) C174) else (
  b2 (F_L_tryRestore (0 : Int32) C174) fun r176 C178 =>
  (if r176 = r7 then (
  J_L_hands_371 x1 r1 r7 (1 : Int32) C178) else (
  J_L_hands_371 x1 r1 r7 (0 : Int32) C178))))
def J_L_hands_249 (x1 : Int32) (r1 : Int32) (r7 : Int32) (v46 : Int32) (C47 : Mem) : Option (Int32 × Mem) :=
  gz r1 (
  nm ((x1 / (2 : Int32)) - (x1 / (2 : Int32)) / r1 * r1) fun v49 =>
  b2 (F_L_tryBoiler v49 (2 : Int32) C47) fun r50 C52 =>
  (if v46 = 0 then (
  J_L_hands_371 x1 r1 r7 (0 : Int32) C52) else (
  (if r50 = (4 : Int32) then (
  b2 (F_L_tryUnlock v49 C52) fun r196 C198 =>
  (if r196 < 0 then (
  J_L_hands_371 x1 r1 r7 (0 : Int32) C198) else (
  b2 (F_L_tryBoiler v49 (2 : Int32) C198) fun r200 C202 =>
  (if r200 = 0 then (
  b2 (F_L_tryLock v49 C202) fun r204 C206 =>
  (if r204 = 0 then (
  J_L_hands_349 x1 r1 r7 C206) else (
  J_L_hands_371 x1 r1 r7 (0 : Int32) C206))) else (
  J_L_hands_371 x1 r1 r7 (0 : Int32) C202))))) else (
  b2 (F_L_tryLock v49 C52) fun r180 C182 =>
  (if r180 = r50 then (
  b2 (F_L_tryWhyNot v49 C182) fun r184 C186 =>
  (if r184 = (2 : Int32) then (
  b2 (F_L_tryUnlock v49 C186) fun r188 C190 =>
  (if r188 < 0 then (
  J_L_hands_371 x1 r1 r7 (0 : Int32) C190) else (
  b2 (F_L_tryBoiler v49 (2 : Int32) C190) fun r192 C194 =>
  (if r192 = 0 then (
  J_L_hands_349 x1 r1 r7 C194) else (
  J_L_hands_371 x1 r1 r7 (0 : Int32) C194))))) else (
  J_L_hands_371 x1 r1 r7 (0 : Int32) C186))) else (
  J_L_hands_371 x1 r1 r7 (0 : Int32) C182)))))))
def J_L_hands_112 (x1 : Int32) (r1 : Int32) (r7 : Int32) (v22 : Int32) (C23 : Mem) : Option (Int32 × Mem) :=
  nm (x1 - x1 / (2 : Int32) * (2 : Int32)) fun v24 =>
  b1 (iter (fun x => S_L_hands_125 r1 v24 x.1 x.2.1 x.2.2) 6 ((0 : Int32), (0 : Int32), C23)) (u3 fun v29 v30 C31 =>
  (if v22 = 0 then (
  J_L_hands_249 x1 r1 r7 (0 : Int32) C31) else (
  b2 (F_L_trySetFlue v24 (0 : Int32) C31) fun r208 C210 =>
  (if r208 = v29 then (
  b2 (F_L_tryFlue v24 (1 : Int32) C210) fun r212 C214 =>
  (if r212 = 0 then (
  b2 (F_L_trySetFlue v24 (1 : Int32) C214) fun r216 C218 =>
  (if r216 = 0 then (
  b2 (F_L_tryFlue v24 (2 : Int32) C218) fun r220 C222 =>
  (if r220 = (1 : Int32) then (
  b2 (F_L_sound  C222) fun r224 C226 =>
  (if r224 = 0 then (
  J_L_hands_249 x1 r1 r7 (0 : Int32) C226) else (
  b2 (F_L_tryRestore (0 : Int32) C226) fun r228 C230 =>
  (if r228 = r7 then (
  J_L_hands_249 x1 r1 r7 (1 : Int32) C230) else (
  J_L_hands_249 x1 r1 r7 (0 : Int32) C230))))) else (
  J_L_hands_249 x1 r1 r7 (0 : Int32) C222))) else (
  J_L_hands_249 x1 r1 r7 (0 : Int32) C218))) else (
  J_L_hands_249 x1 r1 r7 (0 : Int32) C214))) else (
  J_L_hands_249 x1 r1 r7 (0 : Int32) C210)))))
def J_L_hands_37 (x1 : Int32) (r1 : Int32) (r4 : Int32) (r7 : Int32) (C12 : Mem) (v14 : Int32) : Option (Int32 × Mem) :=
  b2 (F_L_tryLayer (r4 - (1 : Int32)) C12) fun r15 C17 =>
  b2 (F_L_tryLayer (0 : Int32) C17) fun r18 C20 =>
  (if v14 = 0 then (
  J_L_hands_112 x1 r1 r7 (0 : Int32) C20) else (
  b2 (F_L_tryDraw (1 : Int32) C20) fun r232 C234 =>
  (if r232 = r15 then (
  b2 (F_L_tryLayer (0 : Int32) C234) fun r236 C238 =>
  (if r236 = (10 : Int32) then (
  b2 (F_L_tryLayer (1 : Int32) C238) fun r240 C242 =>
  (if r240 = r18 then (
  b2 (F_L_tryUndo  C242) fun r244 C246 =>
  (if r244 < 0 then (
  J_L_hands_112 x1 r1 r7 (0 : Int32) C246) else (
  b2 (F_L_tryLayer (0 : Int32) C246) fun r248 C250 =>
  (if r248 = r18 then (
  J_L_hands_112 x1 r1 r7 (1 : Int32) C250) else (
  J_L_hands_112 x1 r1 r7 (0 : Int32) C250))))) else (
  J_L_hands_112 x1 r1 r7 (0 : Int32) C242))) else (
  J_L_hands_112 x1 r1 r7 (0 : Int32) C238))) else (
  J_L_hands_112 x1 r1 r7 (0 : Int32) C234))))
def F_L_hands (x1 : Int32) (C : Mem) : Option (Int32 × Mem) :=
  b2 (F_L_tryAbout (6 : Int32) C) fun r1 C3 =>
  b2 (F_L_tryAbout (7 : Int32) C3) fun r4 C6 =>
  b2 (F_L_tryAbout (8 : Int32) C6) fun r7 C9 =>
  b2 (F_L_trySave (0 : Int32) C9) fun r10 C12 =>
  (if r10 = r7 then (
  J_L_hands_37 x1 r1 r4 r7 C12 (1 : Int32)) else (
  J_L_hands_37 x1 r1 r4 r7 C12 (0 : Int32)))
def S_L_ticks_206 (r1 : Int32) (v77 : Int32) (C78 : Mem) (f80 : Nat → Int32) : Option ((Int32 × Mem × (Nat → Int32)) ⊕ (Int32 × Mem × (Nat → Int32))) :=
  (if r1 ≤ v77 then (
  some (Sum.inr (v77, C78, f80))) else (
  b2 (F_L_tryBoiler v77 (2 : Int32) C78) fun r85 C87 =>
  gi ((4 : Int32) * v77) 20 (
  nm (up f80 (((4 : Int32) * v77)).toNatClampNeg r85) fun f89 =>
  b2 (F_L_tryBoiler v77 (5 : Int32) C87) fun r90 C92 =>
  gi (((4 : Int32) * v77) + (1 : Int32)) 20 (
  nm (up f89 ((((4 : Int32) * v77) + (1 : Int32))).toNatClampNeg r90) fun f94 =>
  b2 (F_L_tryBoiler v77 (4 : Int32) C92) fun r95 C97 =>
  gi (((4 : Int32) * v77) + (2 : Int32)) 20 (
  nm (up f94 ((((4 : Int32) * v77) + (2 : Int32))).toNatClampNeg r95) fun f99 =>
  b2 (F_L_tryBoiler v77 (6 : Int32) C97) fun r100 C102 =>
  gi (((4 : Int32) * v77) + (3 : Int32)) 20 (
  nm (up f99 ((((4 : Int32) * v77) + (3 : Int32))).toNatClampNeg r100) fun f104 =>
  nm (v77 + (1 : Int32)) fun v105 =>
  some (Sum.inl (v105, C102, f104))))))))
def J_L_ticks_653 (f83 : Nat → Int32) (v116 : Int32) (v133 : Int32) (r140 : Int32) (v145 : Int32) (v149 : Int32) (v153 : Int32) (v156 : Int32) (C172 : Mem)  : Option ((Int32 × Int32 × Int32 × Int32 × Int32 × Int32 × Mem) ⊕ (Int32 × Int32 × Int32 × Int32 × Int32 × Int32 × Mem)) :=
  gi ((4 : Int32) * v116) 20 (
  (if (f83 (((4 : Int32) * v116)).toNatClampNeg) = (3 : Int32) then (
  (if v133 = 0 then (
  (if r140 = (3 : Int32) then (
  nm (v116 + (1 : Int32)) fun v185 =>
  some (Sum.inl (v156, (1 : Int32), v145, v149, v153, v185, C172))) else (
  nm (v116 + (1 : Int32)) fun v184 =>
  some (Sum.inl (v156, (0 : Int32), v145, v149, v153, v184, C172))))) else (
  nm (v116 + (1 : Int32)) fun v182 =>
  some (Sum.inl (v156, (1 : Int32), v145, v149, v153, v182, C172))))) else (
  nm (v116 + (1 : Int32)) fun v180 =>
  some (Sum.inl (v156, (1 : Int32), v145, v149, v153, v180, C172)))))
def J_L_ticks_636 (f83 : Nat → Int32) (v116 : Int32) (v133 : Int32) (r140 : Int32) (v145 : Int32) (v149 : Int32) (v153 : Int32) (v156 : Int32) (C172 : Mem)  : Option ((Int32 × Int32 × Int32 × Int32 × Int32 × Int32 × Mem) ⊕ (Int32 × Int32 × Int32 × Int32 × Int32 × Int32 × Mem)) :=
  gi ((4 : Int32) * v116) 20 (
  (if (f83 (((4 : Int32) * v116)).toNatClampNeg) = (4 : Int32) then (
  (if r140 = (4 : Int32) then (
  J_L_ticks_653 f83 v116 v133 r140 v145 v149 v153 v156 C172 ) else (
  nm (v116 + (1 : Int32)) fun v187 =>
  some (Sum.inl (v156, (0 : Int32), v145, v149, v153, v187, C172))))) else (
  J_L_ticks_653 f83 v116 v133 r140 v145 v149 v153 v156 C172 )))
def J_L_ticks_607 (f83 : Nat → Int32) (v116 : Int32) (v133 : Int32) (r140 : Int32) (v145 : Int32) (v149 : Int32) (v153 : Int32) (v156 : Int32) (r166 : Int32) (v171 : Int32) (C172 : Mem) : Option ((Int32 × Int32 × Int32 × Int32 × Int32 × Int32 × Mem) ⊕ (Int32 × Int32 × Int32 × Int32 × Int32 × Int32 × Mem)) :=
  (if (r166 - (f83 ((((4 : Int32) * v116) + (3 : Int32))).toNatClampNeg)) = v171 then (
  (if v133 = 0 then (
  J_L_ticks_636 f83 v116 v133 r140 v145 v149 v153 v156 C172 ) else (
  gi ((4 : Int32) * v116) 20 (
  (if (f83 (((4 : Int32) * v116)).toNatClampNeg) = 0 then (
  J_L_ticks_636 f83 v116 v133 r140 v145 v149 v153 v156 C172 ) else (
  gi ((4 : Int32) * v116) 20 (
  (if (f83 (((4 : Int32) * v116)).toNatClampNeg) = (3 : Int32) then (
  J_L_ticks_636 f83 v116 v133 r140 v145 v149 v153 v156 C172 ) else (
  nm (v116 + (1 : Int32)) fun v192 =>
  some (Sum.inl (v156, (0 : Int32), v145, v149, v153, v192, C172))))))))))) else (
  nm (v116 + (1 : Int32)) fun v174 =>
  some (Sum.inl (v156, (0 : Int32), v145, v149, v153, v174, C172))))
def J_L_ticks_560 (f83 : Nat → Int32) (v116 : Int32) (v133 : Int32) (v139 : Int32) (r140 : Int32) (v145 : Int32) (v149 : Int32) (v153 : Int32) (v156 : Int32) (C160 : Mem) (v163 : Int32) : Option ((Int32 × Int32 × Int32 × Int32 × Int32 × Int32 × Mem) ⊕ (Int32 × Int32 × Int32 × Int32 × Int32 × Int32 × Mem)) :=
  (if v139 = v163 then (
  b2 (F_L_tryBoiler v116 (6 : Int32) C160) fun r166 C168 =>
  gi (((4 : Int32) * v116) + (3 : Int32)) 20 (
  (if v139 = 0 then (
  (if r140 = (3 : Int32) then (
  J_L_ticks_607 f83 v116 v133 r140 v145 v149 v153 v156 r166 (1 : Int32) C168) else (
  J_L_ticks_607 f83 v116 v133 r140 v145 v149 v153 v156 r166 (0 : Int32) C168))) else (
  b2 (F_L_tryBoiler v116 (0 : Int32) C168) fun r194 C196 =>
  J_L_ticks_607 f83 v116 v133 r140 v145 v149 v153 v156 r166 r194 C196)))) else (
  nm (v116 + (1 : Int32)) fun v165 =>
  some (Sum.inl (v156, (0 : Int32), v145, v149, v153, v165, C160))))
def J_L_ticks_520 (f83 : Nat → Int32) (v116 : Int32) (v133 : Int32) (v139 : Int32) (r140 : Int32) (v145 : Int32) (v149 : Int32) (v153 : Int32) (v156 : Int32) (C160 : Mem) : Option ((Int32 × Int32 × Int32 × Int32 × Int32 × Int32 × Mem) ⊕ (Int32 × Int32 × Int32 × Int32 × Int32 × Int32 × Mem)) :=
  gi ((4 : Int32) * v116) 20 (
  (if (f83 (((4 : Int32) * v116)).toNatClampNeg) = (2 : Int32) then (
  (if r140 = (2 : Int32) then (
  J_L_ticks_560 f83 v116 v133 v139 r140 v145 v149 v153 v156 C160 (1 : Int32)) else (
  gi ((4 : Int32) * v116) 20 (
  (if (f83 (((4 : Int32) * v116)).toNatClampNeg) = (3 : Int32) then (
  (if v133 = 0 then (
  J_L_ticks_560 f83 v116 v133 v139 r140 v145 v149 v153 v156 C160 (0 : Int32)) else (
  J_L_ticks_560 f83 v116 v133 v139 r140 v145 v149 v153 v156 C160 (1 : Int32)))) else (
  J_L_ticks_560 f83 v116 v133 v139 r140 v145 v149 v153 v156 C160 (0 : Int32))))))) else (
  gi ((4 : Int32) * v116) 20 (
  (if (f83 (((4 : Int32) * v116)).toNatClampNeg) = (3 : Int32) then (
  (if v133 = 0 then (
  J_L_ticks_560 f83 v116 v133 v139 r140 v145 v149 v153 v156 C160 (0 : Int32)) else (
  J_L_ticks_560 f83 v116 v133 v139 r140 v145 v149 v153 v156 C160 (1 : Int32)))) else (
  J_L_ticks_560 f83 v116 v133 v139 r140 v145 v149 v153 v156 C160 (0 : Int32)))))))
def J_L_ticks_496 (f83 : Nat → Int32) (v116 : Int32) (v133 : Int32) (v139 : Int32) (r140 : Int32) (v145 : Int32) (v149 : Int32) (v153 : Int32) (v156 : Int32) (C158 : Mem) : Option ((Int32 × Int32 × Int32 × Int32 × Int32 × Int32 × Mem) ⊕ (Int32 × Int32 × Int32 × Int32 × Int32 × Int32 × Mem)) :=
  (if v139 = 0 then (
  b2 (F_L_tryBoiler v116 (4 : Int32) C158) fun r204 C206 =>
  gi (((4 : Int32) * v116) + (2 : Int32)) 20 (
  (if r204 = (f83 ((((4 : Int32) * v116) + (2 : Int32))).toNatClampNeg) then (
  J_L_ticks_520 f83 v116 v133 v139 r140 v145 v149 v153 v156 C206) else (
  nm (v116 + (1 : Int32)) fun v209 =>
  some (Sum.inl (v156, (0 : Int32), v145, v149, v153, v209, C206)))))) else (
  J_L_ticks_520 f83 v116 v133 v139 r140 v145 v149 v153 v156 C158))
def J_L_ticks_469 (f83 : Nat → Int32) (v111 : Int32) (v116 : Int32) (v133 : Int32) (v139 : Int32) (r140 : Int32) (v145 : Int32) (v149 : Int32) (C152 : Mem) (v153 : Int32) (v155 : Int32) : Option ((Int32 × Int32 × Int32 × Int32 × Int32 × Int32 × Mem) ⊕ (Int32 × Int32 × Int32 × Int32 × Int32 × Int32 × Mem)) :=
  nm (v111 - v155) fun v156 =>
  (if v133 = 0 then (
  b2 (F_L_tryBoiler v116 (5 : Int32) C152) fun r210 C212 =>
  gi (((4 : Int32) * v116) + (1 : Int32)) 20 (
  (if r210 = (f83 ((((4 : Int32) * v116) + (1 : Int32))).toNatClampNeg) then (
  J_L_ticks_496 f83 v116 v133 v139 r140 v145 v149 v153 v156 C212) else (
  nm (v116 + (1 : Int32)) fun v215 =>
  some (Sum.inl (v156, (0 : Int32), v145, v149, v153, v215, C212)))))) else (
  J_L_ticks_496 f83 v116 v133 v139 r140 v145 v149 v153 v156 C152))
def J_L_ticks_454 (f83 : Nat → Int32) (v111 : Int32) (v115 : Int32) (v116 : Int32) (v133 : Int32) (v139 : Int32) (r140 : Int32) (v145 : Int32) (v149 : Int32) (v151 : Int32) (C152 : Mem) : Option ((Int32 × Int32 × Int32 × Int32 × Int32 × Int32 × Mem) ⊕ (Int32 × Int32 × Int32 × Int32 × Int32 × Int32 × Mem)) :=
  nm (v115 + v151) fun v153 =>
  (if v133 = 0 then (
  J_L_ticks_469 f83 v111 v116 v133 v139 r140 v145 v149 C152 v153 (0 : Int32)) else (
  J_L_ticks_469 f83 v111 v116 v133 v139 r140 v145 v149 C152 v153 (1 : Int32)))
def J_L_ticks_433 (f83 : Nat → Int32) (v111 : Int32) (v114 : Int32) (v115 : Int32) (v116 : Int32) (v133 : Int32) (v139 : Int32) (r140 : Int32) (C142 : Mem) (v145 : Int32) (v148 : Int32) : Option ((Int32 × Int32 × Int32 × Int32 × Int32 × Int32 × Mem) ⊕ (Int32 × Int32 × Int32 × Int32 × Int32 × Int32 × Mem)) :=
  nm (v114 + v148) fun v149 =>
  (if v139 = 0 then (
  J_L_ticks_454 f83 v111 v115 v116 v133 v139 r140 v145 v149 (0 : Int32) C142) else (
  b2 (F_L_tryBoiler v116 (0 : Int32) C142) fun r216 C218 =>
  J_L_ticks_454 f83 v111 v115 v116 v133 v139 r140 v145 v149 r216 C218))
def J_L_ticks_406 (f83 : Nat → Int32) (v111 : Int32) (v113 : Int32) (v114 : Int32) (v115 : Int32) (v116 : Int32) (v133 : Int32) (v139 : Int32) (r140 : Int32) (C142 : Mem) (v144 : Int32) : Option ((Int32 × Int32 × Int32 × Int32 × Int32 × Int32 × Mem) ⊕ (Int32 × Int32 × Int32 × Int32 × Int32 × Int32 × Mem)) :=
  nm (v113 + v144) fun v145 =>
  gi ((4 : Int32) * v116) 20 (
  (if (f83 (((4 : Int32) * v116)).toNatClampNeg) = (2 : Int32) then (
  (if r140 = (3 : Int32) then (
  J_L_ticks_433 f83 v111 v114 v115 v116 v133 v139 r140 C142 v145 (1 : Int32)) else (
  J_L_ticks_433 f83 v111 v114 v115 v116 v133 v139 r140 C142 v145 (0 : Int32)))) else (
  J_L_ticks_433 f83 v111 v114 v115 v116 v133 v139 r140 C142 v145 (0 : Int32))))
def J_L_ticks_383 (f83 : Nat → Int32) (v111 : Int32) (v113 : Int32) (v114 : Int32) (v115 : Int32) (v116 : Int32) (v133 : Int32) (C136 : Mem) (v139 : Int32) : Option ((Int32 × Int32 × Int32 × Int32 × Int32 × Int32 × Mem) ⊕ (Int32 × Int32 × Int32 × Int32 × Int32 × Int32 × Mem)) :=
  b2 (F_L_tryBoiler v116 (2 : Int32) C136) fun r140 C142 =>
  (if v133 = 0 then (
  J_L_ticks_406 f83 v111 v113 v114 v115 v116 v133 v139 r140 C142 (0 : Int32)) else (
  J_L_ticks_406 f83 v111 v113 v114 v115 v116 v133 v139 r140 C142 (1 : Int32)))
def J_L_ticks_355 (f83 : Nat → Int32) (v111 : Int32) (v113 : Int32) (v114 : Int32) (v115 : Int32) (v116 : Int32) (C130 : Mem) (v133 : Int32) : Option ((Int32 × Int32 × Int32 × Int32 × Int32 × Int32 × Mem) ⊕ (Int32 × Int32 × Int32 × Int32 × Int32 × Int32 × Mem)) :=
  b2 (F_L_tryBoiler v116 (4 : Int32) C130) fun r134 C136 =>
  gi (((4 : Int32) * v116) + (2 : Int32)) 20 (
  (if r134 = ((f83 ((((4 : Int32) * v116) + (2 : Int32))).toNatClampNeg) + (1 : Int32)) then (
  J_L_ticks_383 f83 v111 v113 v114 v115 v116 v133 C136 (1 : Int32)) else (
  J_L_ticks_383 f83 v111 v113 v114 v115 v116 v133 C136 (0 : Int32))))
def S_L_ticks_318 (r1 : Int32) (f83 : Nat → Int32) (v111 : Int32) (v112 : Int32) (v113 : Int32) (v114 : Int32) (v115 : Int32) (v116 : Int32) (C117 : Mem) : Option ((Int32 × Int32 × Int32 × Int32 × Int32 × Int32 × Mem) ⊕ (Int32 × Int32 × Int32 × Int32 × Int32 × Int32 × Mem)) :=
  (if r1 ≤ v116 then (
  some (Sum.inr (v111, v112, v113, v114, v115, v116, C117))) else (
  (if v112 = 0 then (
  some (Sum.inr (v111, v112, v113, v114, v115, v116, C117))) else (
  b2 (F_L_tryBoiler v116 (5 : Int32) C117) fun r128 C130 =>
  gi (((4 : Int32) * v116) + (1 : Int32)) 20 (
  (if r128 = ((f83 ((((4 : Int32) * v116) + (1 : Int32))).toNatClampNeg) + (1 : Int32)) then (
  J_L_ticks_355 f83 v111 v113 v114 v115 v116 C130 (1 : Int32)) else (
  J_L_ticks_355 f83 v111 v113 v114 v115 v116 C130 (0 : Int32))))))))
def S_L_ticks_905  (v238 : Int32) (v239 : Int32) (C240 : Mem) : Option ((Int32 × Int32 × Mem) ⊕ (Int32 × Int32 × Mem)) :=
  b2 (F_L_tryAbout (7 : Int32) C240) fun r245 C247 =>
  (if r245 ≤ v239 then (
  some (Sum.inr (v238, v239, C247))) else (
  (if v238 = 0 then (
  some (Sum.inr (v238, v239, C247))) else (
  b2 (F_L_tryLayer (v239 - (1 : Int32)) C247) fun r250 C252 =>
  b2 (F_L_tryLayer v239 C252) fun r253 C255 =>
  (if r253 < r250 then (
  nm (v239 + (1 : Int32)) fun v257 =>
  some (Sum.inl ((0 : Int32), v257, C255))) else (
  nm (v239 + (1 : Int32)) fun v258 =>
  some (Sum.inl ((1 : Int32), v258, C255))))))))
def J_L_ticks_900 (v32 : Int32) (v110 : Int32) (v119 : Int32) (v236 : Int32) (C237 : Mem) : Option ((Int32 × Int32 × Int32 × Int32 × Mem) ⊕ (Int32 × Int32 × Int32 × Int32 × Mem)) :=
  b1 (iter (fun x => S_L_ticks_905  x.1 x.2.1 x.2.2) 8 (v236, (1 : Int32), C237)) (u3 fun v242 v243 C244 =>
  nm (v32 + (1 : Int32)) fun v259 =>
  some (Sum.inl (v119, v110, v242, v259, C244)))
def J_L_ticks_885 (v32 : Int32) (v110 : Int32) (v119 : Int32) (v234 : Int32) (C283 : Mem) (v290 : Int32) : Option ((Int32 × Int32 × Int32 × Int32 × Mem) ⊕ (Int32 × Int32 × Int32 × Int32 × Mem)) :=
  (if v290 < v234 then (
  J_L_ticks_900 v32 v110 v119 (0 : Int32) C283) else (
  b2 (F_L_sound  C283) fun r292 C294 =>
  (if r292 = 0 then (
  J_L_ticks_900 v32 v110 v119 (0 : Int32) C294) else (
  J_L_ticks_900 v32 v110 v119 (1 : Int32) C294))))
def J_L_ticks_860 (v32 : Int32) (v64 : Int32) (v69 : Int32) (v110 : Int32) (v119 : Int32) (v227 : Int32) (v234 : Int32) (C283 : Mem) (v286 : Int32) : Option ((Int32 × Int32 × Int32 × Int32 × Mem) ⊕ (Int32 × Int32 × Int32 × Int32 × Mem)) :=
  (if v227 = v286 then (
  (if v234 < 0 then (
  J_L_ticks_900 v32 v110 v119 (0 : Int32) C283) else (
  (if v69 = 0 then (
  (if v64 = 0 then (
  J_L_ticks_885 v32 v110 v119 v234 C283 (0 : Int32)) else (
  J_L_ticks_885 v32 v110 v119 v234 C283 (1 : Int32)))) else (
  J_L_ticks_885 v32 v110 v119 v234 C283 (1 : Int32)))))) else (
  J_L_ticks_900 v32 v110 v119 (0 : Int32) C283))
def J_L_ticks_770 (v5 : Int32) (v32 : Int32) (r42 : Int32) (r45 : Int32) (r48 : Int32) (r51 : Int32) (r54 : Int32) (v64 : Int32) (v69 : Int32) (v110 : Int32) (v119 : Int32) (v123 : Int32) (v227 : Int32) (C233 : Mem) (v234 : Int32)  : Option ((Int32 × Int32 × Int32 × Int32 × Mem) ⊕ (Int32 × Int32 × Int32 × Int32 × Mem)) :=
  b2 (F_L_tryAccount (0 : Int32) C233) fun r264 C266 =>
  (if r264 = (r54 + v123) then (
  b2 (F_L_heat  C266) fun r268 C270 =>
  b2 (F_L_tryAccount (1 : Int32) C270) fun r271 C273 =>
  b2 (F_L_tryAccount (2 : Int32) C273) fun r274 C276 =>
  b2 (F_L_tryAccount (3 : Int32) C276) fun r277 C279 =>
  (if r268 = (((((((r42 + v123) + r271) - r45) - r274) + r48) - r277) + r51) then (
  b2 (F_L_tryAccount (1 : Int32) C279) fun r281 C283 =>
  (if r281 = (r45 + ((10 : Int32) * v5)) then (
  (if v69 = 0 then (
  (if v64 = 0 then (
  J_L_ticks_860 v32 v64 v69 v110 v119 v227 v234 C283 (0 : Int32)) else (
  (if v234 = 0 then (
  J_L_ticks_860 v32 v64 v69 v110 v119 v227 v234 C283 (1 : Int32)) else (
  J_L_ticks_860 v32 v64 v69 v110 v119 v227 v234 C283 (0 : Int32)))))) else (
  (if v234 = 0 then (
  J_L_ticks_860 v32 v64 v69 v110 v119 v227 v234 C283 (1 : Int32)) else (
  J_L_ticks_860 v32 v64 v69 v110 v119 v227 v234 C283 (0 : Int32)))))) else (
  J_L_ticks_900 v32 v110 v119 (0 : Int32) C283))) else (
  J_L_ticks_900 v32 v110 v119 (0 : Int32) C279))) else (
  J_L_ticks_900 v32 v110 v119 (0 : Int32) C266))
def J_L_ticks_711 (v5 : Int32) (v32 : Int32) (r42 : Int32) (r45 : Int32) (r48 : Int32) (r51 : Int32) (r54 : Int32) (v64 : Int32) (v69 : Int32) (v76 : Int32) (v110 : Int32) (v119 : Int32) (v120 : Int32) (v121 : Int32) (v122 : Int32) (v123 : Int32) (r220 : Int32) (C225 : Mem) (v227 : Int32) : Option ((Int32 × Int32 × Int32 × Int32 × Mem) ⊕ (Int32 × Int32 × Int32 × Int32 × Mem)) :=
  b2 (F_L_tryAbout (14 : Int32) C225) fun r228 C230 =>
  b2 (F_L_tryAbout (15 : Int32) C230) fun r231 C233 =>
  nm ((r228 + r231) - v76) fun v234 =>
  (if v120 = 0 then (
  J_L_ticks_900 v32 v110 v119 (0 : Int32) C233) else (
  (if (1 : Int32) < v121 then (
  J_L_ticks_900 v32 v110 v119 (0 : Int32) C233) else (
  (if (1 : Int32) < v122 then (
  J_L_ticks_900 v32 v110 v119 (0 : Int32) C233) else (
  (if (1 : Int32) < (v121 + v122) then (
  J_L_ticks_900 v32 v110 v119 (0 : Int32) C233) else (
  (if r220 = 0 then (
  J_L_ticks_770 v5 v32 r42 r45 r48 r51 r54 v64 v69 v110 v119 v123 v227 C233 v234 ) else (
  (if (v121 + v122) = 0 then (
  J_L_ticks_770 v5 v32 r42 r45 r48 r51 r54 v64 v69 v110 v119 v123 v227 C233 v234 ) else (
  J_L_ticks_900 v32 v110 v119 (0 : Int32) C233))))))))))))
def J_L_ticks_304 (r1 : Int32) (v5 : Int32) (v29 : Int32) (v31 : Int32) (v32 : Int32) (r42 : Int32) (r45 : Int32) (r48 : Int32) (r51 : Int32) (r54 : Int32) (v64 : Int32) (v69 : Int32) (v76 : Int32) (f83 : Nat → Int32) (C108 : Mem) (v110 : Int32) : Option ((Int32 × Int32 × Int32 × Int32 × Mem) ⊕ (Int32 × Int32 × Int32 × Int32 × Mem)) :=
  b1 (iter (fun x => S_L_ticks_318 r1 f83 x.1 x.2.1 x.2.2.1 x.2.2.2.1 x.2.2.2.2.1 x.2.2.2.2.2.1 x.2.2.2.2.2.2) 6 (v29, v31, (0 : Int32), (0 : Int32), (0 : Int32), (0 : Int32), C108)) (u7 fun v119 v120 v121 v122 v123 v124 C125 =>
  b2 (F_L_tryAbout (10 : Int32) C125) fun r220 C222 =>
  b2 (F_L_tryAbout (11 : Int32) C222) fun r223 C225 =>
  (if r223 = (1 : Int32) then (
  J_L_ticks_711 v5 v32 r42 r45 r48 r51 r54 v64 v69 v76 v110 v119 v120 v121 v122 v123 r220 C225 (1 : Int32)) else (
  J_L_ticks_711 v5 v32 r42 r45 r48 r51 r54 v64 v69 v76 v110 v119 v120 v121 v122 v123 r220 C225 (0 : Int32))))
def J_L_ticks_180 (r1 : Int32) (v5 : Int32) (v29 : Int32) (v30 : Int32) (v31 : Int32) (v32 : Int32) (r42 : Int32) (r45 : Int32) (r48 : Int32) (r51 : Int32) (r54 : Int32) (v64 : Int32) (C67 : Mem) (v69 : Int32) : Option ((Int32 × Int32 × Int32 × Int32 × Mem) ⊕ (Int32 × Int32 × Int32 × Int32 × Mem)) :=
  b2 (F_L_tryAbout (14 : Int32) C67) fun r70 C72 =>
  b2 (F_L_tryAbout (15 : Int32) C72) fun r73 C75 =>
  nm (r70 + r73) fun v76 =>
  b1 (iter (fun x => S_L_ticks_206 r1 x.1 x.2.1 x.2.2) 6 ((0 : Int32), C75, (fun _ => 0))) (u3 fun v81 C82 f83 =>
  b2 (F_L_tryTick (1 : Int32) v5 C82) fun r106 C108 =>
  (if v30 ≤ r106 then (
  J_L_ticks_304 r1 v5 v29 v31 v32 r42 r45 r48 r51 r54 v64 v69 v76 f83 C108 v30) else (
  J_L_ticks_304 r1 v5 v29 v31 v32 r42 r45 r48 r51 r54 v64 v69 v76 f83 C108 r106)))
def J_L_ticks_163 (r1 : Int32) (v5 : Int32) (v29 : Int32) (v30 : Int32) (v31 : Int32) (v32 : Int32) (r42 : Int32) (r45 : Int32) (r48 : Int32) (r51 : Int32) (r54 : Int32) (C62 : Mem) (v64 : Int32) : Option ((Int32 × Int32 × Int32 × Int32 × Mem) ⊕ (Int32 × Int32 × Int32 × Int32 × Mem)) :=
  b2 (F_L_tryAbout (11 : Int32) C62) fun r65 C67 =>
  (if r65 = (1 : Int32) then (
  J_L_ticks_180 r1 v5 v29 v30 v31 v32 r42 r45 r48 r51 r54 v64 C67 (1 : Int32)) else (
  J_L_ticks_180 r1 v5 v29 v30 v31 v32 r42 r45 r48 r51 r54 v64 C67 (0 : Int32)))
def S_L_ticks_96 (r1 : Int32) (v4 : Int32) (v5 : Int32) (v29 : Int32) (v30 : Int32) (v31 : Int32) (v32 : Int32) (C33 : Mem) : Option ((Int32 × Int32 × Int32 × Int32 × Mem) ⊕ (Int32 × Int32 × Int32 × Int32 × Mem)) :=
  (if v4 ≤ v32 then (
  some (Sum.inr (v29, v30, v31, v32, C33))) else (
  (if v31 = 0 then (
  some (Sum.inr (v29, v30, v31, v32, C33))) else (
  b2 (F_L_heat  C33) fun r42 C44 =>
  b2 (F_L_tryAccount (1 : Int32) C44) fun r45 C47 =>
  b2 (F_L_tryAccount (2 : Int32) C47) fun r48 C50 =>
  b2 (F_L_tryAccount (3 : Int32) C50) fun r51 C53 =>
  b2 (F_L_tryAccount (0 : Int32) C53) fun r54 C56 =>
  b2 (F_L_tryAbout (8 : Int32) C56) fun r57 C59 =>
  b2 (F_L_tryAbout (5 : Int32) C59) fun r60 C62 =>
  (if (r57 - r57 / (24 : Int32) * (24 : Int32)) = r60 then (
  J_L_ticks_163 r1 v5 v29 v30 v31 v32 r42 r45 r48 r51 r54 C62 (1 : Int32)) else (
  J_L_ticks_163 r1 v5 v29 v30 v31 v32 r42 r45 r48 r51 r54 C62 (0 : Int32)))))))
def F_L_ticks (x1 : Int32) (C : Mem) : Option (Int32 × Mem) :=
  b2 (F_L_tryAbout (6 : Int32) C) fun r1 C3 =>
  nm ((1 : Int32) + (x1 - x1 / (20 : Int32) * (20 : Int32))) fun v4 =>
  nm ((x1 / (32 : Int32)) - (x1 / (32 : Int32)) / (4 : Int32) * (4 : Int32)) fun v5 =>
  b2 (F_L_tryAhead v4 v5 (0 : Int32) C3) fun r6 C8 =>
  b2 (F_L_tryAhead v4 v5 (6 : Int32) C8) fun r9 C11 =>
  b2 (F_L_tryAhead v4 v5 (3 : Int32) C11) fun r12 C14 =>
  b2 (F_L_tryAccount (4 : Int32) C14) fun r15 C17 =>
  nm (r12 + r15) fun v18 =>
  b2 (F_L_tryAhead v4 v5 (4 : Int32) C17) fun r19 C21 =>
  b2 (F_L_tryAhead v4 v5 (5 : Int32) C21) fun r22 C24 =>
  b2 (F_L_tryAbout (14 : Int32) C24) fun r25 C27 =>
  nm (r22 + r25) fun v28 =>
  b1 (iter (fun x => S_L_ticks_96 r1 v4 v5 x.1 x.2.1 x.2.2.1 x.2.2.2.1 x.2.2.2.2) 21 (r19, (99 : Int32), (1 : Int32), (0 : Int32), C27)) (u5 fun v35 v36 v37 v38 C39 =>
  (if v37 = 0 then (
  some ((0 : Int32), C39)) else (
  b2 (F_L_tryAbout (9 : Int32) C39) fun r302 C304 =>
  (if r302 = r6 then (
  (if v36 = r9 then (
  b2 (F_L_tryAccount (4 : Int32) C304) fun r307 C309 =>
  (if r307 = v18 then (
  (if v35 = 0 then (
  b2 (F_L_tryAbout (14 : Int32) C309) fun r312 C314 =>
  (if r312 = v28 then (
  some ((1 : Int32), C314)) else (
  some ((0 : Int32), C314)))) else (
  some ((0 : Int32), C309)))) else (
  some ((0 : Int32), C309)))) else (
  some ((0 : Int32), C304)))) else (
  some ((0 : Int32), C304))))))
