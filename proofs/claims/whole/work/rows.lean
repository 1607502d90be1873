section
-- ===== PART A: goes FIRST, ahead of the names: the tables' words, and 'selects' of the private methods out of them =====
/-- a private method of a class that the tables say can be made, by its rows of tables_1 -/
def lw_okq (q : MethodName × Nat) : Prop := (q.1.cls ≠ "java/lang/invoke/MethodHandle" ∧ q.1.cls ≠ "java/lang/invoke/VarHandle") ∧ Cond.instantiable q.1.cls q.2 ∈ tables_1 ∧ Cond.privateMethod q.1 ∈ tables_1 ∧ Cond.instanceMethod q.1 ∈ tables_1
theorem lw_p0 : lw_okq (⟨"BoilerCascade$Plan", "fillTemperatures", "()V"⟩, 11) := ⟨⟨by decide +kernel, by decide +kernel⟩, List.mem_of_getElem? (i := 28) (by decide +kernel), List.mem_of_getElem? (i := 34) (by decide +kernel), List.mem_of_getElem? (i := 35) (by decide +kernel)⟩
theorem lw_p1 : lw_okq (⟨"BoilerCascade$Plan", "readSign", "(I)V"⟩, 11) := ⟨⟨by decide +kernel, by decide +kernel⟩, List.mem_of_getElem? (i := 28) (by decide +kernel), List.mem_of_getElem? (i := 341) (by decide +kernel), List.mem_of_getElem? (i := 342) (by decide +kernel)⟩
theorem lw_p2 : lw_okq (⟨"BoilerCascade$Plan", "sees", "(I)Z"⟩, 11) := ⟨⟨by decide +kernel, by decide +kernel⟩, List.mem_of_getElem? (i := 28) (by decide +kernel), List.mem_of_getElem? (i := 345) (by decide +kernel), List.mem_of_getElem? (i := 346) (by decide +kernel)⟩
theorem lw_p3 : lw_okq (⟨"BoilerCascade$Plan", "hasMore", "()Z"⟩, 11) := ⟨⟨by decide +kernel, by decide +kernel⟩, List.mem_of_getElem? (i := 28) (by decide +kernel), List.mem_of_getElem? (i := 349) (by decide +kernel), List.mem_of_getElem? (i := 350) (by decide +kernel)⟩
theorem lw_p4 : lw_okq (⟨"BoilerCascade$Plan", "readDigit", "(II)I"⟩, 11) := ⟨⟨by decide +kernel, by decide +kernel⟩, List.mem_of_getElem? (i := 28) (by decide +kernel), List.mem_of_getElem? (i := 353) (by decide +kernel), List.mem_of_getElem? (i := 354) (by decide +kernel)⟩
theorem lw_p5 : lw_okq (⟨"BoilerCascade$Plan", "readNumber", "(II)I"⟩, 11) := ⟨⟨by decide +kernel, by decide +kernel⟩, List.mem_of_getElem? (i := 28) (by decide +kernel), List.mem_of_getElem? (i := 357) (by decide +kernel), List.mem_of_getElem? (i := 358) (by decide +kernel)⟩
theorem lw_p6 : lw_okq (⟨"BoilerCascade$Plan", "readBoiler", "(I)V"⟩, 11) := ⟨⟨by decide +kernel, by decide +kernel⟩, List.mem_of_getElem? (i := 28) (by decide +kernel), List.mem_of_getElem? (i := 361) (by decide +kernel), List.mem_of_getElem? (i := 362) (by decide +kernel)⟩
theorem lw_p7 : lw_okq (⟨"BoilerCascade$Plan", "readTemperatures", "()V"⟩, 11) := ⟨⟨by decide +kernel, by decide +kernel⟩, List.mem_of_getElem? (i := 28) (by decide +kernel), List.mem_of_getElem? (i := 365) (by decide +kernel), List.mem_of_getElem? (i := 366) (by decide +kernel)⟩
theorem lw_p8 : lw_okq (⟨"java/lang/Throwable", "fillInStackTrace", "(I)Ljava/lang/Throwable;"⟩, 6) := ⟨⟨by decide +kernel, by decide +kernel⟩, List.mem_of_getElem? (i := 444) (by decide +kernel), List.mem_of_getElem? (i := 442) (by decide +kernel), List.mem_of_getElem? (i := 443) (by decide +kernel)⟩
theorem lw_p9 : lw_okq (⟨"BoilerCascade", "requireBoiler", "(I)V"⟩, 6) := ⟨⟨by decide +kernel, by decide +kernel⟩, List.mem_of_getElem? (i := 20) (by decide +kernel), List.mem_of_getElem? (i := 529) (by decide +kernel), List.mem_of_getElem? (i := 530) (by decide +kernel)⟩
theorem lw_p10 : lw_okq (⟨"BoilerCascade$Plant", "control", "(I)V"⟩, 9) := ⟨⟨by decide +kernel, by decide +kernel⟩, List.mem_of_getElem? (i := 81) (by decide +kernel), List.mem_of_getElem? (i := 637) (by decide +kernel), List.mem_of_getElem? (i := 638) (by decide +kernel)⟩
theorem lw_p11 : lw_okq (⟨"BoilerCascade$Plant", "whyNoneStarts", "()I"⟩, 9) := ⟨⟨by decide +kernel, by decide +kernel⟩, List.mem_of_getElem? (i := 81) (by decide +kernel), List.mem_of_getElem? (i := 648) (by decide +kernel), List.mem_of_getElem? (i := 649) (by decide +kernel)⟩
theorem lw_p12 : lw_okq (⟨"BoilerCascade$Plant", "powerAt", "(II)I"⟩, 9) := ⟨⟨by decide +kernel, by decide +kernel⟩, List.mem_of_getElem? (i := 81) (by decide +kernel), List.mem_of_getElem? (i := 783) (by decide +kernel), List.mem_of_getElem? (i := 784) (by decide +kernel)⟩
theorem lw_p13 : lw_okq (⟨"BoilerCascade", "staysHot", "(III)Z"⟩, 6) := ⟨⟨by decide +kernel, by decide +kernel⟩, List.mem_of_getElem? (i := 20) (by decide +kernel), List.mem_of_getElem? (i := 830) (by decide +kernel), List.mem_of_getElem? (i := 831) (by decide +kernel)⟩
theorem lw_p14 : lw_okq (⟨"BoilerCascade", "isAllowed", "(III)Z"⟩, 6) := ⟨⟨by decide +kernel, by decide +kernel⟩, List.mem_of_getElem? (i := 20) (by decide +kernel), List.mem_of_getElem? (i := 851) (by decide +kernel), List.mem_of_getElem? (i := 852) (by decide +kernel)⟩
theorem lw_p15 : lw_okq (⟨"BoilerCascade", "carryOut", "(III)V"⟩, 6) := ⟨⟨by decide +kernel, by decide +kernel⟩, List.mem_of_getElem? (i := 20) (by decide +kernel), List.mem_of_getElem? (i := 855) (by decide +kernel), List.mem_of_getElem? (i := 856) (by decide +kernel)⟩
def lw_privs_1 : List (MethodName × Nat) := [(⟨"BoilerCascade$Plan", "fillTemperatures", "()V"⟩, 11), (⟨"BoilerCascade$Plan", "readSign", "(I)V"⟩, 11), (⟨"BoilerCascade$Plan", "sees", "(I)Z"⟩, 11), (⟨"BoilerCascade$Plan", "hasMore", "()Z"⟩, 11), (⟨"BoilerCascade$Plan", "readDigit", "(II)I"⟩, 11), (⟨"BoilerCascade$Plan", "readNumber", "(II)I"⟩, 11), (⟨"BoilerCascade$Plan", "readBoiler", "(I)V"⟩, 11), (⟨"BoilerCascade$Plan", "readTemperatures", "()V"⟩, 11), (⟨"java/lang/Throwable", "fillInStackTrace", "(I)Ljava/lang/Throwable;"⟩, 6), (⟨"BoilerCascade", "requireBoiler", "(I)V"⟩, 6), (⟨"BoilerCascade$Plant", "control", "(I)V"⟩, 9), (⟨"BoilerCascade$Plant", "whyNoneStarts", "()I"⟩, 9), (⟨"BoilerCascade$Plant", "powerAt", "(II)I"⟩, 9), (⟨"BoilerCascade", "staysHot", "(III)Z"⟩, 6), (⟨"BoilerCascade", "isAllowed", "(III)Z"⟩, 6), (⟨"BoilerCascade", "carryOut", "(III)V"⟩, 6)]
theorem lw_r1 : ∀ q ∈ lw_privs_1, lw_okq q := List.forall_mem_cons.mpr ⟨lw_p0, List.forall_mem_cons.mpr ⟨lw_p1, List.forall_mem_cons.mpr ⟨lw_p2, List.forall_mem_cons.mpr ⟨lw_p3, List.forall_mem_cons.mpr ⟨lw_p4, List.forall_mem_cons.mpr ⟨lw_p5, List.forall_mem_cons.mpr ⟨lw_p6, List.forall_mem_cons.mpr ⟨lw_p7, List.forall_mem_cons.mpr ⟨lw_p8, List.forall_mem_cons.mpr ⟨lw_p9, List.forall_mem_cons.mpr ⟨lw_p10, List.forall_mem_cons.mpr ⟨lw_p11, List.forall_mem_cons.mpr ⟨lw_p12, List.forall_mem_cons.mpr ⟨lw_p13, List.forall_mem_cons.mpr ⟨lw_p14, List.forall_mem_cons.mpr ⟨lw_p15, fun _ h => absurd h List.not_mem_nil⟩⟩⟩⟩⟩⟩⟩⟩⟩⟩⟩⟩⟩⟩⟩⟩
theorem lw_p16 : lw_okq (⟨"BoilerCascadeModel", "refused", "(I)Z"⟩, 15) := ⟨⟨by decide +kernel, by decide +kernel⟩, List.mem_of_getElem? (i := 887) (by decide +kernel), List.mem_of_getElem? (i := 957) (by decide +kernel), List.mem_of_getElem? (i := 958) (by decide +kernel)⟩
theorem lw_p17 : lw_okq (⟨"BoilerCascadeModel", "readAll", "()Z"⟩, 15) := ⟨⟨by decide +kernel, by decide +kernel⟩, List.mem_of_getElem? (i := 887) (by decide +kernel), List.mem_of_getElem? (i := 969) (by decide +kernel), List.mem_of_getElem? (i := 970) (by decide +kernel)⟩
theorem lw_p18 : lw_okq (⟨"BoilerCascadeModel", "eat", "(I)Z"⟩, 15) := ⟨⟨by decide +kernel, by decide +kernel⟩, List.mem_of_getElem? (i := 887) (by decide +kernel), List.mem_of_getElem? (i := 973) (by decide +kernel), List.mem_of_getElem? (i := 974) (by decide +kernel)⟩
theorem lw_p19 : lw_okq (⟨"BoilerCascadeModel", "digit", "(II)I"⟩, 15) := ⟨⟨by decide +kernel, by decide +kernel⟩, List.mem_of_getElem? (i := 887) (by decide +kernel), List.mem_of_getElem? (i := 977) (by decide +kernel), List.mem_of_getElem? (i := 978) (by decide +kernel)⟩
theorem lw_p20 : lw_okq (⟨"BoilerCascadeModel", "two", "(II)I"⟩, 15) := ⟨⟨by decide +kernel, by decide +kernel⟩, List.mem_of_getElem? (i := 887) (by decide +kernel), List.mem_of_getElem? (i := 981) (by decide +kernel), List.mem_of_getElem? (i := 982) (by decide +kernel)⟩
theorem lw_p21 : lw_okq (⟨"BoilerCascadeModel", "readBoilers", "()Z"⟩, 15) := ⟨⟨by decide +kernel, by decide +kernel⟩, List.mem_of_getElem? (i := 887) (by decide +kernel), List.mem_of_getElem? (i := 985) (by decide +kernel), List.mem_of_getElem? (i := 986) (by decide +kernel)⟩
theorem lw_p22 : lw_okq (⟨"BoilerCascadeModel", "meanOf", "([I)I"⟩, 15) := ⟨⟨by decide +kernel, by decide +kernel⟩, List.mem_of_getElem? (i := 887) (by decide +kernel), List.mem_of_getElem? (i := 1004) (by decide +kernel), List.mem_of_getElem? (i := 1005) (by decide +kernel)⟩
theorem lw_p23 : lw_okq (⟨"BoilerCascadeModel", "count", "([II)I"⟩, 15) := ⟨⟨by decide +kernel, by decide +kernel⟩, List.mem_of_getElem? (i := 887) (by decide +kernel), List.mem_of_getElem? (i := 1008) (by decide +kernel), List.mem_of_getElem? (i := 1009) (by decide +kernel)⟩
theorem lw_p24 : lw_okq (⟨"BoilerCascadeModel", "isBoiler", "(I)Z"⟩, 15) := ⟨⟨by decide +kernel, by decide +kernel⟩, List.mem_of_getElem? (i := 887) (by decide +kernel), List.mem_of_getElem? (i := 1016) (by decide +kernel), List.mem_of_getElem? (i := 1017) (by decide +kernel)⟩
theorem lw_p25 : lw_okq (⟨"BoilerCascadeModel", "canStart", "([II)Z"⟩, 15) := ⟨⟨by decide +kernel, by decide +kernel⟩, List.mem_of_getElem? (i := 887) (by decide +kernel), List.mem_of_getElem? (i := 1021) (by decide +kernel), List.mem_of_getElem? (i := 1022) (by decide +kernel)⟩
theorem lw_p26 : lw_okq (⟨"BoilerCascadeModel", "use", "([II)I"⟩, 15) := ⟨⟨by decide +kernel, by decide +kernel⟩, List.mem_of_getElem? (i := 887) (by decide +kernel), List.mem_of_getElem? (i := 1025) (by decide +kernel), List.mem_of_getElem? (i := 1026) (by decide +kernel)⟩
theorem lw_p27 : lw_okq (⟨"BoilerCascadeModel", "fuelOf", "([I)I"⟩, 15) := ⟨⟨by decide +kernel, by decide +kernel⟩, List.mem_of_getElem? (i := 887) (by decide +kernel), List.mem_of_getElem? (i := 1046) (by decide +kernel), List.mem_of_getElem? (i := 1047) (by decide +kernel)⟩
theorem lw_p28 : lw_okq (⟨"BoilerCascadeModel", "note", "()V"⟩, 15) := ⟨⟨by decide +kernel, by decide +kernel⟩, List.mem_of_getElem? (i := 887) (by decide +kernel), List.mem_of_getElem? (i := 1058) (by decide +kernel), List.mem_of_getElem? (i := 1059) (by decide +kernel)⟩
theorem lw_p29 : lw_okq (⟨"BoilerCascadeModel", "ticksOn", "([III)V"⟩, 15) := ⟨⟨by decide +kernel, by decide +kernel⟩, List.mem_of_getElem? (i := 887) (by decide +kernel), List.mem_of_getElem? (i := 1062) (by decide +kernel), List.mem_of_getElem? (i := 1063) (by decide +kernel)⟩
theorem lw_p30 : lw_okq (⟨"BoilerCascadeModel", "tickOn", "([II)V"⟩, 15) := ⟨⟨by decide +kernel, by decide +kernel⟩, List.mem_of_getElem? (i := 887) (by decide +kernel), List.mem_of_getElem? (i := 1066) (by decide +kernel), List.mem_of_getElem? (i := 1067) (by decide +kernel)⟩
theorem lw_p31 : lw_okq (⟨"BoilerCascadeModel", "drawOn", "([II)I"⟩, 15) := ⟨⟨by decide +kernel, by decide +kernel⟩, List.mem_of_getElem? (i := 887) (by decide +kernel), List.mem_of_getElem? (i := 1070) (by decide +kernel), List.mem_of_getElem? (i := 1071) (by decide +kernel)⟩
def lw_privs_2 : List (MethodName × Nat) := [(⟨"BoilerCascadeModel", "refused", "(I)Z"⟩, 15), (⟨"BoilerCascadeModel", "readAll", "()Z"⟩, 15), (⟨"BoilerCascadeModel", "eat", "(I)Z"⟩, 15), (⟨"BoilerCascadeModel", "digit", "(II)I"⟩, 15), (⟨"BoilerCascadeModel", "two", "(II)I"⟩, 15), (⟨"BoilerCascadeModel", "readBoilers", "()Z"⟩, 15), (⟨"BoilerCascadeModel", "meanOf", "([I)I"⟩, 15), (⟨"BoilerCascadeModel", "count", "([II)I"⟩, 15), (⟨"BoilerCascadeModel", "isBoiler", "(I)Z"⟩, 15), (⟨"BoilerCascadeModel", "canStart", "([II)Z"⟩, 15), (⟨"BoilerCascadeModel", "use", "([II)I"⟩, 15), (⟨"BoilerCascadeModel", "fuelOf", "([I)I"⟩, 15), (⟨"BoilerCascadeModel", "note", "()V"⟩, 15), (⟨"BoilerCascadeModel", "ticksOn", "([III)V"⟩, 15), (⟨"BoilerCascadeModel", "tickOn", "([II)V"⟩, 15), (⟨"BoilerCascadeModel", "drawOn", "([II)I"⟩, 15)]
theorem lw_r2 : ∀ q ∈ lw_privs_2, lw_okq q := List.forall_mem_cons.mpr ⟨lw_p16, List.forall_mem_cons.mpr ⟨lw_p17, List.forall_mem_cons.mpr ⟨lw_p18, List.forall_mem_cons.mpr ⟨lw_p19, List.forall_mem_cons.mpr ⟨lw_p20, List.forall_mem_cons.mpr ⟨lw_p21, List.forall_mem_cons.mpr ⟨lw_p22, List.forall_mem_cons.mpr ⟨lw_p23, List.forall_mem_cons.mpr ⟨lw_p24, List.forall_mem_cons.mpr ⟨lw_p25, List.forall_mem_cons.mpr ⟨lw_p26, List.forall_mem_cons.mpr ⟨lw_p27, List.forall_mem_cons.mpr ⟨lw_p28, List.forall_mem_cons.mpr ⟨lw_p29, List.forall_mem_cons.mpr ⟨lw_p30, List.forall_mem_cons.mpr ⟨lw_p31, fun _ h => absurd h List.not_mem_nil⟩⟩⟩⟩⟩⟩⟩⟩⟩⟩⟩⟩⟩⟩⟩⟩
theorem lw_p32 : lw_okq (⟨"BoilerCascadeModel", "control", "([I)V"⟩, 15) := ⟨⟨by decide +kernel, by decide +kernel⟩, List.mem_of_getElem? (i := 887) (by decide +kernel), List.mem_of_getElem? (i := 1074) (by decide +kernel), List.mem_of_getElem? (i := 1075) (by decide +kernel)⟩
theorem lw_p33 : lw_okq (⟨"BoilerCascadeModel", "nextOf", "([I)I"⟩, 15) := ⟨⟨by decide +kernel, by decide +kernel⟩, List.mem_of_getElem? (i := 887) (by decide +kernel), List.mem_of_getElem? (i := 1078) (by decide +kernel), List.mem_of_getElem? (i := 1079) (by decide +kernel)⟩
theorem lw_p34 : lw_okq (⟨"BoilerCascadeModel", "reasonOf", "([I)I"⟩, 15) := ⟨⟨by decide +kernel, by decide +kernel⟩, List.mem_of_getElem? (i := 887) (by decide +kernel), List.mem_of_getElem? (i := 1085) (by decide +kernel), List.mem_of_getElem? (i := 1086) (by decide +kernel)⟩
theorem lw_p35 : lw_okq (⟨"BoilerCascadeModel", "startOn", "([II)V"⟩, 15) := ⟨⟨by decide +kernel, by decide +kernel⟩, List.mem_of_getElem? (i := 887) (by decide +kernel), List.mem_of_getElem? (i := 1089) (by decide +kernel), List.mem_of_getElem? (i := 1090) (by decide +kernel)⟩
theorem lw_p36 : lw_okq (⟨"BoilerCascadeModel", "work", "([II)V"⟩, 15) := ⟨⟨by decide +kernel, by decide +kernel⟩, List.mem_of_getElem? (i := 887) (by decide +kernel), List.mem_of_getElem? (i := 1093) (by decide +kernel), List.mem_of_getElem? (i := 1094) (by decide +kernel)⟩
theorem lw_p37 : lw_okq (⟨"BoilerCascadeModel", "heat", "([II)V"⟩, 15) := ⟨⟨by decide +kernel, by decide +kernel⟩, List.mem_of_getElem? (i := 887) (by decide +kernel), List.mem_of_getElem? (i := 1097) (by decide +kernel), List.mem_of_getElem? (i := 1098) (by decide +kernel)⟩
theorem lw_p38 : lw_okq (⟨"BoilerCascadeModel", "settle", "([I)V"⟩, 15) := ⟨⟨by decide +kernel, by decide +kernel⟩, List.mem_of_getElem? (i := 887) (by decide +kernel), List.mem_of_getElem? (i := 1101) (by decide +kernel), List.mem_of_getElem? (i := 1102) (by decide +kernel)⟩
theorem lw_p39 : lw_okq (⟨"BoilerCascadeModel", "watch", "([I)V"⟩, 15) := ⟨⟨by decide +kernel, by decide +kernel⟩, List.mem_of_getElem? (i := 887) (by decide +kernel), List.mem_of_getElem? (i := 1105) (by decide +kernel), List.mem_of_getElem? (i := 1106) (by decide +kernel)⟩
theorem lw_p40 : lw_okq (⟨"BoilerCascadeModel", "flueOn", "([IIZ)I"⟩, 15) := ⟨⟨by decide +kernel, by decide +kernel⟩, List.mem_of_getElem? (i := 887) (by decide +kernel), List.mem_of_getElem? (i := 1131) (by decide +kernel), List.mem_of_getElem? (i := 1132) (by decide +kernel)⟩
theorem lw_p41 : lw_okq (⟨"BoilerCascadeModel", "startsOf", "([I)I"⟩, 15) := ⟨⟨by decide +kernel, by decide +kernel⟩, List.mem_of_getElem? (i := 887) (by decide +kernel), List.mem_of_getElem? (i := 1177) (by decide +kernel), List.mem_of_getElem? (i := 1178) (by decide +kernel)⟩
theorem lw_p42 : lw_okq (⟨"BoilerCascadeModel", "does", "(III)Z"⟩, 15) := ⟨⟨by decide +kernel, by decide +kernel⟩, List.mem_of_getElem? (i := 887) (by decide +kernel), List.mem_of_getElem? (i := 1201) (by decide +kernel), List.mem_of_getElem? (i := 1202) (by decide +kernel)⟩
def lw_privs_3 : List (MethodName × Nat) := [(⟨"BoilerCascadeModel", "control", "([I)V"⟩, 15), (⟨"BoilerCascadeModel", "nextOf", "([I)I"⟩, 15), (⟨"BoilerCascadeModel", "reasonOf", "([I)I"⟩, 15), (⟨"BoilerCascadeModel", "startOn", "([II)V"⟩, 15), (⟨"BoilerCascadeModel", "work", "([II)V"⟩, 15), (⟨"BoilerCascadeModel", "heat", "([II)V"⟩, 15), (⟨"BoilerCascadeModel", "settle", "([I)V"⟩, 15), (⟨"BoilerCascadeModel", "watch", "([I)V"⟩, 15), (⟨"BoilerCascadeModel", "flueOn", "([IIZ)I"⟩, 15), (⟨"BoilerCascadeModel", "startsOf", "([I)I"⟩, 15), (⟨"BoilerCascadeModel", "does", "(III)Z"⟩, 15)]
theorem lw_r3 : ∀ q ∈ lw_privs_3, lw_okq q := List.forall_mem_cons.mpr ⟨lw_p32, List.forall_mem_cons.mpr ⟨lw_p33, List.forall_mem_cons.mpr ⟨lw_p34, List.forall_mem_cons.mpr ⟨lw_p35, List.forall_mem_cons.mpr ⟨lw_p36, List.forall_mem_cons.mpr ⟨lw_p37, List.forall_mem_cons.mpr ⟨lw_p38, List.forall_mem_cons.mpr ⟨lw_p39, List.forall_mem_cons.mpr ⟨lw_p40, List.forall_mem_cons.mpr ⟨lw_p41, List.forall_mem_cons.mpr ⟨lw_p42, fun _ h => absurd h List.not_mem_nil⟩⟩⟩⟩⟩⟩⟩⟩⟩⟩⟩
def lw_privs : List (MethodName × Nat) := lw_privs_1 ++ (lw_privs_2 ++ (lw_privs_3))
def lw_tbl : List Cond := k2_sels lw_privs ++ tables_1
theorem lw_privs_ok : ∀ q ∈ lw_privs, lw_okq q := by
  show ∀ q ∈ lw_privs_1 ++ (lw_privs_2 ++ (lw_privs_3)), lw_okq q
  exact List.forall_mem_append.mpr ⟨lw_r1, List.forall_mem_append.mpr ⟨lw_r2, lw_r3⟩⟩

/-! ===== BEGIN words of one list among another's, by their places ===== -/
theorem goodIn_r {big : List Cond} (ws : List Cond) (ps : List Nat) (hp : ws = ps.filterMap (fun i => big[i]?)) (h : ws.all goodWord = true) : GoodIn big ws := by
  intro w hw
  have h1 := List.all_eq_true.mp h w hw
  rw [hp] at hw
  obtain ⟨i, -, hi⟩ := List.mem_filterMap.mp hw
  have hm : w ∈ big := by first | exact List.mem_of_getElem? hi | exact List.getElem?_mem hi
  exact ⟨hm, good_of_word h1⟩
theorem goodIn_app {big a b : List Cond} (ha : GoodIn big a) (hb : GoodIn big b) : GoodIn big (a ++ b) := fun w h => (List.mem_append.mp h).elim (ha w) (hb w)
theorem goodIn_ca {big a b : List Cond} {c : Cond} (ha : GoodIn big (c :: a)) (hb : GoodIn big b) : GoodIn big (c :: (a ++ b)) := fun w h => (List.mem_cons.mp h).elim (fun e => ha w (List.mem_cons.mpr (Or.inl e))) (fun h => (List.mem_append.mp h).elim (fun h => ha w (List.mem_cons.mpr (Or.inr h))) (hb w))
theorem goodIn_sub {big ws : List Cond} (hm : ∀ w ∈ ws, w ∈ big) (h : ws.all goodWord = true) : GoodIn big ws := fun w hw => ⟨hm w hw, good_of_word (List.all_eq_true.mp h w hw)⟩
/-! ===== END ===== -/

/-! ===== BEGIN exceptions that leave a method, and their catching by the caller (launches without stack traces) ===== -/
section VXA
/-! The laws vx_back, vx_callV, vx_callS, vx_callSW, vx_throw0, vx_throwS follow proofs of the library, with one case more: JvmDerived/Free/Laws.lean (Back.of_free), Shelf42/LK1.lean (callV, callS), Shelf/KitTraced.lean (throwNew0V, throwNewS). -/
/-- where a method has thrown q: the class by its name, the cell, what was written, the world -/
def vx_T (XC : String → State → State → Prop) (st : State) (q : Addr) (t : State) (mc ms : Nat) (free : Addr → Prop) : Prop :=
  ∃ (E : String) (ce : Cell) (L : List Loc), XC E st t ∧ t.heap[q]? = some ce ∧ ce.vm = .none ∧ st.vm.findClass E = some ce.cls ∧ st.WarmedH t.vm ∧ st.sameButNew ({ t with vm := st.vm } : State) L mc ms ∧ ∀ z ∈ L, free z.base
def vx_Q (Qc : Array Value → State → Outcome → State → Prop) (XC : String → State → State → Prop) (mc ms : Nat) (free : Addr → Prop) : Array Value → State → Outcome → State → Prop := fun a st o t =>
  (Qc a st o t ∧ ∃ L, FrameEnd st o t L mc ms ∧ ∀ q ∈ L, free q.base) ∨ ∃ q, o = .threw q ∧ vx_T XC st q t mc ms free
/-- a callee that returns or throws -/
def vx_Met (l : Launch) (y : MethodName) (ws : List Cond) (rm : Room) (Pc : Array Value → State → Prop) (Qc : Array Value → State → Outcome → State → Prop) (XC : String → State → State → Prop) (mc ms : Nat) (free : Addr → Prop) : Prop :=
  MetFree l y (headSpec ws rm) Pc (fun _ _ _ _ _ => True) (vx_Q Qc XC mc ms free)
def vx_Post (XC : String → State → State → Prop) (mc ms : Nat) (free : Addr → Prop) : Pt → Array Value → Addr → Pt → Prop := fun A a q B =>
  ∃ (g : JFrame) (mk : MethodId) (t : State) (L : List Loc) (E : String) (ce : Cell), B.U.heap = t.heap ∧ B.U.vm = t.vm ∧ XC E (A.U.calling g mk a) t ∧ t.heap[q]? = some ce ∧ ce.vm = .none ∧ A.U.vm.findClass E = some ce.cls ∧ B.locs = A.locs ++ L ∧ (∀ z ∈ L, free z.base) ∧ B.cells = A.cells + mc ∧ B.slots = A.slots + ms
def vx_Back (l : Launch) (R : Room) (p : Program) (e : Env) (below : List Frame) (s : State) (sargs : Array Value) (y : MethodName) (len W9 : Nat)
    (Pre : Pt → Array Value → Prop) (Post : Pt → Array Value → Option Value → Pt → Prop) (PostX : Pt → Array Value → Addr → Pt → Prop) : Prop :=
  ∀ (m : MethodId) (meth : Method) (c : Code) (A : Pt) (g : JFrame) (ig : Instr) (mk : MethodId) (a : Array Value),
    Stand p l e R s m sargs below meth c A.U A.locs A.cells A.slots → g.method = m → g.locals.size = c.maxLocals → decode c.code g.pc = .ok (ig, len) →
    2 * g.monitorRoom + (g.stack.map fun v => v.category).sum ≤ W9 → A.U.methodNamed? y = some mk → Pre A a →
    (∃ (v : Option Value) (B : Pt), Stand p l e R s m sargs below meth c B.U B.locs B.cells B.slots ∧ Post A a v B ∧
      Steps p.tables e below (doInvoke e (A.U.setTop g) [] mk a).1 (B.U.setTop { g with pc := g.pc + len, stack := v.toList ++ g.stack })) ∨
    (∃ (q : Addr) (B : Pt), Stand p l e R s m sargs below meth c B.U B.locs B.cells B.slots ∧ PostX A a q B ∧
      Steps p.tables e below (doInvoke e (A.U.setTop g) [] mk a).1 ((B.U.setTop g).pushFrame (.throwing q)))
section Payer
variable {l : Launch} {R : Room} {p : Program} {e : Env} {below : List Frame} {s : State} {sargs : Array Value} {y : MethodName} {len W9 : Nat}
theorem vx_back {ws : List Cond} {rm : Room} {Pc : Array Value → State → Prop} {Qc : Array Value → State → Outcome → State → Prop} {XC : String → State → State → Prop} {mc ms : Nat} {free : Addr → Prop} {bytes : ByteArray} {maxL : Nat} {ret : Option FieldType}
    (hM : vx_Met l y ws rm Pc Qc XC mc ms free) (hblind : FrameBlind Pc) (hrc : rm.cells = mc) (hrs : rm.slots = ms)
    (hframes : rm.frames + 1 ≤ R.frames) (hlocals : W9 + (maxL + 11) + rm.locals ≤ R.locals)
    (hws : ∀ w ∈ ws, ∀ a' U, s.WarmedH U.vm → w.before a' U = true) (hcode : Cond.code y bytes maxL ret ∈ ws) (hinit : ∀ a' U, s.WarmedH U.vm → (Cond.initialized y.cls).before a' U = true) :
    vx_Back l R p e below s sargs y len W9 (PreOf R mc ms Pc) (PostOf Qc mc ms free) (vx_Post XC mc ms free) := by
  intro m meth c A g ig mk a X hg hsize hdg hW hn hp
  have h1 : (headSpec ws rm).pre.before a A.U = true := atoms_intro fun w hw => hws w hw _ _ X.warmed
  have h2 : (Cond.code y bytes maxL ret).before a A.U = true := hws _ hcode _ _ X.warmed
  have h3 : (Cond.initialized y.cls).before a A.U = true := hinit _ _ X.warmed
  have h4 : A.cells + (headSpec ws rm).room.cells ≤ R.cells := by rw [show (headSpec ws rm).room.cells = mc from hrc]; exact hp.1
  have h5 : A.slots + (headSpec ws rm).room.slots ≤ R.slots := by rw [show (headSpec ws rm).room.slots = ms from hrs]; exact hp.2.1
  have hPc : Pc a (A.U.calling g mk a) := hblind _ _ _ _ hp.2.2
  obtain ⟨U, Ls, c0, s0⟩ := A
  dsimp only [Pt.U, Pt.locs, Pt.cells, Pt.slots] at h1 h2 h3 h4 h5 X hn hPc ⊢
  obtain ⟨methY, cY, hmY, hcY, -, hlY, -, -, -, -⟩ := Cond.code_spec hn h2
  obtain ⟨kY, hkY, -⟩ := className_of_methodNamed hn
  have hinitY : kY.init = .initialized := Cond.initialized_spec (findClass_of_methodNamed hn) hkY h3
  have h : At U g.method c below := by rw [hg]; exact X.here
  have hlocals9 : W9 + (maxL + 11) + (headSpec ws rm).room.locals ≤ R.locals := hlocals
  have happ : (headSpec ws rm).appliesLoose y e.platform (U.calling g mk a) = true :=
    Spec.appliesLoose_calling (g := g) h hdg hn hkY hinitY
      (X.room_calling (g := g) (R' := (headSpec ws rm).room) hsize hmY hcY hframes (by rw [hlY]; omega) h4 h5) h1
  obtain ⟨mid, hmid⟩ := h.above
  have hfr : (U.setTop g).frames = (.java g :: mid) ++ below := by rw [State.frames_setTop' g h.top, hmid]; rfl
  obtain ⟨o, s₂, hsteps, -, hend, hq⟩ := Steps.callFree hM p X.admits X.cas X.clock (acts := []) hfr happ hPc trivial
  have hq' : vx_Q Qc XC mc ms free a (U.calling g mk a) o s₂ := hq
  rw [State.frames_setTop' g h.top] at hend
  obtain ⟨g₀, hg0⟩ := Option.isSome_iff_exists.mp h.top
  obtain ⟨r, hr⟩ := State.topJava?_eq_some.mp hg0
  have hr' : (({ U with heap := s₂.heap, slotsUsed := s₂.slotsUsed } : State).setVm s₂.vm).frames = .java g₀ :: r := hr
  rcases hq' with ⟨hqc, L, hfe, hL⟩ | ⟨q, rfl, E, ce, L, hx, hce, hcv, hcl, hW₂, hsm, hL⟩
  · obtain ⟨⟨v, rfl⟩, hW₂, e2, q2, q3, q4, q5, q6⟩ := id hfe
    have e3 : s₂ = ({ (U.calling g mk a).setFrames s₂.frames with heap := s₂.heap, slotsUsed := s₂.slotsUsed } : State).setVm s₂.vm := by
      have : s₂ = ({ s₂ with vm := (U.calling g mk a).vm } : State).setVm s₂.vm := rfl
      rw [e2] at this
      exact this
    obtain ⟨c₂, i₂, len₂, hc₂, hd₂, hf₂⟩ := hend
    have hW' : U.WarmedH s₂.vm := hW₂
    have hcc : c₂ = c := by
      have h1 : s₂.code? g.method = U.code? g.method := by
        rw [State.code?_eq, State.code?_eq, hW'.alike.method?]
      exact Option.some.inj (hc₂.symm.trans (h1.trans h.code))
    subst hcc
    have hlen : len₂ = len := by rw [hdg] at hd₂; cases hd₂; rfl
    subst hlen
    have hs₂ : s₂ = (({ U with heap := s₂.heap, slotsUsed := s₂.slotsUsed } : State).setVm s₂.vm).setTop { g with pc := g.pc + len₂, stack := v.toList ++ g.stack } := by
      refine e3.trans ?_
      rw [hf₂, State.calling_eq h.top, State.setFrames_setFrames, State.setTop_of_frames _ hr', hr]
      rfl
    have hsame : U.sameButNew ({ U with heap := s₂.heap, slotsUsed := s₂.slotsUsed } : State) L mc ms := by
      refine ⟨?_, q2, q3, q4, q5, q6⟩
      obtain ⟨t, ht, -⟩ := State.frames_cons hr
      show ({ U with heap := s₂.heap, slotsUsed := s₂.slotsUsed } : State) = { U.setFrames U.frames with heap := s₂.heap, slotsUsed := s₂.slotsUsed }
      rw [State.setFrames_self ht]
    subst hg
    refine Or.inl ⟨v, ⟨(({ U with heap := s₂.heap, slotsUsed := s₂.slotsUsed } : State).setVm s₂.vm), Ls ++ L, c0 + mc, s0 + ms⟩,
      ⟨X.admits, X.cas, X.clock, X.frames, X.room, X.hears, X.method, X.code, (X.here.setHeapUsed s₂.heap s₂.slotsUsed).setVm hW'.alike, X.tail, State.WarmedH.trans X.warmed hW', X.limits, X.bytes, X.same.trans (hsame.setVm s.vm)⟩,
      ⟨g, mk, s₂, L, rfl, rfl, hqc, rfl, hL, rfl, rfl⟩, ?_⟩
    show Steps p.tables e below _ ((({ U with heap := s₂.heap, slotsUsed := s₂.slotsUsed } : State).setVm s₂.vm).setTop { g with pc := g.pc + len₂, stack := v.toList ++ g.stack })
    rw [← hs₂]
    exact hsteps
  · obtain ⟨e2, q2, q3, q4, q5, q6⟩ := id hsm
    have e3 : s₂ = ({ (U.calling g mk a).setFrames s₂.frames with heap := s₂.heap, slotsUsed := s₂.slotsUsed } : State).setVm s₂.vm := by
      have : s₂ = ({ s₂ with vm := (U.calling g mk a).vm } : State).setVm s₂.vm := rfl
      rw [e2] at this
      exact this
    have hf₂ : s₂.frames = .throwing q :: .java g :: U.frames.tail := hend
    have hW' : U.WarmedH s₂.vm := hW₂
    have hs₂ : s₂ = ((({ U with heap := s₂.heap, slotsUsed := s₂.slotsUsed } : State).setVm s₂.vm).setTop g).pushFrame (.throwing q) := by
      refine e3.trans ?_
      rw [hf₂, State.calling_eq h.top, State.setFrames_setFrames, State.pushFrame, State.frames_setTop _ hr', State.setTop_of_frames _ hr', State.setFrames_setFrames, hr]
      rfl
    have hsame : U.sameButNew ({ U with heap := s₂.heap, slotsUsed := s₂.slotsUsed } : State) L mc ms := by
      refine ⟨?_, q2, q3, q4, q5, q6⟩
      obtain ⟨t, ht, -⟩ := State.frames_cons hr
      show ({ U with heap := s₂.heap, slotsUsed := s₂.slotsUsed } : State) = { U.setFrames U.frames with heap := s₂.heap, slotsUsed := s₂.slotsUsed }
      rw [State.setFrames_self ht]
    subst hg
    refine Or.inr ⟨q, ⟨(({ U with heap := s₂.heap, slotsUsed := s₂.slotsUsed } : State).setVm s₂.vm), Ls ++ L, c0 + mc, s0 + ms⟩,
      ⟨X.admits, X.cas, X.clock, X.frames, X.room, X.hears, X.method, X.code, (X.here.setHeapUsed s₂.heap s₂.slotsUsed).setVm hW'.alike, X.tail, State.WarmedH.trans X.warmed hW', X.limits, X.bytes, X.same.trans (hsame.setVm s.vm)⟩,
      ⟨g, mk, s₂, L, E, ce, rfl, rfl, hx, hce, hcv, hcl, rfl, hL, rfl, rfl⟩, ?_⟩
    show Steps p.tables e below _ (((({ U with heap := s₂.heap, slotsUsed := s₂.slotsUsed } : State).setVm s₂.vm).setTop g).pushFrame (.throwing q))
    rw [← hs₂]
    exact hsteps
end Payer
section Calls
variable {p : Program} {l : Launch} {e : Env} {R : Room} {s : State} {m : MethodId} {args : Array Value} {below : List Frame} {meth : Method} {c : Code} {T : State} {locs : List Loc} {cells slots : Nat}
theorem vx_callV (X : Stand p l e R s m args below meth c T locs cells slots) (hexec : p.tables.exec = Jvm.exec) {own C : String} {index : Nat} {y : MethodName} {bytes : ByteArray} {maxL : Nat} {ret : Option FieldType}
    (hown : s.vm.findClass own = some m.cls) (hlink : (Cond.methodLink own index y).before args s = true) (hinst : (Cond.instanceMethod y).before args s = true) (hsel : (Cond.selects C y y).before args s = true)
    (hcode : (Cond.code y bytes maxL ret).before args s = true) (hy : y.cls ≠ "java/lang/invoke/MethodHandle" ∧ y.cls ≠ "java/lang/invoke/VarHandle")
    {W9 : Nat} {Pre : Pt → Array Value → Prop} {Post : Pt → Array Value → Option Value → Pt → Prop} {PostX : Pt → Array Value → Addr → Pt → Prop} (hK : vx_Back l R p e below s args y 3 W9 Pre Post PostX)
    {b : Addr} {cellB : Cell} (hcell : T.heap[b]? = some cellB) (hobj : cellB.vm.isStatics = false) (hcls : s.vm.findClass C = some cellB.cls)
    {g : JFrame} (hg : g.method = m) (hsize : g.locals.size = c.maxLocals) {argsL rest : List Value} (hlen : ∀ sig, parseMethodDescriptor y.desc = some sig → argsL.length = sig.parameters.length)
    (hstack : g.stack = argsL.reverse ++ .ref b :: rest) (hW : 2 * g.monitorRoom + (rest.map fun v => v.category).sum ≤ W9) (hdg : decode c.code g.pc = .ok (.invokevirtual index, 3))
    (hpre : ∀ vm₁, s.WarmedH vm₁ → Pre ⟨T.setVm vm₁, locs, cells, slots⟩ (Value.ref b :: argsL).toArray) :
    (∃ (v : Option Value) (vm₁ : Vm) (B : Pt), s.WarmedH vm₁ ∧ Stand p l e R s m args below meth c B.U B.locs B.cells B.slots ∧ Post ⟨T.setVm vm₁, locs, cells, slots⟩ (Value.ref b :: argsL).toArray v B ∧
      ∀ target, Steps p.tables e below (B.U.setTop { g with pc := g.pc + 3, stack := v.toList ++ rest }) target → Steps p.tables e below (T.setTop g) target) ∨
    (∃ (q : Addr) (vm₁ : Vm) (B : Pt), s.WarmedH vm₁ ∧ Stand p l e R s m args below meth c B.U B.locs B.cells B.slots ∧ PostX ⟨T.setVm vm₁, locs, cells, slots⟩ (Value.ref b :: argsL).toArray q B ∧
      Steps p.tables e below (T.setTop g) ((B.U.setTop { g with stack := rest }).pushFrame (.throwing q))) := by
  obtain ⟨mk, methM, hnamed, hmethM, hstM, habM⟩ := Cond.instanceMethod_spec hinst
  obtain ⟨methM', cM, hmethM', -, -, -, -, -, -, hsigM⟩ := Cond.code_spec hnamed hcode
  cases hmethM.symm.trans hmethM'
  obtain ⟨c2, r2, m2, q1, q2, q3, q4, kP, hkP, hkPi⟩ := Cond.selects_spec hsel
  cases hcls.symm.trans q1
  cases (State.methodFound?_of_named hnamed hy).symm.trans q2
  cases hnamed.symm.trans q3
  have hselP : selectMethod e.platform s.vm cellB.cls mk = .method mk := by rw [Launch.admits_selectMethod X.admits]; exact q4
  obtain ⟨vm₁, X₁, hstep₁⟩ := X.invokevirtual hexec hown hlink hnamed hmethM hstM hkP hkPi hy (a := b) (cell := cellB) hcell
    (fun z h => by rw [h] at hobj; cases hobj) hselP hmethM habM hkP hkPi (g := g) hg (argsL := argsL) (rest := rest) (hlen _ hsigM) hstack hdg
  rcases hK m meth c ⟨T.setVm vm₁, locs, cells, slots⟩ { g with stack := rest } (.invokevirtual index) mk (Value.ref b :: argsL).toArray X₁ hg hsize hdg hW (X₁.named hnamed) (hpre vm₁ X₁.warmed) with ⟨v, B, X', hpost, hsteps⟩ | ⟨q, B, X', hpost, hsteps⟩
  · exact Or.inl ⟨v, vm₁, B, X₁.warmed, X', hpost, fun target h => hstep₁ _ fun acts => by rw [doInvoke_state]; exact hsteps.trans h⟩
  · exact Or.inr ⟨q, vm₁, B, X₁.warmed, X', hpost, hstep₁ _ fun acts => by rw [doInvoke_state]; exact hsteps⟩
theorem vx_callS (X : Stand p l e R s m args below meth c T locs cells slots) (hexec : p.tables.exec = Jvm.exec) {own : String} {index : Nat} {y : MethodName} {bytes : ByteArray} {maxL : Nat} {ret : Option FieldType}
    (hown : s.vm.findClass own = some m.cls) (hlink : (Cond.methodLink own index y).before args s = true) (hstat : (Cond.static y).before args s = true) (hinit : (Cond.initialized y.cls).before args s = true)
    (hcode : (Cond.code y bytes maxL ret).before args s = true) (hy : y.cls ≠ "java/lang/invoke/MethodHandle" ∧ y.cls ≠ "java/lang/invoke/VarHandle")
    {W9 : Nat} {Pre : Pt → Array Value → Prop} {Post : Pt → Array Value → Option Value → Pt → Prop} {PostX : Pt → Array Value → Addr → Pt → Prop} (hK : vx_Back l R p e below s args y 3 W9 Pre Post PostX)
    {g : JFrame} (hg : g.method = m) (hsize : g.locals.size = c.maxLocals) {argsL rest : List Value} (hlen : ∀ sig, parseMethodDescriptor y.desc = some sig → argsL.length = sig.parameters.length)
    (hstack : g.stack = argsL.reverse ++ rest) (hW : 2 * g.monitorRoom + (rest.map fun v => v.category).sum ≤ W9) (hdg : decode c.code g.pc = .ok (.invokestatic index, 3))
    (hpre : ∀ vm₁, s.WarmedH vm₁ → Pre ⟨T.setVm vm₁, locs, cells, slots⟩ argsL.toArray) :
    (∃ (v : Option Value) (vm₁ : Vm) (B : Pt), s.WarmedH vm₁ ∧ Stand p l e R s m args below meth c B.U B.locs B.cells B.slots ∧ Post ⟨T.setVm vm₁, locs, cells, slots⟩ argsL.toArray v B ∧
      ∀ target, Steps p.tables e below (B.U.setTop { g with pc := g.pc + 3, stack := v.toList ++ rest }) target → Steps p.tables e below (T.setTop g) target) ∨
    (∃ (q : Addr) (vm₁ : Vm) (B : Pt), s.WarmedH vm₁ ∧ Stand p l e R s m args below meth c B.U B.locs B.cells B.slots ∧ PostX ⟨T.setVm vm₁, locs, cells, slots⟩ argsL.toArray q B ∧
      Steps p.tables e below (T.setTop g) ((B.U.setTop { g with stack := rest }).pushFrame (.throwing q))) := by
  obtain ⟨mk, hnamed⟩ := Cond.code_named hcode
  obtain ⟨methM, cM, hmethM, -, -, -, -, -, -, hsigM⟩ := Cond.code_spec hnamed hcode
  have hstatic : methM.isStatic = true := Cond.static_spec hnamed hmethM hstat
  obtain ⟨kP, hkP, -⟩ := className_of_methodNamed hnamed
  have hinitP : kP.init = .initialized := Cond.initialized_spec (findClass_of_methodNamed hnamed) hkP hinit
  obtain ⟨vm₁, X₁, hstep₁⟩ := X.invokestatic hexec hown hlink hnamed hmethM hstatic hkP hinitP hy (g := g) hg (argsL := argsL) (rest := rest) (hlen _ hsigM) hstack hdg
  rcases hK m meth c ⟨T.setVm vm₁, locs, cells, slots⟩ { g with stack := rest } (.invokestatic index) mk argsL.toArray X₁ hg hsize hdg hW (X₁.named hnamed) (hpre vm₁ X₁.warmed) with ⟨v, B, X', hpost, hsteps⟩ | ⟨q, B, X', hpost, hsteps⟩
  · exact Or.inl ⟨v, vm₁, B, X₁.warmed, X', hpost, fun target h => hstep₁ _ fun acts => by rw [doInvoke_state]; exact hsteps.trans h⟩
  · exact Or.inr ⟨q, vm₁, B, X₁.warmed, X', hpost, hstep₁ _ fun acts => by rw [doInvoke_state]; exact hsteps⟩
end Calls
theorem vx_cls {s : State} {T : State} {vm₁ : Vm} {E : String} {k : ClassId} (hW : s.WarmedH vm₁) (h : (T.setVm vm₁).vm.findClass E = some k) : s.vm.findClass E = some k := by
  have h1 : vm₁.findClass E = some k := h
  rw [hW.alike.findClass] at h1
  exact h1
/-- the method's frame g, with q thrown over it -/
def vx_W (p : Program) (l : Launch) (e : Env) (R : Room) (s : State) (m : MethodId) (args : Array Value) (below : List Frame) (meth : Method) (c : Code) (H : Heap) (locs : List Loc) (cells slots : Nat) (Q : State → Prop) (g : JFrame) (q : Addr) : Prop :=
  ∀ T : State, T.heap = H → Stand p l e R s m args below meth c T locs cells slots → ∃ t, Steps p.tables e below ((T.setTop g).pushFrame (.throwing q)) t ∧ Q t
def vx_Run (p : Program) (l : Launch) (e : Env) (R : Room) (s : State) (m : MethodId) (args : Array Value) (below : List Frame) (meth : Method) (c : Code) (H : Heap) (locs : List Loc) (cells slots mc ms : Nat) (g : JFrame) (rest : List Value) (Qa : State → Outcome → State → Prop) (XC : String → State → State → Prop) (free : Addr → Prop) : Prop :=
  ∀ T : State, T.heap = H → Stand p l e R s m args below meth c T locs cells slots →
    (∃ (v : Option Value) (st₀ t T' : State) (L : List Loc), st₀.heap = H ∧ Stand p l e R s m args below meth c T' (locs ++ L) (cells + mc) (slots + ms) ∧ (∀ q ∈ L, free q.base) ∧ T'.heap = t.heap ∧ T'.vm = t.vm ∧ Qa st₀ (.returned v) t ∧
      Goes p e below T g T' { g with pc := g.pc + 3, stack := v.toList ++ rest }) ∨
    (∃ (q : Addr) (st₀ t T' : State) (L : List Loc) (E : String) (ce : Cell), st₀.heap = H ∧ Stand p l e R s m args below meth c T' (locs ++ L) (cells + mc) (slots + ms) ∧ (∀ z ∈ L, free z.base) ∧ T'.heap = t.heap ∧ T'.vm = t.vm ∧ XC E st₀ t ∧ t.heap[q]? = some ce ∧ ce.vm = .none ∧ s.vm.findClass E = some ce.cls ∧
      Steps p.tables e below (T.setTop g) ((T'.setTop { g with stack := rest }).pushFrame (.throwing q)))
def vx_X {S : Type} (px : S → Prop) (B : String → S → State → Prop) (A : Nat → Prop) : String → State → State → Prop := fun E st t => ∃ u : S, px u ∧ B E u t ∧ va_F A st t
section Runs
variable {p : Program} {l : Launch} {e : Env} {R : Room} {s : State} {m : MethodId} {args : Array Value} {below : List Frame} {meth : Method} {c : Code} {H : Heap} {locs : List Loc} {cells slots : Nat}
variable {y : MethodName} {bytes cc : ByteArray} {maxL nL mc ms n index : Nat} {ret : Option FieldType} {ws : List Cond} {rm : Room} {Pc : Array Value → State → Prop} {Qc : Array Value → State → Outcome → State → Prop} {XC : String → State → State → Prop} {free : Addr → Prop} {Ts : List Cond} {own C : String} {b : Addr} {As rest : List Value} {g : JFrame}
theorem vx_callBack (cb : CallB R s args own index y bytes maxL ret ws rm mc ms n) (hM : vx_Met l y ws rm Pc Qc XC mc ms free) (hbl : FrameBlind Pc) : vx_Back l R p e below s args y 3 8 (PreOf R mc ms Pc) (PostOf Qc mc ms free) (vx_Post XC mc ms free) := by
  obtain ⟨hrc, hrs, hfr, hlo, hws, hcw, -, hini, -⟩ := cb
  exact vx_back (bytes := bytes) (maxL := maxL) (ret := ret) hM hbl hrc hrs hfr hlo hws hcw (fun a' U hW => word_at hW (Or.inl (by first | rfl | simp [Cond.onTables, Cond.keeps, Cond.steady])) hini)
theorem vx_runV (S : CallFix p m c cc nL s args Ts own) (hM : vx_Met l y ws rm Pc Qc XC mc ms free) (cw : CallW R s args own C index y bytes maxL ret ws rm mc ms n) (hp : PreV s H C b Pc As)
    (hg : g.method = m) (hn : As.length = n) (hsize : g.locals.size = nL) (hstack : g.stack = As.reverse ++ .ref b :: rest) (hW : 2 * g.monitorRoom + (rest.map fun v => v.category).sum ≤ 8) (hdg : decode cc g.pc = .ok (.invokevirtual index, 3)) (hf : cells + mc ≤ R.cells ∧ slots + ms ≤ R.slots) :
    vx_Run p l e R s m args below meth c H locs cells slots mc ms g rest (Qc (Value.ref b :: As).toArray) XC free := by
  have hK : vx_Back l R p e below s args y 3 8 (PreOf R mc ms Pc) (PostOf Qc mc ms free) (vx_Post XC mc ms free) := vx_callBack cw.1 hM hp.1
  obtain ⟨⟨-, -, -, -, -, -, hcode, -, hy, hlen, hl⟩, hin, hse⟩ := cw
  obtain ⟨hx, hb, hml, ho, -⟩ := S
  obtain ⟨-, ⟨cellB, hcB, hoB, hclB⟩, hPc⟩ := hp
  intro T hT X
  rcases vx_callV X hx (C := C) (bytes := bytes) (maxL := maxL) (ret := ret) ho hl hin hse hcode hy hK (by rw [hT]; exact hcB) hoB hclB hg (hsize.trans hml.symm) (argsL := As) (rest := rest) (fun sig h => hn.trans (hlen sig h)) hstack hW (by rw [hb]; exact hdg)
    (fun vm₁ hW₁ => ⟨hf.1, hf.2, hPc (T.setVm vm₁) hT hW₁⟩) with ⟨v, vm₁, ⟨U', l2, c2, s2⟩, hW₁, X', ⟨g', mk, t, L, e1, e2, hq, h1, hL, h2, h3⟩, st⟩ | ⟨q, vm₁, ⟨U', l2, c2, s2⟩, hW₁, X', ⟨g', mk, t, L, E, ce, e1, e2, hq, hce, hcv, hcl, h1, hL, h2, h3⟩, st⟩
  · dsimp only [Pt.U, Pt.locs, Pt.cells, Pt.slots] at X' e1 e2 h1 h2 h3 st
    subst h1; subst h2; subst h3
    exact Or.inl ⟨v, (T.setVm vm₁).calling g' mk (Value.ref b :: As).toArray, t, U', L, hT, X', hL, e1, e2, hq, st⟩
  · dsimp only [Pt.U, Pt.locs, Pt.cells, Pt.slots] at X' e1 e2 h1 h2 h3 st hcl
    subst h1; subst h2; subst h3
    exact Or.inr ⟨q, (T.setVm vm₁).calling g' mk (Value.ref b :: As).toArray, t, U', L, E, ce, hT, X', hL, e1, e2, hq, hce, hcv, vx_cls hW₁ hcl, st⟩
theorem vx_runS (S : CallFix p m c cc nL s args Ts own) (hM : vx_Met l y ws rm Pc Qc XC mc ms free) (cw : CallB R s args own index y bytes maxL ret ws rm mc ms n ∧ (Cond.static y).before args s = true) (hp : PreS s H Pc As)
    (hg : g.method = m) (hn : As.length = n) (hsize : g.locals.size = nL) (hstack : g.stack = As.reverse ++ rest) (hW : 2 * g.monitorRoom + (rest.map fun v => v.category).sum ≤ 8) (hdg : decode cc g.pc = .ok (.invokestatic index, 3)) (hf : cells + mc ≤ R.cells ∧ slots + ms ≤ R.slots) :
    vx_Run p l e R s m args below meth c H locs cells slots mc ms g rest (Qc As.toArray) XC free := by
  have hK : vx_Back l R p e below s args y 3 8 (PreOf R mc ms Pc) (PostOf Qc mc ms free) (vx_Post XC mc ms free) := vx_callBack cw.1 hM hp.1
  obtain ⟨⟨-, -, -, -, -, -, hcode, hini, hy, hlen, hl⟩, hstt⟩ := cw
  obtain ⟨hx, hb, hml, ho, -⟩ := S
  intro T hT X
  rcases vx_callS X hx (bytes := bytes) (maxL := maxL) (ret := ret) ho hl hstt hini hcode hy hK hg (hsize.trans hml.symm) (argsL := As) (rest := rest) (fun sig h => hn.trans (hlen sig h)) hstack hW (by rw [hb]; exact hdg)
    (fun vm₁ hW₁ => ⟨hf.1, hf.2, hp.2 (T.setVm vm₁) hT hW₁⟩) with ⟨v, vm₁, ⟨U', l2, c2, s2⟩, hW₁, X', ⟨g', mk, t, L, e1, e2, hq, h1, hL, h2, h3⟩, st⟩ | ⟨q, vm₁, ⟨U', l2, c2, s2⟩, hW₁, X', ⟨g', mk, t, L, E, ce, e1, e2, hq, hce, hcv, hcl, h1, hL, h2, h3⟩, st⟩
  · dsimp only [Pt.U, Pt.locs, Pt.cells, Pt.slots] at X' e1 e2 h1 h2 h3 st
    subst h1; subst h2; subst h3
    exact Or.inl ⟨v, (T.setVm vm₁).calling g' mk As.toArray, t, U', L, hT, X', hL, e1, e2, hq, st⟩
  · dsimp only [Pt.U, Pt.locs, Pt.cells, Pt.slots] at X' e1 e2 h1 h2 h3 st hcl
    subst h1; subst h2; subst h3
    exact Or.inr ⟨q, (T.setVm vm₁).calling g' mk As.toArray, t, U', L, E, ce, hT, X', hL, e1, e2, hq, hce, hcv, vx_cls hW₁ hcl, st⟩
end Runs
section Rows
variable {p : Program} {l : Launch} {e : Env} {R : Room} {s : State} {m : MethodId} {args : Array Value} {below : List Frame} {meth : Method} {c : Code} {H : Heap} {locs : List Loc} {cells slots : Nat} {Q : State → Prop}
variable {mc ms : Nat} {free : Addr → Prop} {A0 A1 : Nat → Prop} {H0 : Heap} {a : Array Value} {pc : Nat} {ls : Array Slot} {st0 rest : List Value}
theorem vx_keep {st₀ t T' : State} {L : List Loc} (h0 : st₀.heap = H) (e1 : T'.heap = t.heap) (hS : va_S A0 H0 H locs) (hA : ∀ q, q < H.size → A1 q → A0 q) (hf : ∀ q, free q → A0 q) (hL : ∀ q ∈ L, free q.base) (hF : va_F A1 st₀ t) :
    H.size ≤ T'.heap.size ∧ (∀ q : Nat, q < H.size → ¬ A1 q → T'.heap[q]? = H[q]?) ∧ va_S A0 H0 T'.heap (locs ++ L) := by
  obtain ⟨hz, hk⟩ := hF
  rw [h0] at hz hk
  exact ⟨by rw [e1]; exact hz, fun q h1 h2 => by rw [e1]; exact hk q h1 h2,
    ⟨Nat.le_trans hS.1 (by rw [e1]; exact hz), fun q h1 h2 => by rw [e1, hk q (Nat.lt_of_lt_of_le h1 hS.1) (fun z => h2 (hA q (Nat.lt_of_lt_of_le h1 hS.1) z))]; exact hS.2.1 q h1 h2, fun q hq => by
      rcases List.mem_append.mp hq with h | h
      · exact hS.2.2 q h
      · exact hf _ (hL q h)⟩⟩
theorem vx_calli {S SX : Type} {post : Int32 → S → Prop} {px : SX → Prop} {B : S → State → Prop} {BX : String → SX → State → Prop} {AX : Nat → Prop} (hr : vx_Run p l e R s m args below meth c H locs cells slots mc ms (F0 m pc ls st0) rest (va_Qi post B A1 a) (vx_X px BX AX) free) (hS : va_S A0 H0 H locs) (hA : ∀ q, q < H.size → A1 q → A0 q) (hf : ∀ q, free q → A0 q) (hAX : ∀ q, q < H.size → AX q → A0 q)
    (kx : ∀ (E : String) (ce : Cell) (q9 : Addr) (u : SX) (t : State) (H1 : Heap) (locs1 : List Loc), t.heap = H1 → s.vm.Alike t.vm → px u → BX E u t → H.size ≤ H1.size → (∀ q : Nat, q < H.size → ¬ AX q → H1[q]? = H[q]?) → va_S A0 H0 H1 locs1 → H1[q9]? = some ce → ce.vm = .none → s.vm.findClass E = some ce.cls → vx_W p l e R s m args below meth c H1 locs1 (cells + mc) (slots + ms) Q (F0 m pc ls rest) q9)
    (kk : ∀ (r : Int32) (u : S) (t : State) (H1 : Heap) (locs1 : List Loc), t.heap = H1 → s.vm.Alike t.vm → post r u → B u t → H.size ≤ H1.size → (∀ q : Nat, q < H.size → ¬ A1 q → H1[q]? = H[q]?) → va_S A0 H0 H1 locs1 → W p l e R s m args below meth c H1 locs1 (cells + mc) (slots + ms) Q (F0 m (pc + 3) ls (.int r :: rest))) : W p l e R s m args below meth c H locs cells slots Q (F0 m pc ls st0) := by
  intro T hT X
  rcases hr T hT X with ⟨v, st₀, t, T', L, h0, X', hL, e1, e2, ⟨⟨r, u, hv, hp, hb⟩, hF⟩, st⟩ | ⟨q, st₀, t, T', L, E, ce, h0, X', hL, e1, e2, ⟨u, hp, hb, hF⟩, hce, hcv, hcl, st⟩
  · cases hv
    obtain ⟨k1, k2, k3⟩ := vx_keep h0 e1 hS hA hf hL hF
    obtain ⟨t2, a1, b1⟩ := kk r u t T'.heap (locs ++ L) e1.symm (by rw [← e2]; exact X'.warmed.alike) hp hb k1 k2 k3 T' rfl X'
    exact ⟨t2, st t2 a1, b1⟩
  · obtain ⟨k1, k2, k3⟩ := vx_keep h0 e1 hS hAX hf hL hF
    obtain ⟨t2, a1, b1⟩ := kx E ce q u t T'.heap (locs ++ L) e1.symm (by rw [← e2]; exact X'.warmed.alike) hp hb k1 k2 k3 (by rw [e1]; exact hce) hcv hcl T' rfl X'
    exact ⟨t2, st.trans a1, b1⟩
theorem vx_calll {S SX : Type} {post : Int64 → S → Prop} {px : SX → Prop} {B : S → State → Prop} {BX : String → SX → State → Prop} {AX : Nat → Prop} (hr : vx_Run p l e R s m args below meth c H locs cells slots mc ms (F0 m pc ls st0) rest (va_Ql post B A1 a) (vx_X px BX AX) free) (hS : va_S A0 H0 H locs) (hA : ∀ q, q < H.size → A1 q → A0 q) (hf : ∀ q, free q → A0 q) (hAX : ∀ q, q < H.size → AX q → A0 q)
    (kx : ∀ (E : String) (ce : Cell) (q9 : Addr) (u : SX) (t : State) (H1 : Heap) (locs1 : List Loc), t.heap = H1 → s.vm.Alike t.vm → px u → BX E u t → H.size ≤ H1.size → (∀ q : Nat, q < H.size → ¬ AX q → H1[q]? = H[q]?) → va_S A0 H0 H1 locs1 → H1[q9]? = some ce → ce.vm = .none → s.vm.findClass E = some ce.cls → vx_W p l e R s m args below meth c H1 locs1 (cells + mc) (slots + ms) Q (F0 m pc ls rest) q9)
    (kk : ∀ (r : Int64) (u : S) (t : State) (H1 : Heap) (locs1 : List Loc), t.heap = H1 → s.vm.Alike t.vm → post r u → B u t → H.size ≤ H1.size → (∀ q : Nat, q < H.size → ¬ A1 q → H1[q]? = H[q]?) → va_S A0 H0 H1 locs1 → W p l e R s m args below meth c H1 locs1 (cells + mc) (slots + ms) Q (F0 m (pc + 3) ls (.long r :: rest))) : W p l e R s m args below meth c H locs cells slots Q (F0 m pc ls st0) := by
  intro T hT X
  rcases hr T hT X with ⟨v, st₀, t, T', L, h0, X', hL, e1, e2, ⟨⟨r, u, hv, hp, hb⟩, hF⟩, st⟩ | ⟨q, st₀, t, T', L, E, ce, h0, X', hL, e1, e2, ⟨u, hp, hb, hF⟩, hce, hcv, hcl, st⟩
  · cases hv
    obtain ⟨k1, k2, k3⟩ := vx_keep h0 e1 hS hA hf hL hF
    obtain ⟨t2, a1, b1⟩ := kk r u t T'.heap (locs ++ L) e1.symm (by rw [← e2]; exact X'.warmed.alike) hp hb k1 k2 k3 T' rfl X'
    exact ⟨t2, st t2 a1, b1⟩
  · obtain ⟨k1, k2, k3⟩ := vx_keep h0 e1 hS hAX hf hL hF
    obtain ⟨t2, a1, b1⟩ := kx E ce q u t T'.heap (locs ++ L) e1.symm (by rw [← e2]; exact X'.warmed.alike) hp hb k1 k2 k3 (by rw [e1]; exact hce) hcv hcl T' rfl X'
    exact ⟨t2, st.trans a1, b1⟩
theorem vx_callf {S SX : Type} {post : UInt32 → S → Prop} {px : SX → Prop} {B : S → State → Prop} {BX : String → SX → State → Prop} {AX : Nat → Prop} (hr : vx_Run p l e R s m args below meth c H locs cells slots mc ms (F0 m pc ls st0) rest (va_Qf post B A1 a) (vx_X px BX AX) free) (hS : va_S A0 H0 H locs) (hA : ∀ q, q < H.size → A1 q → A0 q) (hf : ∀ q, free q → A0 q) (hAX : ∀ q, q < H.size → AX q → A0 q)
    (kx : ∀ (E : String) (ce : Cell) (q9 : Addr) (u : SX) (t : State) (H1 : Heap) (locs1 : List Loc), t.heap = H1 → s.vm.Alike t.vm → px u → BX E u t → H.size ≤ H1.size → (∀ q : Nat, q < H.size → ¬ AX q → H1[q]? = H[q]?) → va_S A0 H0 H1 locs1 → H1[q9]? = some ce → ce.vm = .none → s.vm.findClass E = some ce.cls → vx_W p l e R s m args below meth c H1 locs1 (cells + mc) (slots + ms) Q (F0 m pc ls rest) q9)
    (kk : ∀ (r : UInt32) (u : S) (t : State) (H1 : Heap) (locs1 : List Loc), t.heap = H1 → s.vm.Alike t.vm → post r u → B u t → H.size ≤ H1.size → (∀ q : Nat, q < H.size → ¬ A1 q → H1[q]? = H[q]?) → va_S A0 H0 H1 locs1 → W p l e R s m args below meth c H1 locs1 (cells + mc) (slots + ms) Q (F0 m (pc + 3) ls (.float r :: rest))) : W p l e R s m args below meth c H locs cells slots Q (F0 m pc ls st0) := by
  intro T hT X
  rcases hr T hT X with ⟨v, st₀, t, T', L, h0, X', hL, e1, e2, ⟨⟨r, u, hv, hp, hb⟩, hF⟩, st⟩ | ⟨q, st₀, t, T', L, E, ce, h0, X', hL, e1, e2, ⟨u, hp, hb, hF⟩, hce, hcv, hcl, st⟩
  · cases hv
    obtain ⟨k1, k2, k3⟩ := vx_keep h0 e1 hS hA hf hL hF
    obtain ⟨t2, a1, b1⟩ := kk r u t T'.heap (locs ++ L) e1.symm (by rw [← e2]; exact X'.warmed.alike) hp hb k1 k2 k3 T' rfl X'
    exact ⟨t2, st t2 a1, b1⟩
  · obtain ⟨k1, k2, k3⟩ := vx_keep h0 e1 hS hAX hf hL hF
    obtain ⟨t2, a1, b1⟩ := kx E ce q u t T'.heap (locs ++ L) e1.symm (by rw [← e2]; exact X'.warmed.alike) hp hb k1 k2 k3 (by rw [e1]; exact hce) hcv hcl T' rfl X'
    exact ⟨t2, st.trans a1, b1⟩
theorem vx_calld {S SX : Type} {post : UInt64 → S → Prop} {px : SX → Prop} {B : S → State → Prop} {BX : String → SX → State → Prop} {AX : Nat → Prop} (hr : vx_Run p l e R s m args below meth c H locs cells slots mc ms (F0 m pc ls st0) rest (va_Qd post B A1 a) (vx_X px BX AX) free) (hS : va_S A0 H0 H locs) (hA : ∀ q, q < H.size → A1 q → A0 q) (hf : ∀ q, free q → A0 q) (hAX : ∀ q, q < H.size → AX q → A0 q)
    (kx : ∀ (E : String) (ce : Cell) (q9 : Addr) (u : SX) (t : State) (H1 : Heap) (locs1 : List Loc), t.heap = H1 → s.vm.Alike t.vm → px u → BX E u t → H.size ≤ H1.size → (∀ q : Nat, q < H.size → ¬ AX q → H1[q]? = H[q]?) → va_S A0 H0 H1 locs1 → H1[q9]? = some ce → ce.vm = .none → s.vm.findClass E = some ce.cls → vx_W p l e R s m args below meth c H1 locs1 (cells + mc) (slots + ms) Q (F0 m pc ls rest) q9)
    (kk : ∀ (r : UInt64) (u : S) (t : State) (H1 : Heap) (locs1 : List Loc), t.heap = H1 → s.vm.Alike t.vm → post r u → B u t → H.size ≤ H1.size → (∀ q : Nat, q < H.size → ¬ A1 q → H1[q]? = H[q]?) → va_S A0 H0 H1 locs1 → W p l e R s m args below meth c H1 locs1 (cells + mc) (slots + ms) Q (F0 m (pc + 3) ls (.double r :: rest))) : W p l e R s m args below meth c H locs cells slots Q (F0 m pc ls st0) := by
  intro T hT X
  rcases hr T hT X with ⟨v, st₀, t, T', L, h0, X', hL, e1, e2, ⟨⟨r, u, hv, hp, hb⟩, hF⟩, st⟩ | ⟨q, st₀, t, T', L, E, ce, h0, X', hL, e1, e2, ⟨u, hp, hb, hF⟩, hce, hcv, hcl, st⟩
  · cases hv
    obtain ⟨k1, k2, k3⟩ := vx_keep h0 e1 hS hA hf hL hF
    obtain ⟨t2, a1, b1⟩ := kk r u t T'.heap (locs ++ L) e1.symm (by rw [← e2]; exact X'.warmed.alike) hp hb k1 k2 k3 T' rfl X'
    exact ⟨t2, st t2 a1, b1⟩
  · obtain ⟨k1, k2, k3⟩ := vx_keep h0 e1 hS hAX hf hL hF
    obtain ⟨t2, a1, b1⟩ := kx E ce q u t T'.heap (locs ++ L) e1.symm (by rw [← e2]; exact X'.warmed.alike) hp hb k1 k2 k3 (by rw [e1]; exact hce) hcv hcl T' rfl X'
    exact ⟨t2, st.trans a1, b1⟩
theorem vx_callv {S SX : Type} {post : S → Prop} {px : SX → Prop} {B : S → State → Prop} {BX : String → SX → State → Prop} {AX : Nat → Prop} (hr : vx_Run p l e R s m args below meth c H locs cells slots mc ms (F0 m pc ls st0) rest (va_Qv post B A1 a) (vx_X px BX AX) free) (hS : va_S A0 H0 H locs) (hA : ∀ q, q < H.size → A1 q → A0 q) (hf : ∀ q, free q → A0 q) (hAX : ∀ q, q < H.size → AX q → A0 q)
    (kx : ∀ (E : String) (ce : Cell) (q9 : Addr) (u : SX) (t : State) (H1 : Heap) (locs1 : List Loc), t.heap = H1 → s.vm.Alike t.vm → px u → BX E u t → H.size ≤ H1.size → (∀ q : Nat, q < H.size → ¬ AX q → H1[q]? = H[q]?) → va_S A0 H0 H1 locs1 → H1[q9]? = some ce → ce.vm = .none → s.vm.findClass E = some ce.cls → vx_W p l e R s m args below meth c H1 locs1 (cells + mc) (slots + ms) Q (F0 m pc ls rest) q9)
    (kk : ∀ (u : S) (t : State) (H1 : Heap) (locs1 : List Loc), t.heap = H1 → s.vm.Alike t.vm → post u → B u t → H.size ≤ H1.size → (∀ q : Nat, q < H.size → ¬ A1 q → H1[q]? = H[q]?) → va_S A0 H0 H1 locs1 → W p l e R s m args below meth c H1 locs1 (cells + mc) (slots + ms) Q (F0 m (pc + 3) ls (rest))) : W p l e R s m args below meth c H locs cells slots Q (F0 m pc ls st0) := by
  intro T hT X
  rcases hr T hT X with ⟨v, st₀, t, T', L, h0, X', hL, e1, e2, ⟨⟨u, hv, hp, hb⟩, hF⟩, st⟩ | ⟨q, st₀, t, T', L, E, ce, h0, X', hL, e1, e2, ⟨u, hp, hb, hF⟩, hce, hcv, hcl, st⟩
  · cases hv
    obtain ⟨k1, k2, k3⟩ := vx_keep h0 e1 hS hA hf hL hF
    obtain ⟨t2, a1, b1⟩ := kk u t T'.heap (locs ++ L) e1.symm (by rw [← e2]; exact X'.warmed.alike) hp hb k1 k2 k3 T' rfl X'
    exact ⟨t2, st t2 a1, b1⟩
  · obtain ⟨k1, k2, k3⟩ := vx_keep h0 e1 hS hAX hf hL hF
    obtain ⟨t2, a1, b1⟩ := kx E ce q u t T'.heap (locs ++ L) e1.symm (by rw [← e2]; exact X'.warmed.alike) hp hb k1 k2 k3 (by rw [e1]; exact hce) hcv hcl T' rfl X'
    exact ⟨t2, st.trans a1, b1⟩
/-- caught by the row x of this method's table; the rows ahead don't take it -/
theorem vx_catch {own name : String} {E : String} {ce : Cell} {q : Addr} (hown : s.vm.findClass own = some m.cls) (pre : List ExceptionTableEntry) (x : ExceptionTableEntry) (suf : List ExceptionTableEntry) (hsplit : c.exceptionTable.toList = pre ++ x :: suf)
    (hpass : ∀ z ∈ pre, covers z pc = false ∨ (z.catchType ≠ 0 ∧ ∃ nm : String, (Cond.classLink own z.catchType nm).before args s = true ∧ va_Nc E nm s)) (hx : covers x pc = true) (h0 : x.catchType ≠ 0)
    (hlink : (Cond.classLink own x.catchType name).before args s = true) (hcast : (Cond.castable E name).before args s = true) (hcell : H[q]? = some ce) (hv : ce.vm = .none) (hcl : s.vm.findClass E = some ce.cls)
    (kk : W p l e R s m args below meth c H locs cells slots Q (F0 m x.handlerPc ls [.ref q])) : vx_W p l e R s m args below meth c H locs cells slots Q (F0 m pc ls rest) q := by
  intro T hT X
  have hpl : e.platform.magicAccessors = ({} : Platform).magicAccessors := by rw [X.admits.platform]
  obtain ⟨c3, c4, hc3, hc4, hasg⟩ := Cond.castable_spec hcast
  cases Option.some.inj (hc3.symm.trans hcl)
  obtain ⟨c5, hc5, hcl5⟩ := Cond.classLink_spec hown hlink e.platform hpl
  cases Option.some.inj (hc4.symm.trans hc5)
  obtain ⟨vm', X', st⟩ := X.thenCaughtThrough q (g := F0 m pc ls rest) rfl (Steps.refl _) (by rw [hT]; exact hcell) (by rw [hv]; rfl) (by obtain ⟨k9, h9, -⟩ := Vm.findClass_spec hcl; exact ⟨k9, h9⟩) pre x suf hsplit
    (fun z hz => by
      rcases hpass z hz with h | ⟨hz0, nm, hl1, hn1⟩
      · exact Or.inl h
      · obtain ⟨c6, hc6, hcl6⟩ := Cond.classLink_spec hown hl1 e.platform hpl
        obtain ⟨a8, b8, h1, h2, h3⟩ := hn1
        cases Option.some.inj (h1.symm.trans hcl)
        cases Option.some.inj (h2.symm.trans hc6)
        exact Or.inr ⟨hz0, _, hcl6, h3⟩) hx (Or.inr ⟨h0, c4, hcl5, hasg⟩)
  obtain ⟨t, a1, b1⟩ := kk (T.setVm vm') hT X'
  exact ⟨t, st.trans a1, b1⟩
end Rows
section Ends
variable {p : Program} {l : Launch} {e : Env} {R : Room} {s : State} {m : MethodId} {args : Array Value} {below : List Frame} {meth : Method} {c : Code} {H : Heap} {locs : List Loc} {cells slots : Nat} {Q : State → Prop}
variable {mc ms : Nat} {free : Addr → Prop} {A0 A1 : Nat → Prop} {H0 : Heap} {a : Array Value} {ls : Array Slot} {st0 rest : List Value}
variable {Qc : Array Value → State → Outcome → State → Prop} {XC : String → State → State → Prop}
/-- what a body that may throw owes at its end -/
def vx_MQ (below : List Frame) (Qc : Array Value → State → Outcome → State → Prop) (XC : String → State → State → Prop) (a : Array Value) (s : State) (mc ms : Nat) (free : Addr → Prop) : State → Prop := fun t =>
  ∃ o, t.status = .running ∧ Ended t below o ∧ vx_Q Qc XC mc ms free a s o t
theorem vx_ret {g : JFrame} {mc ms : Nat} (k : W p l e R s m args below meth c H locs cells slots (MQ below Qc args s mc ms free) g) : W p l e R s m args below meth c H locs cells slots (vx_MQ below Qc XC args s mc ms free) g := by
  intro T hT X
  obtain ⟨t, a1, o, b1, b2, b3, b4⟩ := k T hT X
  exact ⟨t, a1, o, b1, b2, Or.inl ⟨b3, b4⟩⟩
/-- not caught here: it goes on to the caller -/
theorem vx_widen {g : JFrame} {q : Addr} {k n : Nat} (h1 : cells ≤ k) (h2 : slots ≤ n) (kk : vx_W p l e R s m args below meth c H locs k n Q g q) : vx_W p l e R s m args below meth c H locs cells slots Q g q := fun T hT X => kk T hT (stand_widen X h1 h2)
theorem vx_out {pc : Nat} {E : String} {ce : Cell} {q : Addr} {mc ms : Nat} (hout : ∀ x ∈ c.exceptionTable.toList, covers x pc = false) (hlocks : meth.locks = false) (hcell : H[q]? = some ce) (hv : ce.vm = .none) (hcl : s.vm.findClass E = some ce.cls)
    (hx : ∀ t : State, t.heap = H → s.vm.Alike t.vm → XC E s t) (hf : ∀ z ∈ locs, free z.base) (hc : cells ≤ mc) (hs : slots ≤ ms) :
    vx_W p l e R s m args below meth c H locs cells slots (vx_MQ below Qc XC args s mc ms free) (F0 m pc ls rest) q := by
  intro T hT X
  obtain ⟨st1, hrun, hend, hW, hsm⟩ := X.leaveThrown q (g := F0 m pc ls rest) rfl rfl rfl hout hlocks
  have hcell9 : (T.setFrames (.throwing q :: below)).heap[q]? = some ce := by
    show T.heap[q]? = some ce
    rw [hT]; exact hcell
  exact ⟨_, st1, .threw q, hrun, hend, Or.inr ⟨q, rfl, E, ce, locs, hx _ hT hW.alike, hcell9, hv, hcl, hW, hsm.mono hc hs, hf⟩⟩
theorem vx_frame {U : State} {k n : Nat} (h : s.sameButNew ({ U with vm := s.vm } : State) locs k n) : s.heap.size ≤ U.heap.size ∧ ∀ q : Nat, q < s.heap.size → (∀ z ∈ locs, z.base ≠ q) → U.heap[q]? = s.heap[q]? := by
  obtain ⟨-, h2, -, -, -, h6⟩ := h
  refine ⟨h2, fun q hq hz => ?_⟩
  obtain ⟨c9, e1, e2, e3, e4⟩ := h6 q _ (Array.getElem?_eq_getElem hq)
  have hs : c9.slots = (s.heap[q]).slots := Array.ext_getElem? fun i => e4 i fun hm => hz _ hm rfl
  have h9 : c9 = s.heap[q] := by
    rw [hs] at e2
    exact e2
  have e5 : U.heap[q]? = some c9 := e1
  rw [e5, h9, Array.getElem?_eq_getElem hq]
/-- the words of a throw but the four that speak of the heap -/
def vx_no (w : Cond) : Bool := decide (w ≠ .isRef (.static Bundle.tN "UNASSIGNED_STACK" Bundle.steD)) && decide (w ≠ .isRef (.static Bundle.tN "SUPPRESSED_SENTINEL" Bundle.listD)) && decide (w ≠ .laysStatic Bundle.tN "UNASSIGNED_STACK" Bundle.steD) && decide (w ≠ .laysStatic Bundle.tN "SUPPRESSED_SENTINEL" Bundle.listD)
def vx_at0 (own : String) (ic : Nat) (X : String) (names : List String) : List Cond := (Bundle.ownAtoms0 own ic X names).filter vx_no
def vx_atS (own : String) (ic : Nat) (X : String) (names : List String) : List Cond := (Bundle.ownAtoms own ic X names).filter vx_no
/-- a word that the tables alone decide, or a good one -/
def vx_ot (w : Cond) : Bool := w.onTables || goodWord w
theorem vx_ot_at {args a' : Array Value} {s U : State} {w : Cond} (hW : s.WarmedH U.vm) (hvm : s.vm = U.vm) (hg : vx_ot w = true) (h : w.before args s = true) : w.before a' U = true := by
  simp only [vx_ot, Bool.or_eq_true] at hg
  rcases hg with hg | hg
  · exact va_tabs hg hvm h
  · exact word_at hW (good_of_word hg) h
/-- a list's words: the good ones out of the method's own list, the others by premises of their own -/
theorem vx_hat {args : Array Value} {s : State} {L B : List Cond} (h1 : ∀ w ∈ L.filter goodWord, w.before args s = true) (h2 : ∀ w ∈ L.filter (fun w => !goodWord w), w ∈ B) (h3 : ∀ w ∈ B, w.before args s = true) : ∀ w ∈ L, w.before args s = true := by
  intro w hw
  by_cases g : goodWord w = true
  · exact h1 w (List.mem_filter.mpr ⟨hw, g⟩)
  · refine h3 w (h2 w (List.mem_filter.mpr ⟨hw, ?_⟩))
    show (!goodWord w) = true
    cases hgw : goodWord w
    · rfl
    · exact absurd hgw g
theorem vx_c {args : Array Value} {s : State} {w : Cond} {B : List Cond} (h : w.before args s = true) (t : ∀ w ∈ B, w.before args s = true) : ∀ w' ∈ w :: B, w'.before args s = true := fun w' h' => (List.mem_cons.mp h').elim (fun e => by rw [e]; exact h) (t w')
theorem vx_n {args : Array Value} {s : State} : ∀ w ∈ ([] : List Cond), w.before args s = true := fun _ h => nomatch h
theorem vx_own {args : Array Value} {s : State} {L : List Cond} (h1 : ∀ w ∈ L.filter vx_no, w.before args s = true)
    (hU : (Cond.isRef (.static Bundle.tN "UNASSIGNED_STACK" Bundle.steD)).before args s = true) (hN : (Cond.isRef (.static Bundle.tN "SUPPRESSED_SENTINEL" Bundle.listD)).before args s = true)
    (lU : (Cond.laysStatic Bundle.tN "UNASSIGNED_STACK" Bundle.steD).before args s = true) (lN : (Cond.laysStatic Bundle.tN "SUPPRESSED_SENTINEL" Bundle.listD).before args s = true) : ∀ w ∈ L, w.before args s = true := by
  intro w hw
  by_cases e1 : w = .isRef (.static Bundle.tN "UNASSIGNED_STACK" Bundle.steD)
  · rw [e1]; exact hU
  · by_cases e2 : w = .isRef (.static Bundle.tN "SUPPRESSED_SENTINEL" Bundle.listD)
    · rw [e2]; exact hN
    · by_cases e3 : w = .laysStatic Bundle.tN "UNASSIGNED_STACK" Bundle.steD
      · rw [e3]; exact lU
      · by_cases e4 : w = .laysStatic Bundle.tN "SUPPRESSED_SENTINEL" Bundle.listD
        · rw [e4]; exact lN
        · exact h1 w (List.mem_filter.mpr ⟨hw, by unfold vx_no; rw [decide_eq_true e1, decide_eq_true e2, decide_eq_true e3, decide_eq_true e4]; rfl⟩)
/-- where a static field lies, its class's statics cell in H -/
def vx_L (C n d : String) (A : Nat → Prop) (U : State) (H : Heap) : Prop := ∃ (c : ClassId) (k : Class) (i : Nat) (f : Field) (a : Nat) (cell : Cell), U.vm.findClass C = some c ∧ U.fieldFound? C n d = some (c, k, i, f) ∧ f.isStatic = true ∧ k.statics = some a ∧ H[a]? = some cell ∧ cell.vm.isStatics = true ∧ cell.cls = c ∧ f.slot < cell.slots.size ∧ k.staticTypes[f.slot]? = some f.type ∧ ¬ A a
theorem vx_L.moved {C n d : String} {A : Nat → Prop} {u U : State} {H : Heap} (hvm : u.vm.Alike U.vm) (h : vx_L C n d A u H) : vx_L C n d A U H := by
  obtain ⟨c, k, i, f, a, cell, h1, h2, h3, h4, h5, h6, h7, h8, h9, h10⟩ := h
  obtain ⟨k', hi', he⟩ := State.fieldFound?_setVm hvm h2
  exact ⟨c, k', i, f, a, cell, by rw [hvm.findClass]; exact h1, hi', h3, by rw [he]; exact h4, h5, h6, h7, h8, by rw [he]; exact h9, h10⟩
theorem vx_L.kept {C n d : String} {A : Nat → Prop} {U : State} {H H1 : Heap} (h : vx_L C n d A U H) (hq : ∀ a : Nat, a < H.size → ¬ A a → H1[a]? = H[a]?) : vx_L C n d A U H1 := by
  obtain ⟨c, k, i, f, a, cell, h1, h2, h3, h4, h5, h6, h7, h8, h9, h10⟩ := h
  exact ⟨c, k, i, f, a, cell, h1, h2, h3, h4, by rw [hq a (Array.getElem?_eq_some_iff.mp h5).1 h10]; exact h5, h6, h7, h8, h9, h10⟩
theorem vx_L.narrow {C n d : String} {A B : Nat → Prop} {U : State} {H : Heap} (h : vx_L C n d A U H) (hAB : ∀ q, B q → A q) : vx_L C n d B U H := by
  obtain ⟨c, k, i, f, a, cell, h1, h2, h3, h4, h5, h6, h7, h8, h9, h10⟩ := h
  exact ⟨c, k, i, f, a, cell, h1, h2, h3, h4, h5, h6, h7, h8, h9, fun z => h10 (hAB _ z)⟩
theorem vx_L.word {C n d : String} {A : Nat → Prop} {s : State} {args : Array Value} (h : vx_L C n d A s s.heap) : (Cond.laysStatic C n d).before args s = true := by
  obtain ⟨c, k, i, f, a, cell, h1, h2, h3, h4, h5, h6, h7, h8, h9, -⟩ := h
  show (Cond.laysStatic C n d).holds args s none s [] = true
  exact Cond.laysStatic_of h1 h2 h3 h4 h5 h6 h7 h8 h9
/-- .. and what it holds: null or some reference -/
def vx_Zq (C n d : String) (A : Nat → Prop) (U : State) (H : Heap) : Prop := va_Zq C n d A U H ∧ vx_L C n d A U H
theorem vx_Zq.moved {C n d : String} {A : Nat → Prop} {u U : State} {H : Heap} (hvm : u.vm.Alike U.vm) (h : vx_Zq C n d A u H) : vx_Zq C n d A U H := ⟨va_Zq.moved hvm h.1, vx_L.moved hvm h.2⟩
theorem vx_Zq.kept {C n d : String} {A : Nat → Prop} {U : State} {H H1 : Heap} (h : vx_Zq C n d A U H) (hq : ∀ a : Nat, a < H.size → ¬ A a → H1[a]? = H[a]?) : vx_Zq C n d A U H1 := ⟨va_Zq.kept h.1 hq, vx_L.kept h.2 hq⟩
theorem vx_Zq.narrow {C n d : String} {A B : Nat → Prop} {U : State} {H : Heap} (h : vx_Zq C n d A U H) (hAB : ∀ q, B q → A q) : vx_Zq C n d B U H := ⟨va_Zq.narrow h.1 hAB, vx_L.narrow h.2 hAB⟩
theorem vx_Zqof {args : Array Value} {s : State} {C n d : String} {A : Nat → Prop} (hl : (Cond.laysStatic C n d).before args s = true) (hini : (Cond.initialized C).before args s = true) (h : (Cond.isRef (.static C n d)).before args s = true) (hA : ∀ a : Nat, a < s.heap.size → ¬ A a) : vx_Zq C n d A s s.heap := by
  refine ⟨va_Zqof hl hini h hA, ?_⟩
  obtain ⟨c, k, i, f, a, cell, h1, h2, h3, h4, h5, h6, h7, h8, h9⟩ := Cond.laysStatic_spec hl
  exact ⟨c, k, i, f, a, cell, h1, h2, h3, h4, h5, h6, h7, h8, h9, hA a (Array.getElem?_eq_some_iff.mp h5).1⟩
theorem vx_isRef {C n d : String} {v : Value} {A : Nat → Prop} {s : State} {args : Array Value} (h : va_Z C n d v A s s.heap) (hv : v.isRef = true) : (Cond.isRef (.static C n d)).before args s = true := by
  obtain ⟨cf, kf, fi, f, a, cell, h1, h2, h3, h4, h5, h6, h7, -⟩ := h
  have he : (Term.static C n d).eval args s none [] s = some v := by
    simp [Term.eval, State.fieldNamed?, h1, h2, h4, h5, h6, h7]
  simp only [Cond.before, Cond.holds, Cond.value, he]
  cases v <;> simp_all [Value.isRef]
theorem vx_isRefq {C n d : String} {A : Nat → Prop} {s : State} {args : Array Value} (h : va_Zq C n d A s s.heap) : (Cond.isRef (.static C n d)).before args s = true := by
  rcases h with h | ⟨t, h⟩
  · exact vx_isRef h rfl
  · exact vx_isRef h rfl
/-- the same frame, seen from here: as if the method were called anew in this heap -/
theorem vx_rebase {T : State} (X : Stand p l e R s m args below meth c T locs cells slots) {R' : Room} (hf : R'.frames ≤ R.frames) (hl : R'.locals ≤ R.locals) (hc : cells + R'.cells ≤ R.cells) (hs : slots + R'.slots ≤ R.slots) :
    Stand p l e R' ((T.setVm s.vm).setFrames (.invoking m args :: below)) m args below meth c T [] 0 0 := by
  have htop : (T.setVm s.vm).topJava?.isSome := X.here.top
  have hF : ((T.setVm s.vm).setFrames (.invoking m args :: below)).frames = .invoking m args :: below := State.frames_setFrames _ (State.cur_lt_of_top htop)
  obtain ⟨g₀, hg0⟩ := Option.isSome_iff_exists.mp htop
  obtain ⟨r, hr⟩ := State.topJava?_eq_some.mp hg0
  have hl9 : e.platform.stackLimits (T.setVm s.vm).me = e.platform.stackLimits s.me := X.limits
  have hb9 : (T.setVm s.vm).me.stackBytes = s.me.stackBytes := X.bytes
  refine ⟨X.admits, X.cas, X.clock, hF, ?_, X.hears, X.method, X.code, X.here, X.tail, X.warmed, ?_, ?_, ?_⟩
  · have h := X.room
    have hU : ((T.setVm s.vm).setFrames (.invoking m args :: below)).localsInUse = s.localsInUse := by
      rw [State.localsInUse_invoking hF (meth := meth) (c := c) X.method X.code, State.localsInUse_invoking X.frames X.method X.code]
    simp only [State.hasRoom, Bool.and_eq_true, decide_eq_true_eq] at h ⊢
    obtain ⟨⟨⟨⟨h1, h2, h3, h4, h5, h6⟩, h7⟩, h8⟩, h9⟩ := h
    rw [X.frames, List.length_cons] at h2 h3
    have q1 := X.heapSize
    have q2 := X.used
    simp only [hF, hU, List.length_cons, State.stackLimits_setFrames, State.stackBytes_setFrames, hl9, hb9]
    refine ⟨⟨⟨⟨by omega, by omega, by omega, by omega, by omega, h6⟩, ?_⟩, ?_⟩, X.book⟩
    · show T.heap.size + R'.cells ≤ e.platform.maxCells
      omega
    · show T.slotsUsed + R'.slots ≤ e.platform.maxSlots
      omega
  · rw [State.stackLimits_setFrames]; rfl
  · rw [State.stackBytes_setFrames]; rfl
  · refine ⟨?_, Nat.le_refl _, Nat.le_refl _, ?_, ?_, fun a c9 h9 => ⟨c9, h9, rfl, rfl, fun _ _ => rfl⟩⟩
    · obtain ⟨t, ht, -⟩ := State.frames_cons hr
      show T.setVm s.vm = { ((T.setVm s.vm).setFrames (.invoking m args :: below)).setFrames (T.setVm s.vm).frames with heap := T.heap, slotsUsed := T.slotsUsed }
      rw [State.setFrames_setFrames, State.setFrames_self ht]
      rfl
    · show T.slotsUsed = T.slotsUsed + ((T.heap.toList.drop T.heap.size).map (·.slots.size)).sum
      rw [List.drop_eq_nil_of_le (Nat.le_of_eq Array.length_toList)]
      rfl
    · show ((T.heap.toList.drop T.heap.size).map (·.slots.size)).sum ≤ 0
      rw [List.drop_eq_nil_of_le (Nat.le_of_eq Array.length_toList)]
      exact Nat.le_refl _
/-- 'throw new E()': new; dup; invokespecial; athrow -/
theorem vx_throw0 {cc : ByteArray} {pc : Nat} (hexec : p.tables.exec = Jvm.exec) (hb : c.code = cc) (hl : l.stackTraces = false) {own cls : String} {names : List String} {ik ic mc ms : Nat} {A : Nat → Prop}
    (hown : s.vm.findClass own = some m.cls) (hcls : Bundle.fit cls = true) (hnames : ∀ n ∈ names, Bundle.fit n = true)
    (hk : (Cond.classLink own ik cls).before args s = true) (hini : (Cond.initialized cls).before args s = true) (hat : ∀ w ∈ vx_at0 own ic cls names, w.before args s = true)
    (hgood : ∀ w ∈ Cond.classLink own ik cls :: Cond.initialized cls :: vx_at0 own ic cls names, vx_ot w = true)
    (hU : vx_Zq Bundle.tN "UNASSIGNED_STACK" Bundle.steD A s s.heap) (hN : vx_Zq Bundle.tN "SUPPRESSED_SENTINEL" Bundle.listD A s s.heap) (hS : va_S A s.heap H locs) (hsize : ls.size = c.maxLocals)
    (d0 : decode cc pc = .ok (.new ik, 3)) (d3 : decode cc (pc + 3) = .ok (.dup, 1)) (d4 : decode cc (pc + 4) = .ok (.invokespecial ic, 3)) (d7 : decode cc (pc + 7) = .ok (.athrow, 1))
    (hout : ∀ x ∈ c.exceptionTable.toList, covers x (pc + 7) = false)
    (hRframes : names.length + 3 < R.frames) (hRlocals : (rest.map fun v => v.category).sum + (13 * (names.length + 1) + 42) ≤ R.locals) (hRcells : cells + 1 ≤ R.cells) (hRslots : slots + 6 ≤ R.slots) (hlocks : meth.locks = false)
    (hx : ∀ t : State, s.vm.Alike t.vm → H.size ≤ t.heap.size → (∀ q : Nat, q < H.size → t.heap[q]? = H[q]?) → XC cls s t)
    (hf : ∀ z ∈ locs, free z.base) (hc : cells + 1 ≤ mc) (hs : slots + 6 ≤ ms) :
    W p l e R s m args below meth c H locs cells slots (vx_MQ below Qc XC args s mc ms free) (F0 m pc ls rest) := by
  intro T hT X
  have htr : e.platform.stackTraces = false := (show e.platform.stackTraces = l.stackTraces by rw [X.admits.platform]).trans hl
  have Y := vx_rebase X (R' := { frames := R.frames, locals := R.locals, cells := 1, slots := 6 }) (Nat.le_refl _) (Nat.le_refl _) hRcells hRslots
  obtain ⟨s', hA⟩ : ∃ z, z = (T.setVm s.vm).setFrames (.invoking m args :: below) := ⟨_, rfl⟩
  rw [← hA] at Y
  have hvm : s'.vm = s.vm := by rw [hA]; rfl
  have hhp : s'.heap = H := by rw [hA]; exact hT
  have hW0 : s.WarmedH s'.vm := by rw [hvm]; exact State.WarmedH.refl s
  have hat' : ∀ w ∈ vx_at0 own ic cls names, w.before args s' = true := fun w hw => vx_ot_at hW0 hvm.symm (hgood w (List.mem_cons_of_mem _ (List.mem_cons_of_mem _ hw))) (hat w hw)
  have hk' : (Cond.classLink own ik cls).before args s' = true := vx_ot_at hW0 hvm.symm (hgood _ List.mem_cons_self) hk
  have hini' : (Cond.initialized cls).before args s' = true := vx_ot_at hW0 hvm.symm (hgood _ (List.mem_cons_of_mem _ List.mem_cons_self)) hini
  have hU' : vx_Zq Bundle.tN "UNASSIGNED_STACK" Bundle.steD A s' s'.heap := by rw [hhp]; exact vx_Zq.moved hW0.alike (hU.kept hS.2.1)
  have hN' : vx_Zq Bundle.tN "SUPPRESSED_SENTINEL" Bundle.listD A s' s'.heap := by rw [hhp]; exact vx_Zq.moved hW0.alike (hN.kept hS.2.1)
  have h : ∀ w ∈ Bundle.ownAtoms0 own ic cls names, w.before args s' = true := vx_own hat' (vx_isRefq hU'.1) (vx_isRefq hN'.1) hU'.2.word hN'.2.word
  have hown' : s'.vm.findClass own = some m.cls := by rw [hvm]; exact hown
  have hins : (Cond.instantiable cls 6).before args s' = true := h _ (by simp [Bundle.ownAtoms0])
  obtain ⟨vm₁, cX, kX, hfX, hkX, -, -, X₁, st1⟩ := Y.newCold hexec (own := own) (C := cls) (index := ik) (n := 6) hown' hk' hins hini'
    (g := F0 m pc ls rest) rfl (by rw [hb]; exact d0) (Nat.le_refl _) (Nat.le_refl _)
  generalize hT1 : (T.setVm vm₁).pushCell { cls := cX, slots := kX.instanceTypes.map defaultValue, vm := .none } = T1 at X₁ st1
  have hcat : (Value.ref T.heap.size).category = 1 := rfl
  have hcellA : T1.heap[T.heap.size]? = some (freshCell cX kX) := by rw [← hT1]; exact State.heap_pushCell_size _ _
  have d3' : decode c.code (pc + 3) = .ok (.dup, 1) := by rw [hb]; exact d3
  obtain ⟨U, hsteps, hrun, hend, hW, hsame, ce, hce, hO⟩ := X₁.ctorThrow0 hexec htr (own := own) (cls := cls) (names := names) (ic := ic) hown' hcls hnames h (fun x hx => nomatch hx) hfX hkX hcellA (by rw [hhp, hT]; exact Nat.le_refl _)
    (g := { method := m, pc := pc + 4, locals := ls, stack := .ref T.heap.size :: .ref T.heap.size :: rest, locked := none }) rfl hsize rfl rfl (rest := rest) rfl
    (by rw [hb]; exact d4) (by rw [hb]; exact d7) hout hRframes (by simp only [List.map_cons, List.sum_cons, hcat]; omega) hlocks
  obtain ⟨f1, f2⟩ := vx_frame hsame
  rw [hhp] at f1 f2
  have hWs : s.WarmedH U.vm := State.WarmedH.trans hW0 hW
  have hcl : s.vm.findClass cls = some ce.cls := by
    have h9 := hO.cls
    rw [hvm] at h9
    exact h9
  have hall : s.sameButNew ({ U with vm := s.vm } : State) locs mc ms := by
    subst hA
    obtain ⟨e1, e2⟩ := hsame
    rw [State.setFrames_setFrames] at e1
    have h2 : (T.setVm s.vm).sameButNew ({ U with vm := s.vm } : State) [] (0 + 1) (0 + 6) := ⟨e1, e2⟩
    have h3 := X.same.trans h2
    rw [List.append_nil] at h3
    exact h3.mono hc hs
  refine ⟨U, ?_, .threw T.heap.size, hrun, hend, Or.inr ⟨T.heap.size, rfl, cls, ce, locs, hx U hWs.alike f1 (fun q hq => f2 q hq (fun z hz => nomatch hz)), hce, hO.vm, hcl, hWs, hall, hf⟩⟩
  refine st1 _ ?_
  show Steps p.tables e below (T1.setTop { method := m, pc := pc + 3, locals := ls, stack := .ref T.heap.size :: rest, locked := none }) _
  jvm_step X₁.here [X₁.here.top, hexec, d3', Value.category]
  exact hsteps
/-- 'throw new E("text")': new; dup; ldc; invokespecial; athrow -/
theorem vx_throwS {cc : ByteArray} {pc : Nat} (hexec : p.tables.exec = Jvm.exec) (hb : c.code = cc) (hl : l.stackTraces = false) {own cls text : String} {names : List String} {ik is ic mc ms sa : Nat} {A : Nat → Prop}
    (hown : s.vm.findClass own = some m.cls) (hcls : Bundle.fit cls = true) (hnames : ∀ n ∈ names, Bundle.fit n = true)
    (hk : (Cond.classLink own ik cls).before args s = true) (hini : (Cond.initialized cls).before args s = true) (hstr : vk_R own is text sa s) (hat : ∀ w ∈ vx_atS own ic cls names, w.before args s = true)
    (hgood : ∀ w ∈ Cond.classLink own ik cls :: Cond.initialized cls :: vx_atS own ic cls names, vx_ot w = true)
    (hU : vx_Zq Bundle.tN "UNASSIGNED_STACK" Bundle.steD A s s.heap) (hN : vx_Zq Bundle.tN "SUPPRESSED_SENTINEL" Bundle.listD A s s.heap) (hS : va_S A s.heap H locs) (hsize : ls.size = c.maxLocals)
    (d0 : decode cc pc = .ok (.new ik, 3)) (d3 : decode cc (pc + 3) = .ok (.dup, 1)) (d4 : decode cc (pc + 4) = .ok (.ldc is, 2)) (d6 : decode cc (pc + 6) = .ok (.invokespecial ic, 3)) (d9 : decode cc (pc + 9) = .ok (.athrow, 1))
    (hout : ∀ x ∈ c.exceptionTable.toList, covers x (pc + 9) = false)
    (hRframes : names.length + 3 < R.frames) (hRlocals : (rest.map fun v => v.category).sum + (13 * (names.length + 1) + 43) ≤ R.locals) (hRcells : cells + 1 ≤ R.cells) (hRslots : slots + 6 ≤ R.slots) (hlocks : meth.locks = false)
    (hx : ∀ t : State, s.vm.Alike t.vm → H.size ≤ t.heap.size → (∀ q : Nat, q < H.size → t.heap[q]? = H[q]?) → XC cls s t)
    (hf : ∀ z ∈ locs, free z.base) (hc : cells + 1 ≤ mc) (hs : slots + 6 ≤ ms) :
    W p l e R s m args below meth c H locs cells slots (vx_MQ below Qc XC args s mc ms free) (F0 m pc ls rest) := by
  intro T hT X
  have htr : e.platform.stackTraces = false := (show e.platform.stackTraces = l.stackTraces by rw [X.admits.platform]).trans hl
  have Y := vx_rebase X (R' := { frames := R.frames, locals := R.locals, cells := 1, slots := 6 }) (Nat.le_refl _) (Nat.le_refl _) hRcells hRslots
  obtain ⟨s', hA⟩ : ∃ z, z = (T.setVm s.vm).setFrames (.invoking m args :: below) := ⟨_, rfl⟩
  rw [← hA] at Y
  have hvm : s'.vm = s.vm := by rw [hA]; rfl
  have hhp : s'.heap = H := by rw [hA]; exact hT
  have hW0 : s.WarmedH s'.vm := by rw [hvm]; exact State.WarmedH.refl s
  have hat' : ∀ w ∈ vx_atS own ic cls names, w.before args s' = true := fun w hw => vx_ot_at hW0 hvm.symm (hgood w (List.mem_cons_of_mem _ (List.mem_cons_of_mem _ hw))) (hat w hw)
  have hk' : (Cond.classLink own ik cls).before args s' = true := vx_ot_at hW0 hvm.symm (hgood _ List.mem_cons_self) hk
  have hini' : (Cond.initialized cls).before args s' = true := vx_ot_at hW0 hvm.symm (hgood _ (List.mem_cons_of_mem _ List.mem_cons_self)) hini
  have hU' : vx_Zq Bundle.tN "UNASSIGNED_STACK" Bundle.steD A s' s'.heap := by rw [hhp]; exact vx_Zq.moved hW0.alike (hU.kept hS.2.1)
  have hN' : vx_Zq Bundle.tN "SUPPRESSED_SENTINEL" Bundle.listD A s' s'.heap := by rw [hhp]; exact vx_Zq.moved hW0.alike (hN.kept hS.2.1)
  have h : ∀ w ∈ Bundle.ownAtoms own ic cls names, w.before args s' = true := vx_own hat' (vx_isRefq hU'.1) (vx_isRefq hN'.1) hU'.2.word hN'.2.word
  have hown' : s'.vm.findClass own = some m.cls := by rw [hvm]; exact hown
  have hins : (Cond.instantiable cls 6).before args s' = true := h _ (by simp [Bundle.ownAtoms])
  obtain ⟨vm₁, cX, kX, hfX, hkX, -, -, X₁, st1⟩ := Y.newCold hexec (own := own) (C := cls) (index := ik) (n := 6) hown' hk' hins hini'
    (g := F0 m pc ls rest) rfl (by rw [hb]; exact d0) (Nat.le_refl _) (Nat.le_refl _)
  generalize hT1 : (T.setVm vm₁).pushCell { cls := cX, slots := kX.instanceTypes.map defaultValue, vm := .none } = T1 at X₁ st1
  have hcat : (Value.ref T.heap.size).category = 1 := rfl
  have hcellA : T1.heap[T.heap.size]? = some (freshCell cX kX) := by rw [← hT1]; exact State.heap_pushCell_size _ _
  have d3' : decode c.code (pc + 3) = .ok (.dup, 1) := by rw [hb]; exact d3
  have d4' : decode c.code (pc + 4) = .ok (.ldc is, 2) := by rw [hb]; exact d4
  have hstr' : vk_R own is text sa s' := vk_R.warm hW0 hstr
  obtain ⟨U, hsteps, hrun, hend, hW, hsame, ce, hce, hO⟩ := X₁.ctorThrowS hexec htr (own := own) (cls := cls) (names := names) (ic := ic) hown' hcls hnames h (fun x hx => nomatch hx) hfX hkX hcellA (by rw [hhp, hT]; exact Nat.le_refl _) (msg := .ref sa) rfl
    (g := { method := m, pc := pc + 6, locals := ls, stack := .ref sa :: .ref T.heap.size :: .ref T.heap.size :: rest, locked := none }) rfl hsize rfl rfl (rest := rest) rfl
    (by rw [hb]; exact d6) (by rw [hb]; exact d9) hout hRframes (by simp only [List.map_cons, List.sum_cons, hcat]; omega) hlocks
  obtain ⟨f1, f2⟩ := vx_frame hsame
  rw [hhp] at f1 f2
  have hWs : s.WarmedH U.vm := State.WarmedH.trans hW0 hW
  have hcl : s.vm.findClass cls = some ce.cls := by
    have h9 := hO.cls
    rw [hvm] at h9
    exact h9
  have hall : s.sameButNew ({ U with vm := s.vm } : State) locs mc ms := by
    subst hA
    obtain ⟨e1, e2⟩ := hsame
    rw [State.setFrames_setFrames] at e1
    have h2 : (T.setVm s.vm).sameButNew ({ U with vm := s.vm } : State) [] (0 + 1) (0 + 6) := ⟨e1, e2⟩
    have h3 := X.same.trans h2
    rw [List.append_nil] at h3
    exact h3.mono hc hs
  refine ⟨U, ?_, .threw T.heap.size, hrun, hend, Or.inr ⟨T.heap.size, rfl, cls, ce, locs, hx U hWs.alike f1 (fun q hq => f2 q hq (fun z hz => nomatch hz)), hce, hO.vm, hcl, hWs, hall, hf⟩⟩
  refine st1 _ ?_
  show Steps p.tables e below (T1.setTop { method := m, pc := pc + 3, locals := ls, stack := .ref T.heap.size :: rest, locked := none }) _
  jvm_step X₁.here [X₁.here.top, hexec, d3', Value.category]
  exact X₁.ldcString hexec (own := own) (text := text) (index := is) (a := sa) hown' hstr'.1 hstr'.2
    (g := { method := m, pc := pc + 4, locals := ls, stack := .ref T.heap.size :: .ref T.heap.size :: rest, locked := none }) rfl d4' _ hsteps
/-- 'throw new E("text")', the text by a wide index -/
theorem vx_throwSW {cc : ByteArray} {pc : Nat} (hexec : p.tables.exec = Jvm.exec) (hb : c.code = cc) (hl : l.stackTraces = false) {own cls text : String} {names : List String} {ik is ic mc ms sa : Nat} {A : Nat → Prop}
    (hown : s.vm.findClass own = some m.cls) (hcls : Bundle.fit cls = true) (hnames : ∀ n ∈ names, Bundle.fit n = true)
    (hk : (Cond.classLink own ik cls).before args s = true) (hini : (Cond.initialized cls).before args s = true) (hstr : vk_R own is text sa s) (hat : ∀ w ∈ vx_atS own ic cls names, w.before args s = true)
    (hgood : ∀ w ∈ Cond.classLink own ik cls :: Cond.initialized cls :: vx_atS own ic cls names, vx_ot w = true)
    (hU : vx_Zq Bundle.tN "UNASSIGNED_STACK" Bundle.steD A s s.heap) (hN : vx_Zq Bundle.tN "SUPPRESSED_SENTINEL" Bundle.listD A s s.heap) (hS : va_S A s.heap H locs) (hsize : ls.size = c.maxLocals)
    (d0 : decode cc pc = .ok (.new ik, 3)) (d3 : decode cc (pc + 3) = .ok (.dup, 1)) (d4 : decode cc (pc + 4) = .ok (.ldc_w is, 3)) (d7 : decode cc (pc + 7) = .ok (.invokespecial ic, 3)) (d10 : decode cc (pc + 10) = .ok (.athrow, 1))
    (hout : ∀ x ∈ c.exceptionTable.toList, covers x (pc + 10) = false)
    (hRframes : names.length + 3 < R.frames) (hRlocals : (rest.map fun v => v.category).sum + (13 * (names.length + 1) + 43) ≤ R.locals) (hRcells : cells + 1 ≤ R.cells) (hRslots : slots + 6 ≤ R.slots) (hlocks : meth.locks = false)
    (hx : ∀ t : State, s.vm.Alike t.vm → H.size ≤ t.heap.size → (∀ q : Nat, q < H.size → t.heap[q]? = H[q]?) → XC cls s t)
    (hf : ∀ z ∈ locs, free z.base) (hc : cells + 1 ≤ mc) (hs : slots + 6 ≤ ms) :
    W p l e R s m args below meth c H locs cells slots (vx_MQ below Qc XC args s mc ms free) (F0 m pc ls rest) := by
  intro T hT X
  have htr : e.platform.stackTraces = false := (show e.platform.stackTraces = l.stackTraces by rw [X.admits.platform]).trans hl
  have Y := vx_rebase X (R' := { frames := R.frames, locals := R.locals, cells := 1, slots := 6 }) (Nat.le_refl _) (Nat.le_refl _) hRcells hRslots
  obtain ⟨s', hA⟩ : ∃ z, z = (T.setVm s.vm).setFrames (.invoking m args :: below) := ⟨_, rfl⟩
  rw [← hA] at Y
  have hvm : s'.vm = s.vm := by rw [hA]; rfl
  have hhp : s'.heap = H := by rw [hA]; exact hT
  have hW0 : s.WarmedH s'.vm := by rw [hvm]; exact State.WarmedH.refl s
  have hat' : ∀ w ∈ vx_atS own ic cls names, w.before args s' = true := fun w hw => vx_ot_at hW0 hvm.symm (hgood w (List.mem_cons_of_mem _ (List.mem_cons_of_mem _ hw))) (hat w hw)
  have hk' : (Cond.classLink own ik cls).before args s' = true := vx_ot_at hW0 hvm.symm (hgood _ List.mem_cons_self) hk
  have hini' : (Cond.initialized cls).before args s' = true := vx_ot_at hW0 hvm.symm (hgood _ (List.mem_cons_of_mem _ List.mem_cons_self)) hini
  have hU' : vx_Zq Bundle.tN "UNASSIGNED_STACK" Bundle.steD A s' s'.heap := by rw [hhp]; exact vx_Zq.moved hW0.alike (hU.kept hS.2.1)
  have hN' : vx_Zq Bundle.tN "SUPPRESSED_SENTINEL" Bundle.listD A s' s'.heap := by rw [hhp]; exact vx_Zq.moved hW0.alike (hN.kept hS.2.1)
  have h : ∀ w ∈ Bundle.ownAtoms own ic cls names, w.before args s' = true := vx_own hat' (vx_isRefq hU'.1) (vx_isRefq hN'.1) hU'.2.word hN'.2.word
  have hown' : s'.vm.findClass own = some m.cls := by rw [hvm]; exact hown
  have hins : (Cond.instantiable cls 6).before args s' = true := h _ (by simp [Bundle.ownAtoms])
  obtain ⟨vm₁, cX, kX, hfX, hkX, -, -, X₁, st1⟩ := Y.newCold hexec (own := own) (C := cls) (index := ik) (n := 6) hown' hk' hins hini'
    (g := F0 m pc ls rest) rfl (by rw [hb]; exact d0) (Nat.le_refl _) (Nat.le_refl _)
  generalize hT1 : (T.setVm vm₁).pushCell { cls := cX, slots := kX.instanceTypes.map defaultValue, vm := .none } = T1 at X₁ st1
  have hcat : (Value.ref T.heap.size).category = 1 := rfl
  have hcellA : T1.heap[T.heap.size]? = some (freshCell cX kX) := by rw [← hT1]; exact State.heap_pushCell_size _ _
  have d3' : decode c.code (pc + 3) = .ok (.dup, 1) := by rw [hb]; exact d3
  have d4' : decode c.code (pc + 4) = .ok (.ldc_w is, 3) := by rw [hb]; exact d4
  have hstr' : vk_R own is text sa s' := vk_R.warm hW0 hstr
  obtain ⟨U, hsteps, hrun, hend, hW, hsame, ce, hce, hO⟩ := X₁.ctorThrowS hexec htr (own := own) (cls := cls) (names := names) (ic := ic) hown' hcls hnames h (fun x hx => nomatch hx) hfX hkX hcellA (by rw [hhp, hT]; exact Nat.le_refl _) (msg := .ref sa) rfl
    (g := { method := m, pc := pc + 7, locals := ls, stack := .ref sa :: .ref T.heap.size :: .ref T.heap.size :: rest, locked := none }) rfl hsize rfl rfl (rest := rest) rfl
    (by rw [hb]; exact d7) (by rw [hb]; exact d10) hout hRframes (by simp only [List.map_cons, List.sum_cons, hcat]; omega) hlocks
  obtain ⟨f1, f2⟩ := vx_frame hsame
  rw [hhp] at f1 f2
  have hWs : s.WarmedH U.vm := State.WarmedH.trans hW0 hW
  have hcl : s.vm.findClass cls = some ce.cls := by
    have h9 := hO.cls
    rw [hvm] at h9
    exact h9
  have hall : s.sameButNew ({ U with vm := s.vm } : State) locs mc ms := by
    subst hA
    obtain ⟨e1, e2⟩ := hsame
    rw [State.setFrames_setFrames] at e1
    have h2 : (T.setVm s.vm).sameButNew ({ U with vm := s.vm } : State) [] (0 + 1) (0 + 6) := ⟨e1, e2⟩
    have h3 := X.same.trans h2
    rw [List.append_nil] at h3
    exact h3.mono hc hs
  refine ⟨U, ?_, .threw T.heap.size, hrun, hend, Or.inr ⟨T.heap.size, rfl, cls, ce, locs, hx U hWs.alike f1 (fun q hq => f2 q hq (fun z hz => nomatch hz)), hce, hO.vm, hcl, hWs, hall, hf⟩⟩
  refine st1 _ ?_
  show Steps p.tables e below (T1.setTop { method := m, pc := pc + 3, locals := ls, stack := .ref T.heap.size :: rest, locked := none }) _
  jvm_step X₁.here [X₁.here.top, hexec, d3', Value.category]
  exact X₁.ldcStringW hexec (own := own) (text := text) (index := is) (a := sa) hown' hstr'.1 hstr'.2
    (g := { method := m, pc := pc + 4, locals := ls, stack := .ref T.heap.size :: .ref T.heap.size :: rest, locked := none }) rfl d4' _ hsteps
end Ends
section Bodies
variable {l : Launch}
theorem vx_ofW {y : MethodName} {ws ws' : List Cond} {rm : Room} {Pc : Array Value → State → Prop} {Qc : Array Value → State → Outcome → State → Prop} {XC : String → State → State → Prop} {mc ms : Nat} {free : Addr → Prop} {cc : ByteArray} {maxL : Nat} {ret : Option FieldType}
    (hy : plainName y.cls = true) (hw : ws = Cond.code y cc maxL ret :: ws')
    (body : ∀ p e s m args below meth c s₁, BodyLoose p l y (headSpec ws rm) cc maxL ret e s m args below meth c s₁ → c.maxLocals = maxL → (∀ x ∈ c.exceptionTable.toList, False) → Pc args s →
      W p l e (headSpec ws rm).room s m args below meth c s.heap [] 0 0 (vx_MQ below Qc XC args s mc ms free) (entryFrame m args maxL)) : vx_Met l y ws rm Pc Qc XC mc ms free := by
  refine MetFree.of_bodyS (code := cc) (maxLocals := maxL) (ret := ret) hy ?_ ?_
  · intro args s m h hn
    obtain ⟨meth, c, h1, h2, h3, h4, h5, h6, -, -⟩ := Cond.code_spec hn (atoms_spec (ws := ws) h _ (by rw [hw]; exact List.mem_cons_self))
    exact ⟨meth, c, h1, h2, h3, h4, h5, h6⟩
  · intro p e s m args below meth c s₁ B hml hP _
    have hh0 : s₁.heap = s.heap := by rw [B.state]; rfl
    have ht : ∀ x ∈ c.exceptionTable.toList, False := by
      obtain ⟨meth9, c9, h1, h2, -, -, -, -, h7, -⟩ := Cond.code_spec B.named (atoms_spec (ws := ws) B.pre _ (by rw [hw]; exact List.mem_cons_self))
      cases Option.some.inj (h1.symm.trans B.method)
      cases Option.some.inj (h2.symm.trans (Stand.of_body B).code)
      intro x hx
      rw [Array.isEmpty_iff.mp h7] at hx
      cases hx
    obtain ⟨t, a1, o, b1, b2, b3⟩ := body p e s m args below meth c s₁ B hml ht hP s₁ hh0 (Stand.of_body B)
    exact ⟨t, o, a1, b1, b2, b3⟩
/-- the table of a body with handlers -/
theorem vx_table {p : Program} {x y : MethodName} {S : Spec} {cc bytes : ByteArray} {maxL maxL' : Nat} {ret ret' : Option FieldType} {e : Env} {s s₁ : State} {m : MethodId} {args : Array Value} {below : List Frame} {meth : Method} {c : Code} {hh : List (Nat × Nat × Nat × Nat)}
    (B : BodyLoose p l y S cc maxL ret e s m args below meth c s₁) (h : (Cond.codeWith y bytes maxL' ret' hh).before args s = true) : c.exceptionTable.toList = tableOf hh := by
  obtain ⟨m9, meth9, c9, hn9, h1, h2, -, -, h6, -⟩ := Cond.codeWith_spec h
  cases Option.some.inj (hn9.symm.trans B.named)
  cases Option.some.inj (h1.symm.trans B.method)
  cases Option.some.inj (h2.symm.trans (Stand.of_body B).code)
  rw [← h6, table_eq]
end Bodies
end VXA
/-! ===== END ===== -/
/-! ===== BEGIN a static call of a method with an exception table ===== -/
section VXS
variable {p : Program} {l : Launch} {e : Env} {R : Room} {s : State} {m : MethodId} {args : Array Value} {below : List Frame} {meth : Method} {c : Code} {T : State} {H : Heap} {locs : List Loc} {cells slots : Nat}
abbrev vx_CSW (R : Room) (s : State) (args : Array Value) (own : String) (index : Nat) (y : MethodName) (bytes : ByteArray) (maxL : Nat) (ret : Option FieldType) (hh : List (Nat × Nat × Nat × Nat)) (ws : List Cond) (rm : Room) (mc ms n : Nat) : Prop :=
  (rm.cells = mc ∧ rm.slots = ms ∧ rm.frames + 1 ≤ R.frames ∧ 8 + (maxL + 11) + rm.locals ≤ R.locals ∧ (∀ w ∈ ws, ∀ (a' : Array Value) (U : State), s.WarmedH U.vm → w.before a' U = true) ∧ Cond.codeWith y bytes maxL ret hh ∈ ws) ∧
  (Cond.codeWith y bytes maxL ret hh).before args s = true ∧ (Cond.initialized y.cls).before args s = true ∧ (y.cls ≠ "java/lang/invoke/MethodHandle" ∧ y.cls ≠ "java/lang/invoke/VarHandle") ∧
  (∀ sig, parseMethodDescriptor y.desc = some sig → n = sig.parameters.length) ∧ (Cond.methodLink own index y).before args s = true ∧ (Cond.static y).before args s = true
theorem vx_cwSW {own : String} {index maxL mc ms : Nat} {y : MethodName} {bytes : ByteArray} {ret : Option FieldType} {hh : List (Nat × Nat × Nat × Nat)} {Ts ws ws' : List Cond} {rm : Room} (n : Nat) (ht : ∀ w ∈ Ts, w.before args s = true) (hT : GoodIn Ts (va_wsS own index y ws)) (hw : ws = Cond.codeWith y bytes maxL ret hh :: ws') (hrc : rm.cells = mc) (hrs : rm.slots = ms)
    (hd : y.cls ≠ "java/lang/invoke/MethodHandle" ∧ y.cls ≠ "java/lang/invoke/VarHandle" ∧ (parseMethodDescriptor y.desc).map (fun d => d.parameters.length) = some n) (hR : rm.frames + 1 ≤ R.frames ∧ 8 + (maxL + 11) + rm.locals ≤ R.locals) :
    vx_CSW R s args own index y bytes maxL ret hh ws rm mc ms n := by
  have ok : ∀ w ∈ va_wsS own index y ws, w.before args s = true := fun w h => ht w (hT w h).1
  have hG : GoodIn Ts ws := fun w h => hT w (by unfold va_wsS; exact List.mem_append_right _ h)
  have hc : Cond.codeWith y bytes maxL ret hh ∈ ws := by rw [hw]; exact List.mem_cons_self
  refine ⟨⟨hrc, hrs, hR.1, hR.2, pay_in ht hG, hc⟩, ht _ (hG _ hc).1, ok _ (by simp [va_wsS]), ⟨hd.1, hd.2.1⟩, fun sig h => ?_, ok _ (by simp [va_wsS]), ok _ (by simp [va_wsS])⟩
  have h2 := hd.2.2
  rw [h] at h2
  exact (Option.some.inj h2).symm
theorem vx_callSW (X : Stand p l e R s m args below meth c T locs cells slots) (hexec : p.tables.exec = Jvm.exec) {own : String} {index : Nat} {y : MethodName} {bytes : ByteArray} {maxL : Nat} {ret : Option FieldType} {hh : List (Nat × Nat × Nat × Nat)}
    (hown : s.vm.findClass own = some m.cls) (hlink : (Cond.methodLink own index y).before args s = true) (hstat : (Cond.static y).before args s = true) (hinit : (Cond.initialized y.cls).before args s = true)
    (hcode : (Cond.codeWith y bytes maxL ret hh).before args s = true) (hy : y.cls ≠ "java/lang/invoke/MethodHandle" ∧ y.cls ≠ "java/lang/invoke/VarHandle")
    {W9 : Nat} {Pre : Pt → Array Value → Prop} {Post : Pt → Array Value → Option Value → Pt → Prop} (hK : Back l R p e below s args y 3 W9 Pre Post)
    {g : JFrame} (hg : g.method = m) (hsize : g.locals.size = c.maxLocals) {argsL rest : List Value} (hlen : ∀ sig, parseMethodDescriptor y.desc = some sig → argsL.length = sig.parameters.length)
    (hstack : g.stack = argsL.reverse ++ rest) (hW : 2 * g.monitorRoom + (rest.map fun v => v.category).sum ≤ W9) (hdg : decode c.code g.pc = .ok (.invokestatic index, 3))
    (hpre : ∀ vm₁, s.WarmedH vm₁ → Pre ⟨T.setVm vm₁, locs, cells, slots⟩ argsL.toArray) :
    ∃ (v : Option Value) (vm₁ : Vm) (B : Pt), s.WarmedH vm₁ ∧ Stand p l e R s m args below meth c B.U B.locs B.cells B.slots ∧ Post ⟨T.setVm vm₁, locs, cells, slots⟩ argsL.toArray v B ∧
      ∀ target, Steps p.tables e below (B.U.setTop { g with pc := g.pc + 3, stack := v.toList ++ rest }) target → Steps p.tables e below (T.setTop g) target := by
  obtain ⟨mk, methM, cM, hnamed, hmethM, -, -, -, -, -, -, hsigM⟩ := Cond.codeWith_spec hcode
  have hstatic : methM.isStatic = true := Cond.static_spec hnamed hmethM hstat
  obtain ⟨kP, hkP, -⟩ := className_of_methodNamed hnamed
  have hinitP : kP.init = .initialized := Cond.initialized_spec (findClass_of_methodNamed hnamed) hkP hinit
  obtain ⟨vm₁, X₁, hstep₁⟩ := X.invokestatic hexec hown hlink hnamed hmethM hstatic hkP hinitP hy (g := g) hg (argsL := argsL) (rest := rest) (hlen _ hsigM) hstack hdg
  obtain ⟨v, B, X', hpost, hsteps⟩ := hK m meth c ⟨T.setVm vm₁, locs, cells, slots⟩ { g with stack := rest } (.invokestatic index) mk argsL.toArray X₁ hg hsize hdg hW (X₁.named hnamed) (hpre vm₁ X₁.warmed)
  exact ⟨v, vm₁, B, X₁.warmed, X', hpost, fun target h => hstep₁ _ fun acts => by rw [doInvoke_state]; exact hsteps.trans h⟩
theorem vx_runSW {y : MethodName} {bytes cc : ByteArray} {maxL nL mc ms n index : Nat} {ret : Option FieldType} {hh : List (Nat × Nat × Nat × Nat)} {ws : List Cond} {rm : Room} {Pc : Array Value → State → Prop} {Qc : Array Value → State → Outcome → State → Prop} {free : Addr → Prop} {Ts : List Cond} {own : String} {As rest : List Value} {g : JFrame}
    (S : CallFix p m c cc nL s args Ts own) (hM : Met l y ws rm Pc Qc mc ms free) (cw : vx_CSW R s args own index y bytes maxL ret hh ws rm mc ms n) (hp : PreS s H Pc As)
    (hg : g.method = m) (hn : As.length = n) (hsize : g.locals.size = nL) (hstack : g.stack = As.reverse ++ rest) (hW : 2 * g.monitorRoom + (rest.map fun v => v.category).sum ≤ 8) (hdg : decode cc g.pc = .ok (.invokestatic index, 3)) (hf : cells + mc ≤ R.cells ∧ slots + ms ≤ R.slots) :
    va_Run p l e R s m args below meth c H locs cells slots mc ms g rest (Qc As.toArray) (free) := by
  obtain ⟨⟨hrc, hrs, hfr, hlo, hws, hcw⟩, hcode, hini, hy, hlen, hl, hstt⟩ := cw
  have hK : Back l R p e below s args y 3 8 (PreOf R mc ms Pc) (PostOf Qc mc ms free) := va_backW (hh := hh) (bytes := bytes) (maxL := maxL) (ret := ret) hM hp.1 hrc hrs hfr hlo hws hcw (fun a' U hW => word_at hW (Or.inl (by first | rfl | simp [Cond.onTables, Cond.keeps, Cond.steady])) hini)
  obtain ⟨hx, hb, hml, ho, -⟩ := S
  intro T hT X
  obtain ⟨v, vm₁, ⟨U', l2, c2, s2⟩, hW₁, X', ⟨g', mk, t, L, e1, e2, hq, h1, hL, h2, h3⟩, st⟩ := vx_callSW X hx (hh := hh) (bytes := bytes) (maxL := maxL) (ret := ret) ho hl hstt hini hcode hy hK hg (hsize.trans hml.symm) (argsL := As) (rest := rest) (fun sig h => hn.trans (hlen sig h)) hstack hW (by rw [hb]; exact hdg)
    (fun vm₁ hW₁ => ⟨hf.1, hf.2, hp.2 (T.setVm vm₁) hT hW₁⟩)
  dsimp only [Pt.U, Pt.locs, Pt.cells, Pt.slots] at X' e1 e2 h1 h2 h3 st
  subst h1; subst h2; subst h3
  exact ⟨v, (T.setVm vm₁).calling g' mk As.toArray, t, U', L, hT, X', hL, e1, e2, hq, st⟩
/-- not caught here, past rows that name other classes: it goes on to the caller -/
theorem vx_outP {p : Program} {l : Launch} {e : Env} {R : Room} {s : State} {m : MethodId} {args : Array Value} {below : List Frame} {meth : Method} {c : Code} {H : Heap} {locs : List Loc} {cells slots : Nat} {free : Addr → Prop} {ls : Array Slot} {rest : List Value} {Qc : Array Value → State → Outcome → State → Prop} {XC : String → State → State → Prop}
    {pc : Nat} {own E : String} {ce : Cell} {q : Addr} {mc ms : Nat} (hown : s.vm.findClass own = some m.cls) (hlocks : meth.locks = false)
    (hpass : ∀ z ∈ c.exceptionTable.toList, covers z pc = false ∨ (z.catchType ≠ 0 ∧ ∃ nm : String, (Cond.classLink own z.catchType nm).before args s = true ∧ va_Nc E nm s)) (hcell : H[q]? = some ce) (hv : ce.vm = .none) (hcl : s.vm.findClass E = some ce.cls)
    (hx : ∀ t : State, t.heap = H → s.vm.Alike t.vm → XC E s t) (hf : ∀ z ∈ locs, free z.base) (hc : cells ≤ mc) (hs : slots ≤ ms) :
    vx_W p l e R s m args below meth c H locs cells slots (vx_MQ below Qc XC args s mc ms free) (F0 m pc ls rest) q := by
  intro T hT X
  have hpl : e.platform.magicAccessors = ({} : Platform).magicAccessors := by rw [X.admits.platform]
  obtain ⟨vm', hW', X', st⟩ := X.outThrough hlocks q (g := F0 m pc ls rest) rfl rfl rfl (cell := ce) (by rw [hT]; exact hcell) (by rw [hv]; rfl)
    (by obtain ⟨k9, h9, -⟩ := Vm.findClass_spec hcl; exact ⟨k9, h9⟩) (fun z hz => by
      rcases hpass z hz with h | ⟨hz0, nm, hl1, hn1⟩
      · exact Or.inl h
      · obtain ⟨c6, hc6, hcl6⟩ := Cond.classLink_spec hown hl1 e.platform hpl
        obtain ⟨a8, b8, h1, h2, h3⟩ := hn1
        cases Option.some.inj (h1.symm.trans hcl)
        cases Option.some.inj (h2.symm.trans hc6)
        exact Or.inr ⟨hz0, _, hcl6, h3⟩)
  obtain ⟨g₀, hfr⟩ := X'.frames_eq
  have hcell9 : ((T.setVm vm').setFrames (.throwing q :: below)).heap[q]? = some ce := by
    show T.heap[q]? = some ce
    rw [hT]; exact hcell
  have hend : Ended ((T.setVm vm').setFrames (.throwing q :: below)) below (.threw q) := State.frames_setFrames _ (State.cur_lt_of_frames hfr)
  refine ⟨(T.setVm vm').setFrames (.throwing q :: below), ?_, .threw q, X'.here.running, hend, Or.inr ⟨q, rfl, E, ce, locs, hx _ hT (X'.ends _).1.alike, hcell9, hv, hcl, (X'.ends _).1, (X'.ends _).2.mono hc hs, hf⟩⟩
  rw [X.pushThrowing_eq]
  exact st
/-- a thing of a world lies in the heap -/
theorem vx_lt {D : va_G} {cl : List vw_C} {ws : va_W} {H1 : Heap} (h : va_P D cl ws H1) {k : Nat} {q : Nat × va_E} (hk : ws[k]? = some q) : q.1 < H1.size := (h k q hk).lt
end VXS
/-! ===== END ===== -/
/-! ===== BEGIN methods with a table of their own: called by a name, returning or throwing ===== -/
section VXH
/-! vx_backW, vx_callVX, vx_callSX, vx_callVW, vx_runVW, vx_runVX, vx_runSX, vx_ofWH follow the same proofs as their sisters above (Free/Laws.lean, Shelf42/LK1.lean); vx_outP calls Shelf42/NT130.lean (outThrough). -/
section
variable {l : Launch} {R : Room} {p : Program} {e : Env} {below : List Frame} {s : State} {sargs : Array Value} {y : MethodName} {len W9 : Nat}
theorem vx_backW {ws : List Cond} {rm : Room} {Pc : Array Value → State → Prop} {Qc : Array Value → State → Outcome → State → Prop} {XC : String → State → State → Prop} {mc ms : Nat} {free : Addr → Prop} {bytes : ByteArray} {maxL : Nat} {ret : Option FieldType} {hh : List (Nat × Nat × Nat × Nat)}
    (hM : vx_Met l y ws rm Pc Qc XC mc ms free) (hblind : FrameBlind Pc) (hrc : rm.cells = mc) (hrs : rm.slots = ms)
    (hframes : rm.frames + 1 ≤ R.frames) (hlocals : W9 + (maxL + 11) + rm.locals ≤ R.locals)
    (hws : ∀ w ∈ ws, ∀ a' U, s.WarmedH U.vm → w.before a' U = true) (hcode : Cond.codeWith y bytes maxL ret hh ∈ ws) (hinit : ∀ a' U, s.WarmedH U.vm → (Cond.initialized y.cls).before a' U = true) :
    vx_Back l R p e below s sargs y len W9 (PreOf R mc ms Pc) (PostOf Qc mc ms free) (vx_Post XC mc ms free) := by
  intro m meth c A g ig mk a X hg hsize hdg hW hn hp
  have h1 : (headSpec ws rm).pre.before a A.U = true := atoms_intro fun w hw => hws w hw _ _ X.warmed
  have h2 : (Cond.codeWith y bytes maxL ret hh).before a A.U = true := hws _ hcode _ _ X.warmed
  have h3 : (Cond.initialized y.cls).before a A.U = true := hinit _ _ X.warmed
  have h4 : A.cells + (headSpec ws rm).room.cells ≤ R.cells := by rw [show (headSpec ws rm).room.cells = mc from hrc]; exact hp.1
  have h5 : A.slots + (headSpec ws rm).room.slots ≤ R.slots := by rw [show (headSpec ws rm).room.slots = ms from hrs]; exact hp.2.1
  have hPc : Pc a (A.U.calling g mk a) := hblind _ _ _ _ hp.2.2
  obtain ⟨U, Ls, c0, s0⟩ := A
  dsimp only [Pt.U, Pt.locs, Pt.cells, Pt.slots] at h1 h2 h3 h4 h5 X hn hPc ⊢
  obtain ⟨m9, methY, cY, hn9, hmY, hcY, -, hlY, -⟩ := Cond.codeWith_spec h2
  cases Option.some.inj (hn9.symm.trans hn)
  obtain ⟨kY, hkY, -⟩ := className_of_methodNamed hn
  have hinitY : kY.init = .initialized := Cond.initialized_spec (findClass_of_methodNamed hn) hkY h3
  have h : At U g.method c below := by rw [hg]; exact X.here
  have hlocals9 : W9 + (maxL + 11) + (headSpec ws rm).room.locals ≤ R.locals := hlocals
  have happ : (headSpec ws rm).appliesLoose y e.platform (U.calling g mk a) = true :=
    Spec.appliesLoose_calling (g := g) h hdg hn hkY hinitY
      (X.room_calling (g := g) (R' := (headSpec ws rm).room) hsize hmY hcY hframes (by rw [hlY]; omega) h4 h5) h1
  obtain ⟨mid, hmid⟩ := h.above
  have hfr : (U.setTop g).frames = (.java g :: mid) ++ below := by rw [State.frames_setTop' g h.top, hmid]; rfl
  obtain ⟨o, s₂, hsteps, -, hend, hq⟩ := Steps.callFree hM p X.admits X.cas X.clock (acts := []) hfr happ hPc trivial
  have hq' : vx_Q Qc XC mc ms free a (U.calling g mk a) o s₂ := hq
  rw [State.frames_setTop' g h.top] at hend
  obtain ⟨g₀, hg0⟩ := Option.isSome_iff_exists.mp h.top
  obtain ⟨r, hr⟩ := State.topJava?_eq_some.mp hg0
  have hr' : (({ U with heap := s₂.heap, slotsUsed := s₂.slotsUsed } : State).setVm s₂.vm).frames = .java g₀ :: r := hr
  rcases hq' with ⟨hqc, L, hfe, hL⟩ | ⟨q, rfl, E, ce, L, hx, hce, hcv, hcl, hW₂, hsm, hL⟩
  · obtain ⟨⟨v, rfl⟩, hW₂, e2, q2, q3, q4, q5, q6⟩ := id hfe
    have e3 : s₂ = ({ (U.calling g mk a).setFrames s₂.frames with heap := s₂.heap, slotsUsed := s₂.slotsUsed } : State).setVm s₂.vm := by
      have : s₂ = ({ s₂ with vm := (U.calling g mk a).vm } : State).setVm s₂.vm := rfl
      rw [e2] at this
      exact this
    obtain ⟨c₂, i₂, len₂, hc₂, hd₂, hf₂⟩ := hend
    have hW' : U.WarmedH s₂.vm := hW₂
    have hcc : c₂ = c := by
      have h1 : s₂.code? g.method = U.code? g.method := by
        rw [State.code?_eq, State.code?_eq, hW'.alike.method?]
      exact Option.some.inj (hc₂.symm.trans (h1.trans h.code))
    subst hcc
    have hlen : len₂ = len := by rw [hdg] at hd₂; cases hd₂; rfl
    subst hlen
    have hs₂ : s₂ = (({ U with heap := s₂.heap, slotsUsed := s₂.slotsUsed } : State).setVm s₂.vm).setTop { g with pc := g.pc + len₂, stack := v.toList ++ g.stack } := by
      refine e3.trans ?_
      rw [hf₂, State.calling_eq h.top, State.setFrames_setFrames, State.setTop_of_frames _ hr', hr]
      rfl
    have hsame : U.sameButNew ({ U with heap := s₂.heap, slotsUsed := s₂.slotsUsed } : State) L mc ms := by
      refine ⟨?_, q2, q3, q4, q5, q6⟩
      obtain ⟨t, ht, -⟩ := State.frames_cons hr
      show ({ U with heap := s₂.heap, slotsUsed := s₂.slotsUsed } : State) = { U.setFrames U.frames with heap := s₂.heap, slotsUsed := s₂.slotsUsed }
      rw [State.setFrames_self ht]
    subst hg
    refine Or.inl ⟨v, ⟨(({ U with heap := s₂.heap, slotsUsed := s₂.slotsUsed } : State).setVm s₂.vm), Ls ++ L, c0 + mc, s0 + ms⟩,
      ⟨X.admits, X.cas, X.clock, X.frames, X.room, X.hears, X.method, X.code, (X.here.setHeapUsed s₂.heap s₂.slotsUsed).setVm hW'.alike, X.tail, State.WarmedH.trans X.warmed hW', X.limits, X.bytes, X.same.trans (hsame.setVm s.vm)⟩,
      ⟨g, mk, s₂, L, rfl, rfl, hqc, rfl, hL, rfl, rfl⟩, ?_⟩
    show Steps p.tables e below _ ((({ U with heap := s₂.heap, slotsUsed := s₂.slotsUsed } : State).setVm s₂.vm).setTop { g with pc := g.pc + len₂, stack := v.toList ++ g.stack })
    rw [← hs₂]
    exact hsteps
  · obtain ⟨e2, q2, q3, q4, q5, q6⟩ := id hsm
    have e3 : s₂ = ({ (U.calling g mk a).setFrames s₂.frames with heap := s₂.heap, slotsUsed := s₂.slotsUsed } : State).setVm s₂.vm := by
      have : s₂ = ({ s₂ with vm := (U.calling g mk a).vm } : State).setVm s₂.vm := rfl
      rw [e2] at this
      exact this
    have hf₂ : s₂.frames = .throwing q :: .java g :: U.frames.tail := hend
    have hW' : U.WarmedH s₂.vm := hW₂
    have hs₂ : s₂ = ((({ U with heap := s₂.heap, slotsUsed := s₂.slotsUsed } : State).setVm s₂.vm).setTop g).pushFrame (.throwing q) := by
      refine e3.trans ?_
      rw [hf₂, State.calling_eq h.top, State.setFrames_setFrames, State.pushFrame, State.frames_setTop _ hr', State.setTop_of_frames _ hr', State.setFrames_setFrames, hr]
      rfl
    have hsame : U.sameButNew ({ U with heap := s₂.heap, slotsUsed := s₂.slotsUsed } : State) L mc ms := by
      refine ⟨?_, q2, q3, q4, q5, q6⟩
      obtain ⟨t, ht, -⟩ := State.frames_cons hr
      show ({ U with heap := s₂.heap, slotsUsed := s₂.slotsUsed } : State) = { U.setFrames U.frames with heap := s₂.heap, slotsUsed := s₂.slotsUsed }
      rw [State.setFrames_self ht]
    subst hg
    refine Or.inr ⟨q, ⟨(({ U with heap := s₂.heap, slotsUsed := s₂.slotsUsed } : State).setVm s₂.vm), Ls ++ L, c0 + mc, s0 + ms⟩,
      ⟨X.admits, X.cas, X.clock, X.frames, X.room, X.hears, X.method, X.code, (X.here.setHeapUsed s₂.heap s₂.slotsUsed).setVm hW'.alike, X.tail, State.WarmedH.trans X.warmed hW', X.limits, X.bytes, X.same.trans (hsame.setVm s.vm)⟩,
      ⟨g, mk, s₂, L, E, ce, rfl, rfl, hx, hce, hcv, hcl, rfl, hL, rfl, rfl⟩, ?_⟩
    show Steps p.tables e below _ (((({ U with heap := s₂.heap, slotsUsed := s₂.slotsUsed } : State).setVm s₂.vm).setTop g).pushFrame (.throwing q))
    rw [← hs₂]
    exact hsteps
end
variable {p : Program} {l : Launch} {e : Env} {R : Room} {s : State} {m : MethodId} {args : Array Value} {below : List Frame} {meth : Method} {c : Code} {T : State} {H : Heap} {locs : List Loc} {cells slots : Nat}
theorem vx_callVX (X : Stand p l e R s m args below meth c T locs cells slots) (hexec : p.tables.exec = Jvm.exec) {own C : String} {index : Nat} {y : MethodName} {bytes : ByteArray} {maxL : Nat} {ret : Option FieldType} {hh : List (Nat × Nat × Nat × Nat)}
    (hown : s.vm.findClass own = some m.cls) (hlink : (Cond.methodLink own index y).before args s = true) (hinst : (Cond.instanceMethod y).before args s = true) (hsel : (Cond.selects C y y).before args s = true)
    (hcode : (Cond.codeWith y bytes maxL ret hh).before args s = true) (hy : y.cls ≠ "java/lang/invoke/MethodHandle" ∧ y.cls ≠ "java/lang/invoke/VarHandle")
    {W9 : Nat} {Pre : Pt → Array Value → Prop} {Post : Pt → Array Value → Option Value → Pt → Prop} {PostX : Pt → Array Value → Addr → Pt → Prop} (hK : vx_Back l R p e below s args y 3 W9 Pre Post PostX)
    {b : Addr} {cellB : Cell} (hcell : T.heap[b]? = some cellB) (hobj : cellB.vm.isStatics = false) (hcls : s.vm.findClass C = some cellB.cls)
    {g : JFrame} (hg : g.method = m) (hsize : g.locals.size = c.maxLocals) {argsL rest : List Value} (hlen : ∀ sig, parseMethodDescriptor y.desc = some sig → argsL.length = sig.parameters.length)
    (hstack : g.stack = argsL.reverse ++ .ref b :: rest) (hW : 2 * g.monitorRoom + (rest.map fun v => v.category).sum ≤ W9) (hdg : decode c.code g.pc = .ok (.invokevirtual index, 3))
    (hpre : ∀ vm₁, s.WarmedH vm₁ → Pre ⟨T.setVm vm₁, locs, cells, slots⟩ (Value.ref b :: argsL).toArray) :
    (∃ (v : Option Value) (vm₁ : Vm) (B : Pt), s.WarmedH vm₁ ∧ Stand p l e R s m args below meth c B.U B.locs B.cells B.slots ∧ Post ⟨T.setVm vm₁, locs, cells, slots⟩ (Value.ref b :: argsL).toArray v B ∧
      ∀ target, Steps p.tables e below (B.U.setTop { g with pc := g.pc + 3, stack := v.toList ++ rest }) target → Steps p.tables e below (T.setTop g) target) ∨
    (∃ (q : Addr) (vm₁ : Vm) (B : Pt), s.WarmedH vm₁ ∧ Stand p l e R s m args below meth c B.U B.locs B.cells B.slots ∧ PostX ⟨T.setVm vm₁, locs, cells, slots⟩ (Value.ref b :: argsL).toArray q B ∧
      Steps p.tables e below (T.setTop g) ((B.U.setTop { g with stack := rest }).pushFrame (.throwing q))) := by
  obtain ⟨mk, methM, hnamed, hmethM, hstM, habM⟩ := Cond.instanceMethod_spec hinst
  obtain ⟨m8, methM', cM, hn8, hmethM', -, -, -, -, -, -, hsigM⟩ := Cond.codeWith_spec hcode
  cases Option.some.inj (hn8.symm.trans hnamed)
  cases hmethM.symm.trans hmethM'
  obtain ⟨c2, r2, m2, q1, q2, q3, q4, kP, hkP, hkPi⟩ := Cond.selects_spec hsel
  cases hcls.symm.trans q1
  cases (State.methodFound?_of_named hnamed hy).symm.trans q2
  cases hnamed.symm.trans q3
  have hselP : selectMethod e.platform s.vm cellB.cls mk = .method mk := by rw [Launch.admits_selectMethod X.admits]; exact q4
  obtain ⟨vm₁, X₁, hstep₁⟩ := X.invokevirtual hexec hown hlink hnamed hmethM hstM hkP hkPi hy (a := b) (cell := cellB) hcell
    (fun z h => by rw [h] at hobj; cases hobj) hselP hmethM habM hkP hkPi (g := g) hg (argsL := argsL) (rest := rest) (hlen _ hsigM) hstack hdg
  rcases hK m meth c ⟨T.setVm vm₁, locs, cells, slots⟩ { g with stack := rest } (.invokevirtual index) mk (Value.ref b :: argsL).toArray X₁ hg hsize hdg hW (X₁.named hnamed) (hpre vm₁ X₁.warmed) with ⟨v, B, X', hpost, hsteps⟩ | ⟨q, B, X', hpost, hsteps⟩
  · exact Or.inl ⟨v, vm₁, B, X₁.warmed, X', hpost, fun target h => hstep₁ _ fun acts => by rw [doInvoke_state]; exact hsteps.trans h⟩
  · exact Or.inr ⟨q, vm₁, B, X₁.warmed, X', hpost, hstep₁ _ fun acts => by rw [doInvoke_state]; exact hsteps⟩
theorem vx_callSX (X : Stand p l e R s m args below meth c T locs cells slots) (hexec : p.tables.exec = Jvm.exec) {own : String} {index : Nat} {y : MethodName} {bytes : ByteArray} {maxL : Nat} {ret : Option FieldType} {hh : List (Nat × Nat × Nat × Nat)}
    (hown : s.vm.findClass own = some m.cls) (hlink : (Cond.methodLink own index y).before args s = true) (hstat : (Cond.static y).before args s = true) (hinit : (Cond.initialized y.cls).before args s = true)
    (hcode : (Cond.codeWith y bytes maxL ret hh).before args s = true) (hy : y.cls ≠ "java/lang/invoke/MethodHandle" ∧ y.cls ≠ "java/lang/invoke/VarHandle")
    {W9 : Nat} {Pre : Pt → Array Value → Prop} {Post : Pt → Array Value → Option Value → Pt → Prop} {PostX : Pt → Array Value → Addr → Pt → Prop} (hK : vx_Back l R p e below s args y 3 W9 Pre Post PostX)
    {g : JFrame} (hg : g.method = m) (hsize : g.locals.size = c.maxLocals) {argsL rest : List Value} (hlen : ∀ sig, parseMethodDescriptor y.desc = some sig → argsL.length = sig.parameters.length)
    (hstack : g.stack = argsL.reverse ++ rest) (hW : 2 * g.monitorRoom + (rest.map fun v => v.category).sum ≤ W9) (hdg : decode c.code g.pc = .ok (.invokestatic index, 3))
    (hpre : ∀ vm₁, s.WarmedH vm₁ → Pre ⟨T.setVm vm₁, locs, cells, slots⟩ argsL.toArray) :
    (∃ (v : Option Value) (vm₁ : Vm) (B : Pt), s.WarmedH vm₁ ∧ Stand p l e R s m args below meth c B.U B.locs B.cells B.slots ∧ Post ⟨T.setVm vm₁, locs, cells, slots⟩ argsL.toArray v B ∧
      ∀ target, Steps p.tables e below (B.U.setTop { g with pc := g.pc + 3, stack := v.toList ++ rest }) target → Steps p.tables e below (T.setTop g) target) ∨
    (∃ (q : Addr) (vm₁ : Vm) (B : Pt), s.WarmedH vm₁ ∧ Stand p l e R s m args below meth c B.U B.locs B.cells B.slots ∧ PostX ⟨T.setVm vm₁, locs, cells, slots⟩ argsL.toArray q B ∧
      Steps p.tables e below (T.setTop g) ((B.U.setTop { g with stack := rest }).pushFrame (.throwing q))) := by
  obtain ⟨mk, methM, cM, hnamed, hmethM, -, -, -, -, -, -, hsigM⟩ := Cond.codeWith_spec hcode
  have hstatic : methM.isStatic = true := Cond.static_spec hnamed hmethM hstat
  obtain ⟨kP, hkP, -⟩ := className_of_methodNamed hnamed
  have hinitP : kP.init = .initialized := Cond.initialized_spec (findClass_of_methodNamed hnamed) hkP hinit
  obtain ⟨vm₁, X₁, hstep₁⟩ := X.invokestatic hexec hown hlink hnamed hmethM hstatic hkP hinitP hy (g := g) hg (argsL := argsL) (rest := rest) (hlen _ hsigM) hstack hdg
  rcases hK m meth c ⟨T.setVm vm₁, locs, cells, slots⟩ { g with stack := rest } (.invokestatic index) mk argsL.toArray X₁ hg hsize hdg hW (X₁.named hnamed) (hpre vm₁ X₁.warmed) with ⟨v, B, X', hpost, hsteps⟩ | ⟨q, B, X', hpost, hsteps⟩
  · exact Or.inl ⟨v, vm₁, B, X₁.warmed, X', hpost, fun target h => hstep₁ _ fun acts => by rw [doInvoke_state]; exact hsteps.trans h⟩
  · exact Or.inr ⟨q, vm₁, B, X₁.warmed, X', hpost, hstep₁ _ fun acts => by rw [doInvoke_state]; exact hsteps⟩
theorem vx_callVW (X : Stand p l e R s m args below meth c T locs cells slots) (hexec : p.tables.exec = Jvm.exec) {own C : String} {index : Nat} {y : MethodName} {bytes : ByteArray} {maxL : Nat} {ret : Option FieldType} {hh : List (Nat × Nat × Nat × Nat)}
    (hown : s.vm.findClass own = some m.cls) (hlink : (Cond.methodLink own index y).before args s = true) (hinst : (Cond.instanceMethod y).before args s = true) (hsel : (Cond.selects C y y).before args s = true)
    (hcode : (Cond.codeWith y bytes maxL ret hh).before args s = true) (hy : y.cls ≠ "java/lang/invoke/MethodHandle" ∧ y.cls ≠ "java/lang/invoke/VarHandle")
    {W9 : Nat} {Pre : Pt → Array Value → Prop} {Post : Pt → Array Value → Option Value → Pt → Prop} (hK : Back l R p e below s args y 3 W9 Pre Post)
    {b : Addr} {cellB : Cell} (hcell : T.heap[b]? = some cellB) (hobj : cellB.vm.isStatics = false) (hcls : s.vm.findClass C = some cellB.cls)
    {g : JFrame} (hg : g.method = m) (hsize : g.locals.size = c.maxLocals) {argsL rest : List Value} (hlen : ∀ sig, parseMethodDescriptor y.desc = some sig → argsL.length = sig.parameters.length)
    (hstack : g.stack = argsL.reverse ++ .ref b :: rest) (hW : 2 * g.monitorRoom + (rest.map fun v => v.category).sum ≤ W9) (hdg : decode c.code g.pc = .ok (.invokevirtual index, 3))
    (hpre : ∀ vm₁, s.WarmedH vm₁ → Pre ⟨T.setVm vm₁, locs, cells, slots⟩ (Value.ref b :: argsL).toArray) :
    ∃ (v : Option Value) (vm₁ : Vm) (B : Pt), s.WarmedH vm₁ ∧ Stand p l e R s m args below meth c B.U B.locs B.cells B.slots ∧ Post ⟨T.setVm vm₁, locs, cells, slots⟩ (Value.ref b :: argsL).toArray v B ∧
      ∀ target, Steps p.tables e below (B.U.setTop { g with pc := g.pc + 3, stack := v.toList ++ rest }) target → Steps p.tables e below (T.setTop g) target := by
  obtain ⟨mk, methM, hnamed, hmethM, hstM, habM⟩ := Cond.instanceMethod_spec hinst
  obtain ⟨m8, methM', cM, hn8, hmethM', -, -, -, -, -, -, hsigM⟩ := Cond.codeWith_spec hcode
  cases Option.some.inj (hn8.symm.trans hnamed)
  cases hmethM.symm.trans hmethM'
  obtain ⟨c2, r2, m2, q1, q2, q3, q4, kP, hkP, hkPi⟩ := Cond.selects_spec hsel
  cases hcls.symm.trans q1
  cases (State.methodFound?_of_named hnamed hy).symm.trans q2
  cases hnamed.symm.trans q3
  have hselP : selectMethod e.platform s.vm cellB.cls mk = .method mk := by rw [Launch.admits_selectMethod X.admits]; exact q4
  obtain ⟨vm₁, X₁, hstep₁⟩ := X.invokevirtual hexec hown hlink hnamed hmethM hstM hkP hkPi hy (a := b) (cell := cellB) hcell
    (fun z h => by rw [h] at hobj; cases hobj) hselP hmethM habM hkP hkPi (g := g) hg (argsL := argsL) (rest := rest) (hlen _ hsigM) hstack hdg
  obtain ⟨v, B, X', hpost, hsteps⟩ := hK m meth c ⟨T.setVm vm₁, locs, cells, slots⟩ { g with stack := rest } (.invokevirtual index) mk (Value.ref b :: argsL).toArray X₁ hg hsize hdg hW (X₁.named hnamed) (hpre vm₁ X₁.warmed)
  exact ⟨v, vm₁, B, X₁.warmed, X', hpost, fun target h => hstep₁ _ fun acts => by rw [doInvoke_state]; exact hsteps.trans h⟩
abbrev vx_CVW (R : Room) (s : State) (args : Array Value) (own C : String) (index : Nat) (y : MethodName) (bytes : ByteArray) (maxL : Nat) (ret : Option FieldType) (hh : List (Nat × Nat × Nat × Nat)) (ws : List Cond) (rm : Room) (mc ms n : Nat) : Prop :=
  (rm.cells = mc ∧ rm.slots = ms ∧ rm.frames + 1 ≤ R.frames ∧ 8 + (maxL + 11) + rm.locals ≤ R.locals ∧ (∀ w ∈ ws, ∀ (a' : Array Value) (U : State), s.WarmedH U.vm → w.before a' U = true) ∧ Cond.codeWith y bytes maxL ret hh ∈ ws) ∧
  (Cond.codeWith y bytes maxL ret hh).before args s = true ∧ (Cond.initialized y.cls).before args s = true ∧ (y.cls ≠ "java/lang/invoke/MethodHandle" ∧ y.cls ≠ "java/lang/invoke/VarHandle") ∧
  (∀ sig, parseMethodDescriptor y.desc = some sig → n = sig.parameters.length) ∧ (Cond.methodLink own index y).before args s = true ∧ (Cond.instanceMethod y).before args s = true ∧ (Cond.selects C y y).before args s = true
theorem vx_cwVW {own C : String} {index maxL mc ms : Nat} {y : MethodName} {bytes : ByteArray} {ret : Option FieldType} {hh : List (Nat × Nat × Nat × Nat)} {Ts ws ws' : List Cond} {rm : Room} (n : Nat) (ht : ∀ w ∈ Ts, w.before args s = true) (hT : GoodIn Ts (wsV own index C y ws)) (hw : ws = Cond.codeWith y bytes maxL ret hh :: ws') (hrc : rm.cells = mc) (hrs : rm.slots = ms)
    (hd : y.cls = C ∧ y.cls ≠ "java/lang/invoke/MethodHandle" ∧ y.cls ≠ "java/lang/invoke/VarHandle" ∧ (parseMethodDescriptor y.desc).map (fun d => d.parameters.length) = some n) (hR : rm.frames + 1 ≤ R.frames ∧ 8 + (maxL + 11) + rm.locals ≤ R.locals) :
    vx_CVW R s args own C index y bytes maxL ret hh ws rm mc ms n := by
  obtain ⟨hC, hd⟩ := hd
  subst hC
  have ok : ∀ w ∈ wsV own index y.cls y ws, w.before args s = true := fun w h => ht w (hT w h).1
  have hG : GoodIn Ts ws := fun w h => hT w (by unfold wsV; exact List.mem_append_right _ h)
  have hc : Cond.codeWith y bytes maxL ret hh ∈ ws := by rw [hw]; exact List.mem_cons_self
  refine ⟨⟨hrc, hrs, hR.1, hR.2, pay_in ht hG, hc⟩, ht _ (hG _ hc).1, ok _ (by simp [wsV]), ⟨hd.1, hd.2.1⟩, fun sig h => ?_, ok _ (by simp [wsV]), ok _ (by simp [wsV]), ok _ (by simp [wsV])⟩
  have h2 := hd.2.2
  rw [h] at h2
  exact (Option.some.inj h2).symm
theorem vx_runVW {y : MethodName} {bytes cc : ByteArray} {maxL nL mc ms n index : Nat} {ret : Option FieldType} {hh : List (Nat × Nat × Nat × Nat)} {ws : List Cond} {rm : Room} {Pc : Array Value → State → Prop} {Qc : Array Value → State → Outcome → State → Prop} {free : Addr → Prop} {Ts : List Cond} {own C : String} {b : Addr} {As rest : List Value} {g : JFrame}
    (S : CallFix p m c cc nL s args Ts own) (hM : Met l y ws rm Pc Qc mc ms free) (cw : vx_CVW R s args own C index y bytes maxL ret hh ws rm mc ms n) (hp : PreV s H C b Pc As)
    (hg : g.method = m) (hn : As.length = n) (hsize : g.locals.size = nL) (hstack : g.stack = As.reverse ++ .ref b :: rest) (hW : 2 * g.monitorRoom + (rest.map fun v => v.category).sum ≤ 8) (hdg : decode cc g.pc = .ok (.invokevirtual index, 3)) (hf : cells + mc ≤ R.cells ∧ slots + ms ≤ R.slots) :
    va_Run p l e R s m args below meth c H locs cells slots mc ms g rest (Qc (Value.ref b :: As).toArray) free := by
  obtain ⟨⟨hrc, hrs, hfr, hlo, hws, hcw⟩, hcode, hini, hy, hlen, hl, hin, hse⟩ := cw
  have hK : Back l R p e below s args y 3 8 (PreOf R mc ms Pc) (PostOf Qc mc ms free) := va_backW (hh := hh) (bytes := bytes) (maxL := maxL) (ret := ret) hM hp.1 hrc hrs hfr hlo hws hcw (fun a' U hW => word_at hW (Or.inl (by first | rfl | simp [Cond.onTables, Cond.keeps, Cond.steady])) hini)
  obtain ⟨hx, hb, hml, ho, -⟩ := S
  obtain ⟨-, ⟨cellB, hcB, hoB, hclB⟩, hPc⟩ := hp
  intro T hT X
  obtain ⟨v, vm₁, ⟨U', l2, c2, s2⟩, hW₁, X', ⟨g', mk, t, L, e1, e2, hq, h1, hL, h2, h3⟩, st⟩ := vx_callVW X hx (C := C) (hh := hh) (bytes := bytes) (maxL := maxL) (ret := ret) ho hl hin hse hcode hy hK (by rw [hT]; exact hcB) hoB hclB hg (hsize.trans hml.symm) (argsL := As) (rest := rest) (fun sig h => hn.trans (hlen sig h)) hstack hW (by rw [hb]; exact hdg)
    (fun vm₁ hW₁ => ⟨hf.1, hf.2, hPc (T.setVm vm₁) hT hW₁⟩)
  dsimp only [Pt.U, Pt.locs, Pt.cells, Pt.slots] at X' e1 e2 h1 h2 h3 st
  subst h1; subst h2; subst h3
  exact ⟨v, (T.setVm vm₁).calling g' mk (Value.ref b :: As).toArray, t, U', L, hT, X', hL, e1, e2, hq, st⟩
section
variable {y : MethodName} {bytes cc : ByteArray} {maxL nL mc ms n index : Nat} {ret : Option FieldType} {ws : List Cond} {rm : Room} {Pc : Array Value → State → Prop} {Qc : Array Value → State → Outcome → State → Prop} {XC : String → State → State → Prop} {free : Addr → Prop} {Ts : List Cond} {own C : String} {b : Addr} {As rest : List Value} {g : JFrame}
theorem vx_runVX {hh : List (Nat × Nat × Nat × Nat)} (S : CallFix p m c cc nL s args Ts own) (hM : vx_Met l y ws rm Pc Qc XC mc ms free) (cw : vx_CVW R s args own C index y bytes maxL ret hh ws rm mc ms n) (hp : PreV s H C b Pc As)
    (hg : g.method = m) (hn : As.length = n) (hsize : g.locals.size = nL) (hstack : g.stack = As.reverse ++ .ref b :: rest) (hW : 2 * g.monitorRoom + (rest.map fun v => v.category).sum ≤ 8) (hdg : decode cc g.pc = .ok (.invokevirtual index, 3)) (hf : cells + mc ≤ R.cells ∧ slots + ms ≤ R.slots) :
    vx_Run p l e R s m args below meth c H locs cells slots mc ms g rest (Qc (Value.ref b :: As).toArray) XC free := by
  obtain ⟨⟨hrc, hrs, hfr, hlo, hws, hcw⟩, hcode, hini, hy, hlen, hl, hin, hse⟩ := cw
  have hK : vx_Back l R p e below s args y 3 8 (PreOf R mc ms Pc) (PostOf Qc mc ms free) (vx_Post XC mc ms free) := vx_backW (hh := hh) (bytes := bytes) (maxL := maxL) (ret := ret) hM hp.1 hrc hrs hfr hlo hws hcw (fun a' U hW => word_at hW (Or.inl (by first | rfl | simp [Cond.onTables, Cond.keeps, Cond.steady])) hini)
  obtain ⟨hx, hb, hml, ho, -⟩ := S
  obtain ⟨-, ⟨cellB, hcB, hoB, hclB⟩, hPc⟩ := hp
  intro T hT X
  rcases vx_callVX X hx (C := C) (hh := hh) (bytes := bytes) (maxL := maxL) (ret := ret) ho hl hin hse hcode hy hK (by rw [hT]; exact hcB) hoB hclB hg (hsize.trans hml.symm) (argsL := As) (rest := rest) (fun sig h => hn.trans (hlen sig h)) hstack hW (by rw [hb]; exact hdg)
    (fun vm₁ hW₁ => ⟨hf.1, hf.2, hPc (T.setVm vm₁) hT hW₁⟩) with ⟨v, vm₁, ⟨U', l2, c2, s2⟩, hW₁, X', ⟨g', mk, t, L, e1, e2, hq, h1, hL, h2, h3⟩, st⟩ | ⟨q, vm₁, ⟨U', l2, c2, s2⟩, hW₁, X', ⟨g', mk, t, L, E, ce, e1, e2, hq, hce, hcv, hcl, h1, hL, h2, h3⟩, st⟩
  · dsimp only [Pt.U, Pt.locs, Pt.cells, Pt.slots] at X' e1 e2 h1 h2 h3 st
    subst h1; subst h2; subst h3
    exact Or.inl ⟨v, (T.setVm vm₁).calling g' mk (Value.ref b :: As).toArray, t, U', L, hT, X', hL, e1, e2, hq, st⟩
  · dsimp only [Pt.U, Pt.locs, Pt.cells, Pt.slots] at X' e1 e2 h1 h2 h3 st hcl
    subst h1; subst h2; subst h3
    exact Or.inr ⟨q, (T.setVm vm₁).calling g' mk (Value.ref b :: As).toArray, t, U', L, E, ce, hT, X', hL, e1, e2, hq, hce, hcv, vx_cls hW₁ hcl, st⟩
theorem vx_runSX {hh : List (Nat × Nat × Nat × Nat)} (S : CallFix p m c cc nL s args Ts own) (hM : vx_Met l y ws rm Pc Qc XC mc ms free) (cw : vx_CSW R s args own index y bytes maxL ret hh ws rm mc ms n) (hp : PreS s H Pc As)
    (hg : g.method = m) (hn : As.length = n) (hsize : g.locals.size = nL) (hstack : g.stack = As.reverse ++ rest) (hW : 2 * g.monitorRoom + (rest.map fun v => v.category).sum ≤ 8) (hdg : decode cc g.pc = .ok (.invokestatic index, 3)) (hf : cells + mc ≤ R.cells ∧ slots + ms ≤ R.slots) :
    vx_Run p l e R s m args below meth c H locs cells slots mc ms g rest (Qc As.toArray) XC free := by
  obtain ⟨⟨hrc, hrs, hfr, hlo, hws, hcw⟩, hcode, hini, hy, hlen, hl, hstt⟩ := cw
  have hK : vx_Back l R p e below s args y 3 8 (PreOf R mc ms Pc) (PostOf Qc mc ms free) (vx_Post XC mc ms free) := vx_backW (hh := hh) (bytes := bytes) (maxL := maxL) (ret := ret) hM hp.1 hrc hrs hfr hlo hws hcw (fun a' U hW => word_at hW (Or.inl (by first | rfl | simp [Cond.onTables, Cond.keeps, Cond.steady])) hini)
  obtain ⟨hx, hb, hml, ho, -⟩ := S
  intro T hT X
  rcases vx_callSX X hx (hh := hh) (bytes := bytes) (maxL := maxL) (ret := ret) ho hl hstt hini hcode hy hK hg (hsize.trans hml.symm) (argsL := As) (rest := rest) (fun sig h => hn.trans (hlen sig h)) hstack hW (by rw [hb]; exact hdg)
    (fun vm₁ hW₁ => ⟨hf.1, hf.2, hp.2 (T.setVm vm₁) hT hW₁⟩) with ⟨v, vm₁, ⟨U', l2, c2, s2⟩, hW₁, X', ⟨g', mk, t, L, e1, e2, hq, h1, hL, h2, h3⟩, st⟩ | ⟨q, vm₁, ⟨U', l2, c2, s2⟩, hW₁, X', ⟨g', mk, t, L, E, ce, e1, e2, hq, hce, hcv, hcl, h1, hL, h2, h3⟩, st⟩
  · dsimp only [Pt.U, Pt.locs, Pt.cells, Pt.slots] at X' e1 e2 h1 h2 h3 st
    subst h1; subst h2; subst h3
    exact Or.inl ⟨v, (T.setVm vm₁).calling g' mk As.toArray, t, U', L, hT, X', hL, e1, e2, hq, st⟩
  · dsimp only [Pt.U, Pt.locs, Pt.cells, Pt.slots] at X' e1 e2 h1 h2 h3 st hcl
    subst h1; subst h2; subst h3
    exact Or.inr ⟨q, (T.setVm vm₁).calling g' mk As.toArray, t, U', L, E, ce, hT, X', hL, e1, e2, hq, hce, hcv, vx_cls hW₁ hcl, st⟩
end
end VXH
theorem vx_ofWH {l : Launch} {y : MethodName} {ws ws' : List Cond} {rm : Room} {Pc : Array Value → State → Prop} {Qc : Array Value → State → Outcome → State → Prop} {XC : String → State → State → Prop} {mc ms : Nat} {free : Addr → Prop} {cc : ByteArray} {maxL : Nat} {ret : Option FieldType} {hh : List (Nat × Nat × Nat × Nat)}
    (hy : plainName y.cls = true) (hw : ws = Cond.codeWith y cc maxL ret hh :: ws')
    (body : ∀ p e s m args below meth c s₁, BodyLoose p l y (headSpec ws rm) cc maxL ret e s m args below meth c s₁ → c.maxLocals = maxL → Pc args s →
      W p l e (headSpec ws rm).room s m args below meth c s.heap [] 0 0 (vx_MQ below Qc XC args s mc ms free) (entryFrame m args maxL)) : vx_Met l y ws rm Pc Qc XC mc ms free := by
  refine MetFree.of_bodyS (code := cc) (maxLocals := maxL) (ret := ret) hy ?_ ?_
  · intro args s m h hn
    obtain ⟨m9, meth, c, hn9, h1, h2, h3, h4, -, h5, h6, -⟩ := Cond.codeWith_spec (atoms_spec (ws := ws) h _ (by rw [hw]; exact List.mem_cons_self))
    cases hn.symm.trans hn9
    exact ⟨meth, c, h1, h2, h3, h4, h5, h6⟩
  · intro p e s m args below meth c s₁ B hml hP _
    have hh0 : s₁.heap = s.heap := by rw [B.state]; rfl
    obtain ⟨t, a1, o, b1, b2, b3⟩ := body p e s m args below meth c s₁ B hml hP s₁ hh0 (Stand.of_body B)
    exact ⟨t, o, a1, b1, b2, b3⟩
/-! ===== END ===== -/

def RX0 : String := "BoilerCascade$Boiler"
def TX0 : u_T := fun k => match k with
  | 0 => ("BoilerCascade$Boiler", "power", "I", false)
  | 1 => ("BoilerCascade$Boiler", "flueNumber", "I", false)
  | 2 => ("BoilerCascade$Boiler", "state", "I", false)
  | 3 => ("BoilerCascade$Boiler", "purgeLeft", "I", false)
  | 4 => ("BoilerCascade$Boiler", "fired", "I", false)
  | 5 => ("BoilerCascade$Boiler", "starts", "I", false)
  | _ => ("BoilerCascade$Boiler", "fuel", "I", false)
def tyX0 : Nat → FieldType := fun k => match k with
  | 0 => .int
  | 1 => .int
  | 2 => .int
  | 3 => .int
  | 4 => .int
  | 5 => .int
  | _ => .int
theorem nmX0 : ∀ a, a < 7 → ∀ b, b < 7 → a ≠ b → (TX0 a).2.1 ≠ (TX0 b).2.1 := by decide +kernel
theorem tyX0_ok : ∀ k, k < 7 → parseFieldDescriptor (TX0 k).2.2.1 = some (tyX0 k) := by decide +kernel
abbrev cX0_init : ByteArray := prog_2_method_1_code
def yX0_init : MethodName := ⟨RX0, "<init>", "()V"⟩
abbrev cX0_beginAs : ByteArray := prog_2_method_2_code
def yX0_beginAs : MethodName := ⟨RX0, "beginAs", "(II)V"⟩
abbrev cX0_copyFrom : ByteArray := prog_2_method_3_code
def yX0_copyFrom : MethodName := ⟨RX0, "copyFrom", "(LBoilerCascade$Boiler;)V"⟩
abbrev cX0_waits : ByteArray := prog_2_method_4_code
def yX0_waits : MethodName := ⟨RX0, "waits", "()Z"⟩
abbrev cX0_start : ByteArray := prog_2_method_5_code
def yX0_start : MethodName := ⟨RX0, "start", "(I)V"⟩
abbrev cX0_leaveFor : ByteArray := prog_2_method_6_code
def yX0_leaveFor : MethodName := ⟨RX0, "leaveFor", "(I)V"⟩
abbrev cX0_work : ByteArray := prog_2_method_7_code
def yX0_work : MethodName := ⟨RX0, "work", "()I"⟩
def RX1 : String := "BoilerCascade$Flue"
def TX1 : u_T := fun k => match k with
  | 0 => ("BoilerCascade$Flue", "draft", "I", false)
  | _ => ("BoilerCascade$Flue", "open", "Z", false)
def tyX1 : Nat → FieldType := fun k => match k with
  | 0 => .int
  | _ => .boolean
theorem nmX1 : ∀ a, a < 2 → ∀ b, b < 2 → a ≠ b → (TX1 a).2.1 ≠ (TX1 b).2.1 := by decide +kernel
theorem tyX1_ok : ∀ k, k < 2 → parseFieldDescriptor (TX1 k).2.2.1 = some (tyX1 k) := by decide +kernel
abbrev cX1_init : ByteArray := prog_3_method_1_code
def yX1_init : MethodName := ⟨RX1, "<init>", "()V"⟩
abbrev cX1_beginAs : ByteArray := prog_3_method_2_code
def yX1_beginAs : MethodName := ⟨RX1, "beginAs", "(I)V"⟩
abbrev cX1_copyFrom : ByteArray := prog_3_method_3_code
def yX1_copyFrom : MethodName := ⟨RX1, "copyFrom", "(LBoilerCascade$Flue;)V"⟩
def RX2 : String := "BoilerCascade$History"
def TX2 : u_T := fun k => match k with
  | 0 => ("BoilerCascade$History", "states", "[LBoilerCascade$Plant;", true)
  | 1 => ("BoilerCascade$History", "place", "I", false)
  | _ => ("BoilerCascade$History", "count", "I", false)
def tyX2 : Nat → FieldType := fun k => match k with
  | 0 => .array (.object "BoilerCascade$Plant")
  | 1 => .int
  | _ => .int
theorem nmX2 : ∀ a, a < 3 → ∀ b, b < 3 → a ≠ b → (TX2 a).2.1 ≠ (TX2 b).2.1 := by decide +kernel
theorem tyX2_ok : ∀ k, k < 3 → parseFieldDescriptor (TX2 k).2.2.1 = some (tyX2 k) := by decide +kernel
abbrev cX2_init : ByteArray := prog_4_method_1_code
def yX2_init : MethodName := ⟨RX2, "<init>", "()V"⟩
abbrev cX2_forgetAll : ByteArray := prog_4_method_2_code
def yX2_forgetAll : MethodName := ⟨RX2, "forgetAll", "()V"⟩
abbrev cX2_remember : ByteArray := prog_4_method_3_code
def yX2_remember : MethodName := ⟨RX2, "remember", "(LBoilerCascade$Plant;)V"⟩
abbrev cX2_takeBackInto : ByteArray := prog_4_method_4_code
def yX2_takeBackInto : MethodName := ⟨RX2, "takeBackInto", "(LBoilerCascade$Plant;)Z"⟩
def RX3 : String := "BoilerCascade$Kill"
def TX3 : u_T := fun k => match k with
  | 0 => ("BoilerCascade$Kill", "goesOn", "Z", false)
  | 1 => ("BoilerCascade$Kill", "run", "I", false)
  | 2 => ("BoilerCascade$Kill", "ticks", "I", false)
  | 3 => ("BoilerCascade$Kill", "done", "I", false)
  | _ => ("BoilerCascade$Kill", "failed", "I", false)
def tyX3 : Nat → FieldType := fun k => match k with
  | 0 => .boolean
  | 1 => .int
  | 2 => .int
  | 3 => .int
  | _ => .int
theorem nmX3 : ∀ a, a < 5 → ∀ b, b < 5 → a ≠ b → (TX3 a).2.1 ≠ (TX3 b).2.1 := by decide +kernel
theorem tyX3_ok : ∀ k, k < 5 → parseFieldDescriptor (TX3 k).2.2.1 = some (tyX3 k) := by decide +kernel
abbrev cX3_init : ByteArray := prog_5_method_1_code
def yX3_init : MethodName := ⟨RX3, "<init>", "()V"⟩
abbrev cX3_beginAsNew : ByteArray := prog_5_method_2_code
def yX3_beginAsNew : MethodName := ⟨RX3, "beginAsNew", "()V"⟩
abbrev cX3_copyFrom : ByteArray := prog_5_method_3_code
def yX3_copyFrom : MethodName := ⟨RX3, "copyFrom", "(LBoilerCascade$Kill;)V"⟩
abbrev cX3_end : ByteArray := prog_5_method_4_code
def yX3_end : MethodName := ⟨RX3, "end", "()V"⟩
abbrev cX3_countTick : ByteArray := prog_5_method_5_code
def yX3_countTick : MethodName := ⟨RX3, "countTick", "(ZI)V"⟩
def RX4 : String := "BoilerCascade$Plan"
def TX4 : u_T := fun k => match k with
  | 0 => ("BoilerCascade$Plan", "signs", "[I", true)
  | 1 => ("BoilerCascade$Plan", "length", "I", false)
  | 2 => ("BoilerCascade$Plan", "layers", "I", false)
  | 3 => ("BoilerCascade$Plan", "draft0", "I", false)
  | 4 => ("BoilerCascade$Plan", "draft1", "I", false)
  | 5 => ("BoilerCascade$Plan", "boilers", "I", false)
  | 6 => ("BoilerCascade$Plan", "powers", "[I", true)
  | 7 => ("BoilerCascade$Plan", "flues", "[I", true)
  | 8 => ("BoilerCascade$Plan", "temperatures", "[I", true)
  | 9 => ("BoilerCascade$Plan", "position", "I", false)
  | _ => ("BoilerCascade$Plan", "wrong", "Z", false)
def tyX4 : Nat → FieldType := fun k => match k with
  | 0 => .array .int
  | 1 => .int
  | 2 => .int
  | 3 => .int
  | 4 => .int
  | 5 => .int
  | 6 => .array .int
  | 7 => .array .int
  | 8 => .array .int
  | 9 => .int
  | _ => .boolean
theorem nmX4 : ∀ a, a < 11 → ∀ b, b < 11 → a ≠ b → (TX4 a).2.1 ≠ (TX4 b).2.1 := by decide +kernel
theorem tyX4_ok : ∀ k, k < 11 → parseFieldDescriptor (TX4 k).2.2.1 = some (tyX4 k) := by decide +kernel
abbrev cX4_init : ByteArray := prog_6_method_1_code
def yX4_init : MethodName := ⟨RX4, "<init>", "()V"⟩
abbrev cX4_add : ByteArray := prog_6_method_2_code
def yX4_add : MethodName := ⟨RX4, "add", "(I)Z"⟩
abbrev cX4_read : ByteArray := prog_6_method_3_code
def yX4_read : MethodName := ⟨RX4, "read", "()I"⟩
abbrev cX4_readBoiler : ByteArray := prog_6_method_4_code
def yX4_readBoiler : MethodName := ⟨RX4, "readBoiler", "(I)V"⟩
abbrev cX4_readTemperatures : ByteArray := prog_6_method_5_code
def yX4_readTemperatures : MethodName := ⟨RX4, "readTemperatures", "()V"⟩
abbrev cX4_fillTemperatures : ByteArray := prog_6_method_6_code
def yX4_fillTemperatures : MethodName := ⟨RX4, "fillTemperatures", "()V"⟩
abbrev cX4_hasMore : ByteArray := prog_6_method_7_code
def yX4_hasMore : MethodName := ⟨RX4, "hasMore", "()Z"⟩
abbrev cX4_sees : ByteArray := prog_6_method_8_code
def yX4_sees : MethodName := ⟨RX4, "sees", "(I)Z"⟩
abbrev cX4_readSign : ByteArray := prog_6_method_9_code
def yX4_readSign : MethodName := ⟨RX4, "readSign", "(I)V"⟩
abbrev cX4_readNumber : ByteArray := prog_6_method_10_code
def yX4_readNumber : MethodName := ⟨RX4, "readNumber", "(II)I"⟩
abbrev cX4_readDigit : ByteArray := prog_6_method_11_code
def yX4_readDigit : MethodName := ⟨RX4, "readDigit", "(II)I"⟩
def RX5 : String := "BoilerCascade$Plant"
def TX5 : u_T := fun k => match k with
  | 0 => ("BoilerCascade$Plant", "boilers", "[LBoilerCascade$Boiler;", true)
  | 1 => ("BoilerCascade$Plant", "count", "I", false)
  | 2 => ("BoilerCascade$Plant", "flue0", "LBoilerCascade$Flue;", true)
  | 3 => ("BoilerCascade$Plant", "flue1", "LBoilerCascade$Flue;", true)
  | 4 => ("BoilerCascade$Plant", "settings", "[I", true)
  | 5 => ("BoilerCascade$Plant", "tank", "LBoilerCascade$Tank;", true)
  | 6 => ("BoilerCascade$Plant", "kill", "LBoilerCascade$Kill;", true)
  | 7 => ("BoilerCascade$Plant", "clock", "I", false)
  | _ => ("BoilerCascade$Plant", "reason", "I", false)
def tyX5 : Nat → FieldType := fun k => match k with
  | 0 => .array (.object "BoilerCascade$Boiler")
  | 1 => .int
  | 2 => .object "BoilerCascade$Flue"
  | 3 => .object "BoilerCascade$Flue"
  | 4 => .array .int
  | 5 => .object "BoilerCascade$Tank"
  | 6 => .object "BoilerCascade$Kill"
  | 7 => .int
  | _ => .int
theorem nmX5 : ∀ a, a < 9 → ∀ b, b < 9 → a ≠ b → (TX5 a).2.1 ≠ (TX5 b).2.1 := by decide +kernel
theorem tyX5_ok : ∀ k, k < 9 → parseFieldDescriptor (TX5 k).2.2.1 = some (tyX5 k) := by decide +kernel
abbrev cX5_init : ByteArray := prog_7_method_1_code
def yX5_init : MethodName := ⟨RX5, "<init>", "()V"⟩
abbrev cX5_beginAs : ByteArray := prog_7_method_2_code
def yX5_beginAs : MethodName := ⟨RX5, "beginAs", "(LBoilerCascade$Plan;)V"⟩
abbrev cX5_copyFrom : ByteArray := prog_7_method_3_code
def yX5_copyFrom : MethodName := ⟨RX5, "copyFrom", "(LBoilerCascade$Plant;)V"⟩
abbrev cX5_hasBoiler : ByteArray := prog_7_method_4_code
def yX5_hasBoiler : MethodName := ⟨RX5, "hasBoiler", "(I)Z"⟩
abbrev cX5_flueOf : ByteArray := prog_7_method_5_code
def yX5_flueOf : MethodName := ⟨RX5, "flueOf", "(I)LBoilerCascade$Flue;"⟩
abbrev cX5_useOf : ByteArray := prog_7_method_6_code
def yX5_useOf : MethodName := ⟨RX5, "useOf", "(I)I"⟩
abbrev cX5_countAtFlue : ByteArray := prog_7_method_7_code
def yX5_countAtFlue : MethodName := ⟨RX5, "countAtFlue", "(I)I"⟩
abbrev cX5_countInState : ByteArray := prog_7_method_8_code
def yX5_countInState : MethodName := ⟨RX5, "countInState", "(I)I"⟩
abbrev cX5_fuel : ByteArray := prog_7_method_9_code
def yX5_fuel : MethodName := ⟨RX5, "fuel", "()I"⟩
abbrev cX5_starts : ByteArray := prog_7_method_10_code
def yX5_starts : MethodName := ⟨RX5, "starts", "()I"⟩
abbrev cX5_hasRoomFor : ByteArray := prog_7_method_11_code
def yX5_hasRoomFor : MethodName := ⟨RX5, "hasRoomFor", "(LBoilerCascade$Boiler;)Z"⟩
abbrev cX5_firstToStart : ByteArray := prog_7_method_12_code
def yX5_firstToStart : MethodName := ⟨RX5, "firstToStart", "()I"⟩
abbrev cX5_firstToRest : ByteArray := prog_7_method_13_code
def yX5_firstToRest : MethodName := ⟨RX5, "firstToRest", "()I"⟩
abbrev cX5_moveFlue : ByteArray := prog_7_method_14_code
def yX5_moveFlue : MethodName := ⟨RX5, "moveFlue", "(IZ)I"⟩
abbrev cX5_passTicks : ByteArray := prog_7_method_15_code
def yX5_passTicks : MethodName := ⟨RX5, "passTicks", "(II)V"⟩
abbrev cX5_control : ByteArray := prog_7_method_16_code
def yX5_control : MethodName := ⟨RX5, "control", "(I)V"⟩
abbrev cX5_whyNoneStarts : ByteArray := prog_7_method_17_code
def yX5_whyNoneStarts : MethodName := ⟨RX5, "whyNoneStarts", "()I"⟩
abbrev cX5_powerOf : ByteArray := prog_7_method_18_code
def yX5_powerOf : MethodName := ⟨RX5, "powerOf", "(I)I"⟩
abbrev cX5_fitsDrafts : ByteArray := prog_7_method_19_code
def yX5_fitsDrafts : MethodName := ⟨RX5, "fitsDrafts", "(I)Z"⟩
abbrev cX5_isSmallerSet : ByteArray := prog_7_method_20_code
def yX5_isSmallerSet : MethodName := ⟨RX5, "isSmallerSet", "(II)Z"⟩
abbrev cX5_powerAt : ByteArray := prog_7_method_21_code
def yX5_powerAt : MethodName := ⟨RX5, "powerAt", "(II)I"⟩
def RX6 : String := "BoilerCascade$Slot"
def TX6 : u_T := fun k => match k with
  | 0 => ("BoilerCascade$Slot", "content", "LBoilerCascade$Plant;", true)
  | _ => ("BoilerCascade$Slot", "filled", "Z", false)
def tyX6 : Nat → FieldType := fun k => match k with
  | 0 => .object "BoilerCascade$Plant"
  | _ => .boolean
theorem nmX6 : ∀ a, a < 2 → ∀ b, b < 2 → a ≠ b → (TX6 a).2.1 ≠ (TX6 b).2.1 := by decide +kernel
theorem tyX6_ok : ∀ k, k < 2 → parseFieldDescriptor (TX6 k).2.2.1 = some (tyX6 k) := by decide +kernel
abbrev cX6_init : ByteArray := prog_8_method_1_code
def yX6_init : MethodName := ⟨RX6, "<init>", "()V"⟩
def RX7 : String := "BoilerCascade$Tank"
def TX7 : u_T := fun k => match k with
  | 0 => ("BoilerCascade$Tank", "temperatures", "[I", true)
  | 1 => ("BoilerCascade$Tank", "layers", "I", false)
  | 2 => ("BoilerCascade$Tank", "given", "I", false)
  | 3 => ("BoilerCascade$Tank", "cold", "I", false)
  | 4 => ("BoilerCascade$Tank", "delivered", "I", false)
  | 5 => ("BoilerCascade$Tank", "lost", "I", false)
  | _ => ("BoilerCascade$Tank", "draws", "I", false)
def tyX7 : Nat → FieldType := fun k => match k with
  | 0 => .array .int
  | 1 => .int
  | 2 => .int
  | 3 => .int
  | 4 => .int
  | 5 => .int
  | _ => .int
theorem nmX7 : ∀ a, a < 7 → ∀ b, b < 7 → a ≠ b → (TX7 a).2.1 ≠ (TX7 b).2.1 := by decide +kernel
theorem tyX7_ok : ∀ k, k < 7 → parseFieldDescriptor (TX7 k).2.2.1 = some (tyX7 k) := by decide +kernel
abbrev cX7_init : ByteArray := prog_9_method_1_code
def yX7_init : MethodName := ⟨RX7, "<init>", "()V"⟩
abbrev cX7_beginAs : ByteArray := prog_9_method_2_code
def yX7_beginAs : MethodName := ⟨RX7, "beginAs", "(I[I)V"⟩
abbrev cX7_copyFrom : ByteArray := prog_9_method_3_code
def yX7_copyFrom : MethodName := ⟨RX7, "copyFrom", "(LBoilerCascade$Tank;)V"⟩
abbrev cX7_mean : ByteArray := prog_9_method_4_code
def yX7_mean : MethodName := ⟨RX7, "mean", "()I"⟩
abbrev cX7_highest : ByteArray := prog_9_method_5_code
def yX7_highest : MethodName := ⟨RX7, "highest", "()I"⟩
abbrev cX7_coldest : ByteArray := prog_9_method_6_code
def yX7_coldest : MethodName := ⟨RX7, "coldest", "()I"⟩
abbrev cX7_deliver : ByteArray := prog_9_method_7_code
def yX7_deliver : MethodName := ⟨RX7, "deliver", "(I)I"⟩
abbrev cX7_warm : ByteArray := prog_9_method_8_code
def yX7_warm : MethodName := ⟨RX7, "warm", "(I)V"⟩
abbrev cX7_cool : ByteArray := prog_9_method_9_code
def yX7_cool : MethodName := ⟨RX7, "cool", "()V"⟩
abbrev cX7_putInOrder : ByteArray := prog_9_method_10_code
def yX7_putInOrder : MethodName := ⟨RX7, "putInOrder", "()V"⟩
def RX8 : String := "BoilerCascade"
def TX8 : u_T := fun k => match k with
  | 0 => ("BoilerCascade", "plan", "LBoilerCascade$Plan;", true)
  | 1 => ("BoilerCascade", "plant", "LBoilerCascade$Plant;", true)
  | 2 => ("BoilerCascade", "trial", "LBoilerCascade$Plant;", true)
  | 3 => ("BoilerCascade", "history", "LBoilerCascade$History;", true)
  | 4 => ("BoilerCascade", "slot0", "LBoilerCascade$Slot;", true)
  | _ => ("BoilerCascade", "slot1", "LBoilerCascade$Slot;", true)
def tyX8 : Nat → FieldType := fun k => match k with
  | 0 => .object "BoilerCascade$Plan"
  | 1 => .object "BoilerCascade$Plant"
  | 2 => .object "BoilerCascade$Plant"
  | 3 => .object "BoilerCascade$History"
  | 4 => .object "BoilerCascade$Slot"
  | _ => .object "BoilerCascade$Slot"
theorem nmX8 : ∀ a, a < 6 → ∀ b, b < 6 → a ≠ b → (TX8 a).2.1 ≠ (TX8 b).2.1 := by decide +kernel
theorem tyX8_ok : ∀ k, k < 6 → parseFieldDescriptor (TX8 k).2.2.1 = some (tyX8 k) := by decide +kernel
abbrev cX8_init : ByteArray := prog_1_method_1_code
def yX8_init : MethodName := ⟨RX8, "<init>", "()V"⟩
abbrev cX8_append : ByteArray := prog_1_method_2_code
def yX8_append : MethodName := ⟨RX8, "append", "(I)I"⟩
abbrev cX8_clearText : ByteArray := prog_1_method_3_code
def yX8_clearText : MethodName := ⟨RX8, "clearText", "()I"⟩
abbrev cX8_errorPosition : ByteArray := prog_1_method_4_code
def yX8_errorPosition : MethodName := ⟨RX8, "errorPosition", "()I"⟩
abbrev cX8_load : ByteArray := prog_1_method_5_code
def yX8_load : MethodName := ⟨RX8, "load", "()I"⟩
abbrev cX8_about : ByteArray := prog_1_method_6_code
def yX8_about : MethodName := ⟨RX8, "about", "(I)I"⟩
abbrev cX8_boiler : ByteArray := prog_1_method_7_code
def yX8_boiler : MethodName := ⟨RX8, "boiler", "(II)I"⟩
abbrev cX8_flue : ByteArray := prog_1_method_8_code
def yX8_flue : MethodName := ⟨RX8, "flue", "(II)I"⟩
abbrev cX8_layer : ByteArray := prog_1_method_9_code
def yX8_layer : MethodName := ⟨RX8, "layer", "(I)I"⟩
abbrev cX8_account : ByteArray := prog_1_method_10_code
def yX8_account : MethodName := ⟨RX8, "account", "(I)I"⟩
abbrev cX8_tick : ByteArray := prog_1_method_11_code
def yX8_tick : MethodName := ⟨RX8, "tick", "(II)I"⟩
abbrev cX8_draw : ByteArray := prog_1_method_12_code
def yX8_draw : MethodName := ⟨RX8, "draw", "(I)I"⟩
abbrev cX8_set : ByteArray := prog_1_method_13_code
def yX8_set : MethodName := ⟨RX8, "set", "(II)I"⟩
abbrev cX8_setFlue : ByteArray := prog_1_method_14_code
def yX8_setFlue : MethodName := ⟨RX8, "setFlue", "(IZ)I"⟩
abbrev cX8_setDraft : ByteArray := prog_1_method_15_code
def yX8_setDraft : MethodName := ⟨RX8, "setDraft", "(II)I"⟩
abbrev cX8_lock : ByteArray := prog_1_method_16_code
def yX8_lock : MethodName := ⟨RX8, "lock", "(I)I"⟩
abbrev cX8_unlock : ByteArray := prog_1_method_17_code
def yX8_unlock : MethodName := ⟨RX8, "unlock", "(I)I"⟩
abbrev cX8_putOff : ByteArray := prog_1_method_18_code
def yX8_putOff : MethodName := ⟨RX8, "putOff", "(I)I"⟩
abbrev cX8_undo : ByteArray := prog_1_method_19_code
def yX8_undo : MethodName := ⟨RX8, "undo", "()I"⟩
abbrev cX8_next : ByteArray := prog_1_method_20_code
def yX8_next : MethodName := ⟨RX8, "next", "()I"⟩
abbrev cX8_whyNot : ByteArray := prog_1_method_21_code
def yX8_whyNot : MethodName := ⟨RX8, "whyNot", "(I)I"⟩
abbrev cX8_smallestSet : ByteArray := prog_1_method_22_code
def yX8_smallestSet : MethodName := ⟨RX8, "smallestSet", "(IZ)I"⟩
abbrev cX8_ahead : ByteArray := prog_1_method_23_code
def yX8_ahead : MethodName := ⟨RX8, "ahead", "(III)I"⟩
abbrev cX8_warmAfter : ByteArray := prog_1_method_24_code
def yX8_warmAfter : MethodName := ⟨RX8, "warmAfter", "(II)I"⟩
abbrev cX8_bearable : ByteArray := prog_1_method_25_code
def yX8_bearable : MethodName := ⟨RX8, "bearable", "(II)I"⟩
abbrev cX8_cheapestPurge : ByteArray := prog_1_method_26_code
def yX8_cheapestPurge : MethodName := ⟨RX8, "cheapestPurge", "(II)I"⟩
abbrev cX8_runScript : ByteArray := prog_1_method_27_code
def yX8_runScript : MethodName := ⟨RX8, "runScript", "(IJ)I"⟩
abbrev cX8_simulate : ByteArray := prog_1_method_28_code
def yX8_simulate : MethodName := ⟨RX8, "simulate", "(JI)I"⟩
abbrev cX8_save : ByteArray := prog_1_method_29_code
def yX8_save : MethodName := ⟨RX8, "save", "(I)I"⟩
abbrev cX8_restore : ByteArray := prog_1_method_30_code
def yX8_restore : MethodName := ⟨RX8, "restore", "(I)I"⟩
abbrev cX8_requireWithin : ByteArray := prog_1_method_31_code
def yX8_requireWithin : MethodName := ⟨RX8, "requireWithin", "(III)V"⟩
abbrev cX8_requireTicks : ByteArray := prog_1_method_32_code
def yX8_requireTicks : MethodName := ⟨RX8, "requireTicks", "(II)V"⟩
abbrev cX8_requireFlue : ByteArray := prog_1_method_33_code
def yX8_requireFlue : MethodName := ⟨RX8, "requireFlue", "(I)V"⟩
abbrev cX8_requireSlot : ByteArray := prog_1_method_34_code
def yX8_requireSlot : MethodName := ⟨RX8, "requireSlot", "(I)V"⟩
abbrev cX8_requireBoiler : ByteArray := prog_1_method_35_code
def yX8_requireBoiler : MethodName := ⟨RX8, "requireBoiler", "(I)V"⟩
abbrev cX8_isSetting : ByteArray := prog_1_method_36_code
def yX8_isSetting : MethodName := ⟨RX8, "isSetting", "(II)Z"⟩
abbrev cX8_staysHot : ByteArray := prog_1_method_37_code
def yX8_staysHot : MethodName := ⟨RX8, "staysHot", "(III)Z"⟩
abbrev cX8_isAllowed : ByteArray := prog_1_method_38_code
def yX8_isAllowed : MethodName := ⟨RX8, "isAllowed", "(III)Z"⟩
abbrev cX8_carryOut : ByteArray := prog_1_method_39_code
def yX8_carryOut : MethodName := ⟨RX8, "carryOut", "(III)V"⟩
def RX9 : String := "BoilerCascadeModel"
def TX9 : u_T := fun k => match k with
  | 0 => ("BoilerCascadeModel", "refusal", "I", false)
  | 1 => ("BoilerCascadeModel", "text", "[I", true)
  | 2 => ("BoilerCascadeModel", "textSize", "I", false)
  | 3 => ("BoilerCascadeModel", "spot", "I", false)
  | 4 => ("BoilerCascadeModel", "n", "I", false)
  | 5 => ("BoilerCascadeModel", "layers", "I", false)
  | 6 => ("BoilerCascadeModel", "readN", "I", false)
  | 7 => ("BoilerCascadeModel", "readLayers", "I", false)
  | 8 => ("BoilerCascadeModel", "read", "[I", true)
  | 9 => ("BoilerCascadeModel", "now", "[I", true)
  | 10 => ("BoilerCascadeModel", "trial", "[I", true)
  | 11 => ("BoilerCascadeModel", "diary", "[I", true)
  | 12 => ("BoilerCascadeModel", "acts", "I", false)
  | 13 => ("BoilerCascadeModel", "kept", "[I", true)
  | _ => ("BoilerCascadeModel", "isKept", "[Z", true)
def tyX9 : Nat → FieldType := fun k => match k with
  | 0 => .int
  | 1 => .array .int
  | 2 => .int
  | 3 => .int
  | 4 => .int
  | 5 => .int
  | 6 => .int
  | 7 => .int
  | 8 => .array .int
  | 9 => .array .int
  | 10 => .array .int
  | 11 => .array .int
  | 12 => .int
  | 13 => .array .int
  | _ => .array .boolean
theorem nmX9 : ∀ a, a < 15 → ∀ b, b < 15 → a ≠ b → (TX9 a).2.1 ≠ (TX9 b).2.1 := by decide +kernel
theorem tyX9_ok : ∀ k, k < 15 → parseFieldDescriptor (TX9 k).2.2.1 = some (tyX9 k) := by decide +kernel
abbrev cX9_init : ByteArray := prog_11_method_1_code
def yX9_init : MethodName := ⟨RX9, "<init>", "()V"⟩
abbrev cX9_thrown : ByteArray := prog_11_method_2_code
def yX9_thrown : MethodName := ⟨RX9, "thrown", "()I"⟩
abbrev cX9_refused : ByteArray := prog_11_method_3_code
def yX9_refused : MethodName := ⟨RX9, "refused", "(I)Z"⟩
abbrev cX9_in : ByteArray := prog_11_method_4_code
def yX9_in : MethodName := ⟨RX9, "in", "(JJJ)Z"⟩
abbrev cX9_copyPage : ByteArray := prog_11_method_5_code
def yX9_copyPage : MethodName := ⟨RX9, "copyPage", "([II[II)V"⟩
abbrev cX9_begin : ByteArray := prog_11_method_6_code
def yX9_begin : MethodName := ⟨RX9, "begin", "([I)V"⟩
abbrev cX9_isSetting : ByteArray := prog_11_method_7_code
def yX9_isSetting : MethodName := ⟨RX9, "isSetting", "(II)Z"⟩
abbrev cX9_at : ByteArray := prog_11_method_8_code
def yX9_at : MethodName := ⟨RX9, "at", "(I)I"⟩
abbrev cX9_works : ByteArray := prog_11_method_9_code
def yX9_works : MethodName := ⟨RX9, "works", "(I)Z"⟩
abbrev cX9_idles : ByteArray := prog_11_method_10_code
def yX9_idles : MethodName := ⟨RX9, "idles", "(I)Z"⟩
abbrev cX9_use : ByteArray := prog_11_method_11_code
def yX9_use : MethodName := ⟨RX9, "use", "([II)I"⟩
abbrev cX9_canStart : ByteArray := prog_11_method_12_code
def yX9_canStart : MethodName := ⟨RX9, "canStart", "([II)Z"⟩
abbrev cX9_nextOf : ByteArray := prog_11_method_13_code
def yX9_nextOf : MethodName := ⟨RX9, "nextOf", "([I)I"⟩
abbrev cX9_meanOf : ByteArray := prog_11_method_14_code
def yX9_meanOf : MethodName := ⟨RX9, "meanOf", "([I)I"⟩
abbrev cX9_fuelOf : ByteArray := prog_11_method_15_code
def yX9_fuelOf : MethodName := ⟨RX9, "fuelOf", "([I)I"⟩
abbrev cX9_startsOf : ByteArray := prog_11_method_16_code
def yX9_startsOf : MethodName := ⟨RX9, "startsOf", "([I)I"⟩
abbrev cX9_count : ByteArray := prog_11_method_17_code
def yX9_count : MethodName := ⟨RX9, "count", "([II)I"⟩
abbrev cX9_drawOn : ByteArray := prog_11_method_18_code
def yX9_drawOn : MethodName := ⟨RX9, "drawOn", "([II)I"⟩
abbrev cX9_startOn : ByteArray := prog_11_method_19_code
def yX9_startOn : MethodName := ⟨RX9, "startOn", "([II)V"⟩
abbrev cX9_reasonOf : ByteArray := prog_11_method_20_code
def yX9_reasonOf : MethodName := ⟨RX9, "reasonOf", "([I)I"⟩
abbrev cX9_control : ByteArray := prog_11_method_21_code
def yX9_control : MethodName := ⟨RX9, "control", "([I)V"⟩
abbrev cX9_heat : ByteArray := prog_11_method_22_code
def yX9_heat : MethodName := ⟨RX9, "heat", "([II)V"⟩
abbrev cX9_work : ByteArray := prog_11_method_23_code
def yX9_work : MethodName := ⟨RX9, "work", "([II)V"⟩
abbrev cX9_settle : ByteArray := prog_11_method_24_code
def yX9_settle : MethodName := ⟨RX9, "settle", "([I)V"⟩
abbrev cX9_watch : ByteArray := prog_11_method_25_code
def yX9_watch : MethodName := ⟨RX9, "watch", "([I)V"⟩
abbrev cX9_tickOn : ByteArray := prog_11_method_26_code
def yX9_tickOn : MethodName := ⟨RX9, "tickOn", "([II)V"⟩
abbrev cX9_ticksOn : ByteArray := prog_11_method_27_code
def yX9_ticksOn : MethodName := ⟨RX9, "ticksOn", "([III)V"⟩
abbrev cX9_flueOn : ByteArray := prog_11_method_28_code
def yX9_flueOn : MethodName := ⟨RX9, "flueOn", "([IIZ)I"⟩
abbrev cX9_put : ByteArray := prog_11_method_29_code
def yX9_put : MethodName := ⟨RX9, "put", "([III)V"⟩
abbrev cX9_append : ByteArray := prog_11_method_30_code
def yX9_append : MethodName := ⟨RX9, "append", "(I)I"⟩
abbrev cX9_clearText : ByteArray := prog_11_method_31_code
def yX9_clearText : MethodName := ⟨RX9, "clearText", "()I"⟩
abbrev cX9_eat : ByteArray := prog_11_method_32_code
def yX9_eat : MethodName := ⟨RX9, "eat", "(I)Z"⟩
abbrev cX9_digit : ByteArray := prog_11_method_33_code
def yX9_digit : MethodName := ⟨RX9, "digit", "(II)I"⟩
abbrev cX9_two : ByteArray := prog_11_method_34_code
def yX9_two : MethodName := ⟨RX9, "two", "(II)I"⟩
abbrev cX9_readBoilers : ByteArray := prog_11_method_35_code
def yX9_readBoilers : MethodName := ⟨RX9, "readBoilers", "()Z"⟩
abbrev cX9_readAll : ByteArray := prog_11_method_36_code
def yX9_readAll : MethodName := ⟨RX9, "readAll", "()Z"⟩
abbrev cX9_errorPosition : ByteArray := prog_11_method_37_code
def yX9_errorPosition : MethodName := ⟨RX9, "errorPosition", "()I"⟩
abbrev cX9_load : ByteArray := prog_11_method_38_code
def yX9_load : MethodName := ⟨RX9, "load", "()I"⟩
abbrev cX9_isBoiler : ByteArray := prog_11_method_39_code
def yX9_isBoiler : MethodName := ⟨RX9, "isBoiler", "(I)Z"⟩
abbrev cX9_about : ByteArray := prog_11_method_40_code
def yX9_about : MethodName := ⟨RX9, "about", "(I)I"⟩
abbrev cX9_boiler : ByteArray := prog_11_method_41_code
def yX9_boiler : MethodName := ⟨RX9, "boiler", "(II)I"⟩
abbrev cX9_flue : ByteArray := prog_11_method_42_code
def yX9_flue : MethodName := ⟨RX9, "flue", "(II)I"⟩
abbrev cX9_layer : ByteArray := prog_11_method_43_code
def yX9_layer : MethodName := ⟨RX9, "layer", "(I)I"⟩
abbrev cX9_account : ByteArray := prog_11_method_44_code
def yX9_account : MethodName := ⟨RX9, "account", "(I)I"⟩
abbrev cX9_note : ByteArray := prog_11_method_45_code
def yX9_note : MethodName := ⟨RX9, "note", "()V"⟩
abbrev cX9_areTicks : ByteArray := prog_11_method_46_code
def yX9_areTicks : MethodName := ⟨RX9, "areTicks", "(II)Z"⟩
abbrev cX9_tick : ByteArray := prog_11_method_47_code
def yX9_tick : MethodName := ⟨RX9, "tick", "(II)I"⟩
abbrev cX9_draw : ByteArray := prog_11_method_48_code
def yX9_draw : MethodName := ⟨RX9, "draw", "(I)I"⟩
abbrev cX9_set : ByteArray := prog_11_method_49_code
def yX9_set : MethodName := ⟨RX9, "set", "(II)I"⟩
abbrev cX9_setFlue : ByteArray := prog_11_method_50_code
def yX9_setFlue : MethodName := ⟨RX9, "setFlue", "(IZ)I"⟩
abbrev cX9_setDraft : ByteArray := prog_11_method_51_code
def yX9_setDraft : MethodName := ⟨RX9, "setDraft", "(II)I"⟩
abbrev cX9_lock : ByteArray := prog_11_method_52_code
def yX9_lock : MethodName := ⟨RX9, "lock", "(I)I"⟩
abbrev cX9_unlock : ByteArray := prog_11_method_53_code
def yX9_unlock : MethodName := ⟨RX9, "unlock", "(I)I"⟩
abbrev cX9_putOff : ByteArray := prog_11_method_54_code
def yX9_putOff : MethodName := ⟨RX9, "putOff", "(I)I"⟩
abbrev cX9_undo : ByteArray := prog_11_method_55_code
def yX9_undo : MethodName := ⟨RX9, "undo", "()I"⟩
abbrev cX9_next : ByteArray := prog_11_method_56_code
def yX9_next : MethodName := ⟨RX9, "next", "()I"⟩
abbrev cX9_whyNot : ByteArray := prog_11_method_57_code
def yX9_whyNot : MethodName := ⟨RX9, "whyNot", "(I)I"⟩
abbrev cX9_smallestSet : ByteArray := prog_11_method_58_code
def yX9_smallestSet : MethodName := ⟨RX9, "smallestSet", "(IZ)I"⟩
abbrev cX9_ahead : ByteArray := prog_11_method_59_code
def yX9_ahead : MethodName := ⟨RX9, "ahead", "(III)I"⟩
abbrev cX9_warmAfter : ByteArray := prog_11_method_60_code
def yX9_warmAfter : MethodName := ⟨RX9, "warmAfter", "(II)I"⟩
abbrev cX9_bearable : ByteArray := prog_11_method_61_code
def yX9_bearable : MethodName := ⟨RX9, "bearable", "(II)I"⟩
abbrev cX9_cheapestPurge : ByteArray := prog_11_method_62_code
def yX9_cheapestPurge : MethodName := ⟨RX9, "cheapestPurge", "(II)I"⟩
abbrev cX9_does : ByteArray := prog_11_method_63_code
def yX9_does : MethodName := ⟨RX9, "does", "(III)Z"⟩
abbrev cX9_runScript : ByteArray := prog_11_method_64_code
def yX9_runScript : MethodName := ⟨RX9, "runScript", "(IJ)I"⟩
abbrev cX9_simulate : ByteArray := prog_11_method_65_code
def yX9_simulate : MethodName := ⟨RX9, "simulate", "(JI)I"⟩
abbrev cX9_save : ByteArray := prog_11_method_66_code
def yX9_save : MethodName := ⟨RX9, "save", "(I)I"⟩
abbrev cX9_restore : ByteArray := prog_11_method_67_code
def yX9_restore : MethodName := ⟨RX9, "restore", "(I)I"⟩
def RJ6 : String := "java/lang/Integer"
abbrev cJ6_bitCount_0f7a4 : ByteArray := prog_16_method_49_code
def yJ6_bitCount_0f7a4 : MethodName := ⟨RJ6, "bitCount", "(I)I"⟩
def RJ9 : String := "java/lang/Math"
abbrev cJ9_min_7cf53 : ByteArray := prog_17_method_69_code
def yJ9_min_7cf53 : MethodName := ⟨RJ9, "min", "(II)I"⟩
def RJ0 : String := "java/lang/String"
def RL : String := "BoilerCascadeLaw"
abbrev cL_append : ByteArray := method_3_code
def yL_append : MethodName := ⟨RL, "append", "(LBoilerCascade;I[J)I"⟩
abbrev cL_load : ByteArray := method_4_code
def yL_load : MethodName := ⟨RL, "load", "(LBoilerCascade;[J)I"⟩
abbrev cL_about : ByteArray := method_5_code
def yL_about : MethodName := ⟨RL, "about", "(LBoilerCascade;I[J)I"⟩
abbrev cL_boiler : ByteArray := method_6_code
def yL_boiler : MethodName := ⟨RL, "boiler", "(LBoilerCascade;II[J)I"⟩
abbrev cL_flue : ByteArray := method_7_code
def yL_flue : MethodName := ⟨RL, "flue", "(LBoilerCascade;II[J)I"⟩
abbrev cL_layer : ByteArray := method_8_code
def yL_layer : MethodName := ⟨RL, "layer", "(LBoilerCascade;I[J)I"⟩
abbrev cL_account : ByteArray := method_9_code
def yL_account : MethodName := ⟨RL, "account", "(LBoilerCascade;I[J)I"⟩
abbrev cL_tick : ByteArray := method_10_code
def yL_tick : MethodName := ⟨RL, "tick", "(LBoilerCascade;II[J)I"⟩
abbrev cL_draw : ByteArray := method_11_code
def yL_draw : MethodName := ⟨RL, "draw", "(LBoilerCascade;I[J)I"⟩
abbrev cL_set : ByteArray := method_12_code
def yL_set : MethodName := ⟨RL, "set", "(LBoilerCascade;II[J)I"⟩
abbrev cL_setFlue : ByteArray := method_13_code
def yL_setFlue : MethodName := ⟨RL, "setFlue", "(LBoilerCascade;IZ[J)I"⟩
abbrev cL_setDraft : ByteArray := method_14_code
def yL_setDraft : MethodName := ⟨RL, "setDraft", "(LBoilerCascade;II[J)I"⟩
abbrev cL_lock : ByteArray := method_15_code
def yL_lock : MethodName := ⟨RL, "lock", "(LBoilerCascade;I[J)I"⟩
abbrev cL_unlock : ByteArray := method_16_code
def yL_unlock : MethodName := ⟨RL, "unlock", "(LBoilerCascade;I[J)I"⟩
abbrev cL_putOff : ByteArray := method_17_code
def yL_putOff : MethodName := ⟨RL, "putOff", "(LBoilerCascade;I[J)I"⟩
abbrev cL_undo : ByteArray := method_18_code
def yL_undo : MethodName := ⟨RL, "undo", "(LBoilerCascade;[J)I"⟩
abbrev cL_whyNot : ByteArray := method_19_code
def yL_whyNot : MethodName := ⟨RL, "whyNot", "(LBoilerCascade;I[J)I"⟩
abbrev cL_smallestSet : ByteArray := method_20_code
def yL_smallestSet : MethodName := ⟨RL, "smallestSet", "(LBoilerCascade;IZ[J)I"⟩
abbrev cL_ahead : ByteArray := method_21_code
def yL_ahead : MethodName := ⟨RL, "ahead", "(LBoilerCascade;III[J)I"⟩
abbrev cL_warmAfter : ByteArray := method_22_code
def yL_warmAfter : MethodName := ⟨RL, "warmAfter", "(LBoilerCascade;II[J)I"⟩
abbrev cL_bearable : ByteArray := method_23_code
def yL_bearable : MethodName := ⟨RL, "bearable", "(LBoilerCascade;II[J)I"⟩
abbrev cL_cheapestPurge : ByteArray := method_24_code
def yL_cheapestPurge : MethodName := ⟨RL, "cheapestPurge", "(LBoilerCascade;II[J)I"⟩
abbrev cL_runScript : ByteArray := method_25_code
def yL_runScript : MethodName := ⟨RL, "runScript", "(LBoilerCascade;IJ[J)I"⟩
abbrev cL_simulate : ByteArray := method_26_code
def yL_simulate : MethodName := ⟨RL, "simulate", "(LBoilerCascade;JI[J)I"⟩
abbrev cL_save : ByteArray := method_27_code
def yL_save : MethodName := ⟨RL, "save", "(LBoilerCascade;I[J)I"⟩
abbrev cL_restore : ByteArray := method_28_code
def yL_restore : MethodName := ⟨RL, "restore", "(LBoilerCascade;I[J)I"⟩
abbrev cL_law : ByteArray := code
def yL_law : MethodName := ⟨RL, "law", "([I)Z"⟩
abbrev vwCl : List vw_C := [(RX0, TX0, 7), (RX1, TX1, 2), (RX2, TX2, 3), (RX3, TX3, 5), (RX4, TX4, 11), (RX5, TX5, 9), (RX6, TX6, 2), (RX7, TX7, 7), (RX8, TX8, 6), (RX9, TX9, 15)]
end
section
theorem dX0_init_0 : decode cX0_init 0 = .ok (.aload_n 0, 1) := by decide +kernel
theorem dX0_init_1 : decode cX0_init 1 = .ok (.invokespecial 3, 3) := by decide +kernel
theorem dX0_init_4 : decode cX0_init 4 = .ok (.return_, 1) := by decide +kernel
theorem dX0_beginAs_0 : decode cX0_beginAs 0 = .ok (.aload_n 0, 1) := by decide +kernel
theorem dX0_beginAs_1 : decode cX0_beginAs 1 = .ok (.iload_n 1, 1) := by decide +kernel
theorem dX0_beginAs_2 : decode cX0_beginAs 2 = .ok (.putfield 9, 3) := by decide +kernel
theorem dX0_beginAs_5 : decode cX0_beginAs 5 = .ok (.aload_n 0, 1) := by decide +kernel
theorem dX0_beginAs_6 : decode cX0_beginAs 6 = .ok (.iload_n 2, 1) := by decide +kernel
theorem dX0_beginAs_7 : decode cX0_beginAs 7 = .ok (.putfield 15, 3) := by decide +kernel
theorem dX0_beginAs_10 : decode cX0_beginAs 10 = .ok (.aload_n 0, 1) := by decide +kernel
theorem dX0_beginAs_11 : decode cX0_beginAs 11 = .ok (.iconst 0, 1) := by decide +kernel
theorem dX0_beginAs_12 : decode cX0_beginAs 12 = .ok (.putfield 18, 3) := by decide +kernel
theorem dX0_beginAs_15 : decode cX0_beginAs 15 = .ok (.aload_n 0, 1) := by decide +kernel
theorem dX0_beginAs_16 : decode cX0_beginAs 16 = .ok (.iconst 0, 1) := by decide +kernel
theorem dX0_beginAs_17 : decode cX0_beginAs 17 = .ok (.putfield 21, 3) := by decide +kernel
theorem dX0_beginAs_20 : decode cX0_beginAs 20 = .ok (.aload_n 0, 1) := by decide +kernel
theorem dX0_beginAs_21 : decode cX0_beginAs 21 = .ok (.iconst 0, 1) := by decide +kernel
theorem dX0_beginAs_22 : decode cX0_beginAs 22 = .ok (.putfield 24, 3) := by decide +kernel
theorem dX0_beginAs_25 : decode cX0_beginAs 25 = .ok (.aload_n 0, 1) := by decide +kernel
theorem dX0_beginAs_26 : decode cX0_beginAs 26 = .ok (.iconst 0, 1) := by decide +kernel
theorem dX0_beginAs_27 : decode cX0_beginAs 27 = .ok (.putfield 27, 3) := by decide +kernel
theorem dX0_beginAs_30 : decode cX0_beginAs 30 = .ok (.aload_n 0, 1) := by decide +kernel
theorem dX0_beginAs_31 : decode cX0_beginAs 31 = .ok (.iconst 0, 1) := by decide +kernel
theorem dX0_beginAs_32 : decode cX0_beginAs 32 = .ok (.putfield 30, 3) := by decide +kernel
theorem dX0_beginAs_35 : decode cX0_beginAs 35 = .ok (.return_, 1) := by decide +kernel
theorem dX0_copyFrom_0 : decode cX0_copyFrom 0 = .ok (.aload_n 0, 1) := by decide +kernel
theorem dX0_copyFrom_1 : decode cX0_copyFrom 1 = .ok (.aload_n 1, 1) := by decide +kernel
theorem dX0_copyFrom_2 : decode cX0_copyFrom 2 = .ok (.getfield 9, 3) := by decide +kernel
theorem dX0_copyFrom_5 : decode cX0_copyFrom 5 = .ok (.putfield 9, 3) := by decide +kernel
theorem dX0_copyFrom_8 : decode cX0_copyFrom 8 = .ok (.aload_n 0, 1) := by decide +kernel
theorem dX0_copyFrom_9 : decode cX0_copyFrom 9 = .ok (.aload_n 1, 1) := by decide +kernel
theorem dX0_copyFrom_10 : decode cX0_copyFrom 10 = .ok (.getfield 15, 3) := by decide +kernel
theorem dX0_copyFrom_13 : decode cX0_copyFrom 13 = .ok (.putfield 15, 3) := by decide +kernel
theorem dX0_copyFrom_16 : decode cX0_copyFrom 16 = .ok (.aload_n 0, 1) := by decide +kernel
theorem dX0_copyFrom_17 : decode cX0_copyFrom 17 = .ok (.aload_n 1, 1) := by decide +kernel
theorem dX0_copyFrom_18 : decode cX0_copyFrom 18 = .ok (.getfield 18, 3) := by decide +kernel
theorem dX0_copyFrom_21 : decode cX0_copyFrom 21 = .ok (.putfield 18, 3) := by decide +kernel
theorem dX0_copyFrom_24 : decode cX0_copyFrom 24 = .ok (.aload_n 0, 1) := by decide +kernel
theorem dX0_copyFrom_25 : decode cX0_copyFrom 25 = .ok (.aload_n 1, 1) := by decide +kernel
theorem dX0_copyFrom_26 : decode cX0_copyFrom 26 = .ok (.getfield 21, 3) := by decide +kernel
theorem dX0_copyFrom_29 : decode cX0_copyFrom 29 = .ok (.putfield 21, 3) := by decide +kernel
theorem dX0_copyFrom_32 : decode cX0_copyFrom 32 = .ok (.aload_n 0, 1) := by decide +kernel
theorem dX0_copyFrom_33 : decode cX0_copyFrom 33 = .ok (.aload_n 1, 1) := by decide +kernel
theorem dX0_copyFrom_34 : decode cX0_copyFrom 34 = .ok (.getfield 24, 3) := by decide +kernel
theorem dX0_copyFrom_37 : decode cX0_copyFrom 37 = .ok (.putfield 24, 3) := by decide +kernel
theorem dX0_copyFrom_40 : decode cX0_copyFrom 40 = .ok (.aload_n 0, 1) := by decide +kernel
theorem dX0_copyFrom_41 : decode cX0_copyFrom 41 = .ok (.aload_n 1, 1) := by decide +kernel
theorem dX0_copyFrom_42 : decode cX0_copyFrom 42 = .ok (.getfield 27, 3) := by decide +kernel
theorem dX0_copyFrom_45 : decode cX0_copyFrom 45 = .ok (.putfield 27, 3) := by decide +kernel
theorem dX0_copyFrom_48 : decode cX0_copyFrom 48 = .ok (.aload_n 0, 1) := by decide +kernel
theorem dX0_copyFrom_49 : decode cX0_copyFrom 49 = .ok (.aload_n 1, 1) := by decide +kernel
theorem dX0_copyFrom_50 : decode cX0_copyFrom 50 = .ok (.getfield 30, 3) := by decide +kernel
theorem dX0_copyFrom_53 : decode cX0_copyFrom 53 = .ok (.putfield 30, 3) := by decide +kernel
theorem dX0_copyFrom_56 : decode cX0_copyFrom 56 = .ok (.return_, 1) := by decide +kernel
theorem dX0_waits_0 : decode cX0_waits 0 = .ok (.aload_n 0, 1) := by decide +kernel
theorem dX0_waits_1 : decode cX0_waits 1 = .ok (.getfield 18, 3) := by decide +kernel
theorem dX0_waits_4 : decode cX0_waits 4 = .ok (.ifCond .eq 11, 3) := by decide +kernel
theorem dX0_waits_7 : decode cX0_waits 7 = .ok (.aload_n 0, 1) := by decide +kernel
theorem dX0_waits_8 : decode cX0_waits 8 = .ok (.getfield 18, 3) := by decide +kernel
theorem dX0_waits_11 : decode cX0_waits 11 = .ok (.iconst 3, 1) := by decide +kernel
theorem dX0_waits_12 : decode cX0_waits 12 = .ok (.if_icmp .ne 7, 3) := by decide +kernel
theorem dX0_waits_15 : decode cX0_waits 15 = .ok (.iconst 1, 1) := by decide +kernel
theorem dX0_waits_16 : decode cX0_waits 16 = .ok (.goto 4, 3) := by decide +kernel
theorem dX0_waits_19 : decode cX0_waits 19 = .ok (.iconst 0, 1) := by decide +kernel
theorem dX0_waits_20 : decode cX0_waits 20 = .ok (.ireturn, 1) := by decide +kernel
theorem dX0_start_0 : decode cX0_start 0 = .ok (.aload_n 0, 1) := by decide +kernel
theorem dX0_start_1 : decode cX0_start 1 = .ok (.getfield 18, 3) := by decide +kernel
theorem dX0_start_4 : decode cX0_start 4 = .ok (.iconst 3, 1) := by decide +kernel
theorem dX0_start_5 : decode cX0_start 5 = .ok (.if_icmp .ne 11, 3) := by decide +kernel
theorem dX0_start_8 : decode cX0_start 8 = .ok (.aload_n 0, 1) := by decide +kernel
theorem dX0_start_9 : decode cX0_start 9 = .ok (.iconst 2, 1) := by decide +kernel
theorem dX0_start_10 : decode cX0_start 10 = .ok (.putfield 18, 3) := by decide +kernel
theorem dX0_start_13 : decode cX0_start 13 = .ok (.goto 13, 3) := by decide +kernel
theorem dX0_start_16 : decode cX0_start 16 = .ok (.aload_n 0, 1) := by decide +kernel
theorem dX0_start_17 : decode cX0_start 17 = .ok (.iconst 1, 1) := by decide +kernel
theorem dX0_start_18 : decode cX0_start 18 = .ok (.putfield 18, 3) := by decide +kernel
theorem dX0_start_21 : decode cX0_start 21 = .ok (.aload_n 0, 1) := by decide +kernel
theorem dX0_start_22 : decode cX0_start 22 = .ok (.iload_n 1, 1) := by decide +kernel
theorem dX0_start_23 : decode cX0_start 23 = .ok (.putfield 21, 3) := by decide +kernel
theorem dX0_start_26 : decode cX0_start 26 = .ok (.aload_n 0, 1) := by decide +kernel
theorem dX0_start_27 : decode cX0_start 27 = .ok (.dup, 1) := by decide +kernel
theorem dX0_start_28 : decode cX0_start 28 = .ok (.getfield 27, 3) := by decide +kernel
theorem dX0_start_31 : decode cX0_start 31 = .ok (.iconst 1, 1) := by decide +kernel
theorem dX0_start_32 : decode cX0_start 32 = .ok (.iadd, 1) := by decide +kernel
theorem dX0_start_33 : decode cX0_start 33 = .ok (.putfield 27, 3) := by decide +kernel
theorem dX0_start_36 : decode cX0_start 36 = .ok (.return_, 1) := by decide +kernel
theorem dX0_leaveFor_0 : decode cX0_leaveFor 0 = .ok (.aload_n 0, 1) := by decide +kernel
theorem dX0_leaveFor_1 : decode cX0_leaveFor 1 = .ok (.iload_n 1, 1) := by decide +kernel
theorem dX0_leaveFor_2 : decode cX0_leaveFor 2 = .ok (.putfield 18, 3) := by decide +kernel
theorem dX0_leaveFor_5 : decode cX0_leaveFor 5 = .ok (.aload_n 0, 1) := by decide +kernel
theorem dX0_leaveFor_6 : decode cX0_leaveFor 6 = .ok (.iconst 0, 1) := by decide +kernel
theorem dX0_leaveFor_7 : decode cX0_leaveFor 7 = .ok (.putfield 21, 3) := by decide +kernel
theorem dX0_leaveFor_10 : decode cX0_leaveFor 10 = .ok (.return_, 1) := by decide +kernel
theorem dX0_work_0 : decode cX0_work 0 = .ok (.aload_n 0, 1) := by decide +kernel
theorem dX0_work_1 : decode cX0_work 1 = .ok (.getfield 18, 3) := by decide +kernel
theorem dX0_work_4 : decode cX0_work 4 = .ok (.tableswitch 92 1 3 #[28, 52, 80], 28) := by decide +kernel
theorem dX0_work_32 : decode cX0_work 32 = .ok (.aload_n 0, 1) := by decide +kernel
theorem dX0_work_33 : decode cX0_work 33 = .ok (.dup, 1) := by decide +kernel
theorem dX0_work_34 : decode cX0_work 34 = .ok (.getfield 21, 3) := by decide +kernel
theorem dX0_work_37 : decode cX0_work 37 = .ok (.iconst 1, 1) := by decide +kernel
theorem dX0_work_38 : decode cX0_work 38 = .ok (.isub, 1) := by decide +kernel
theorem dX0_work_39 : decode cX0_work 39 = .ok (.putfield 21, 3) := by decide +kernel
theorem dX0_work_42 : decode cX0_work 42 = .ok (.aload_n 0, 1) := by decide +kernel
theorem dX0_work_43 : decode cX0_work 43 = .ok (.getfield 21, 3) := by decide +kernel
theorem dX0_work_46 : decode cX0_work 46 = .ok (.ifCond .gt 8, 3) := by decide +kernel
theorem dX0_work_49 : decode cX0_work 49 = .ok (.aload_n 0, 1) := by decide +kernel
theorem dX0_work_50 : decode cX0_work 50 = .ok (.iconst 2, 1) := by decide +kernel
theorem dX0_work_51 : decode cX0_work 51 = .ok (.invokevirtual 33, 3) := by decide +kernel
theorem dX0_work_54 : decode cX0_work 54 = .ok (.iconst 0, 1) := by decide +kernel
theorem dX0_work_55 : decode cX0_work 55 = .ok (.ireturn, 1) := by decide +kernel
theorem dX0_work_56 : decode cX0_work 56 = .ok (.aload_n 0, 1) := by decide +kernel
theorem dX0_work_57 : decode cX0_work 57 = .ok (.dup, 1) := by decide +kernel
theorem dX0_work_58 : decode cX0_work 58 = .ok (.getfield 24, 3) := by decide +kernel
theorem dX0_work_61 : decode cX0_work 61 = .ok (.iconst 1, 1) := by decide +kernel
theorem dX0_work_62 : decode cX0_work 62 = .ok (.iadd, 1) := by decide +kernel
theorem dX0_work_63 : decode cX0_work 63 = .ok (.putfield 24, 3) := by decide +kernel
theorem dX0_work_66 : decode cX0_work 66 = .ok (.aload_n 0, 1) := by decide +kernel
theorem dX0_work_67 : decode cX0_work 67 = .ok (.dup, 1) := by decide +kernel
theorem dX0_work_68 : decode cX0_work 68 = .ok (.getfield 30, 3) := by decide +kernel
theorem dX0_work_71 : decode cX0_work 71 = .ok (.aload_n 0, 1) := by decide +kernel
theorem dX0_work_72 : decode cX0_work 72 = .ok (.getfield 9, 3) := by decide +kernel
theorem dX0_work_75 : decode cX0_work 75 = .ok (.iadd, 1) := by decide +kernel
theorem dX0_work_76 : decode cX0_work 76 = .ok (.putfield 30, 3) := by decide +kernel
theorem dX0_work_79 : decode cX0_work 79 = .ok (.aload_n 0, 1) := by decide +kernel
theorem dX0_work_80 : decode cX0_work 80 = .ok (.getfield 9, 3) := by decide +kernel
theorem dX0_work_83 : decode cX0_work 83 = .ok (.ireturn, 1) := by decide +kernel
theorem dX0_work_84 : decode cX0_work 84 = .ok (.aload_n 0, 1) := by decide +kernel
theorem dX0_work_85 : decode cX0_work 85 = .ok (.dup, 1) := by decide +kernel
theorem dX0_work_86 : decode cX0_work 86 = .ok (.getfield 30, 3) := by decide +kernel
theorem dX0_work_89 : decode cX0_work 89 = .ok (.iconst 1, 1) := by decide +kernel
theorem dX0_work_90 : decode cX0_work 90 = .ok (.iadd, 1) := by decide +kernel
theorem dX0_work_91 : decode cX0_work 91 = .ok (.putfield 30, 3) := by decide +kernel
theorem dX0_work_94 : decode cX0_work 94 = .ok (.iconst 0, 1) := by decide +kernel
theorem dX0_work_95 : decode cX0_work 95 = .ok (.ireturn, 1) := by decide +kernel
theorem dX0_work_96 : decode cX0_work 96 = .ok (.iconst 0, 1) := by decide +kernel
theorem dX0_work_97 : decode cX0_work 97 = .ok (.ireturn, 1) := by decide +kernel
theorem dX1_init_0 : decode cX1_init 0 = .ok (.aload_n 0, 1) := by decide +kernel
theorem dX1_init_1 : decode cX1_init 1 = .ok (.invokespecial 1, 3) := by decide +kernel
theorem dX1_init_4 : decode cX1_init 4 = .ok (.return_, 1) := by decide +kernel
theorem dX1_beginAs_0 : decode cX1_beginAs 0 = .ok (.aload_n 0, 1) := by decide +kernel
theorem dX1_beginAs_1 : decode cX1_beginAs 1 = .ok (.iload_n 1, 1) := by decide +kernel
theorem dX1_beginAs_2 : decode cX1_beginAs 2 = .ok (.putfield 7, 3) := by decide +kernel
theorem dX1_beginAs_5 : decode cX1_beginAs 5 = .ok (.aload_n 0, 1) := by decide +kernel
theorem dX1_beginAs_6 : decode cX1_beginAs 6 = .ok (.iconst 1, 1) := by decide +kernel
theorem dX1_beginAs_7 : decode cX1_beginAs 7 = .ok (.putfield 13, 3) := by decide +kernel
theorem dX1_beginAs_10 : decode cX1_beginAs 10 = .ok (.return_, 1) := by decide +kernel
theorem dX1_copyFrom_0 : decode cX1_copyFrom 0 = .ok (.aload_n 0, 1) := by decide +kernel
theorem dX1_copyFrom_1 : decode cX1_copyFrom 1 = .ok (.aload_n 1, 1) := by decide +kernel
theorem dX1_copyFrom_2 : decode cX1_copyFrom 2 = .ok (.getfield 7, 3) := by decide +kernel
theorem dX1_copyFrom_5 : decode cX1_copyFrom 5 = .ok (.putfield 7, 3) := by decide +kernel
theorem dX1_copyFrom_8 : decode cX1_copyFrom 8 = .ok (.aload_n 0, 1) := by decide +kernel
theorem dX1_copyFrom_9 : decode cX1_copyFrom 9 = .ok (.aload_n 1, 1) := by decide +kernel
theorem dX1_copyFrom_10 : decode cX1_copyFrom 10 = .ok (.getfield 13, 3) := by decide +kernel
theorem dX1_copyFrom_13 : decode cX1_copyFrom 13 = .ok (.putfield 13, 3) := by decide +kernel
theorem dX1_copyFrom_16 : decode cX1_copyFrom 16 = .ok (.return_, 1) := by decide +kernel
theorem dX2_init_0 : decode cX2_init 0 = .ok (.aload_n 0, 1) := by decide +kernel
theorem dX2_init_1 : decode cX2_init 1 = .ok (.invokespecial 3, 3) := by decide +kernel
theorem dX2_init_4 : decode cX2_init 4 = .ok (.aload_n 0, 1) := by decide +kernel
theorem dX2_init_5 : decode cX2_init 5 = .ok (.bipush 14, 2) := by decide +kernel
theorem dX2_init_7 : decode cX2_init 7 = .ok (.anewarray 9, 3) := by decide +kernel
theorem dX2_init_10 : decode cX2_init 10 = .ok (.putfield 11, 3) := by decide +kernel
theorem dX2_init_13 : decode cX2_init 13 = .ok (.iconst 0, 1) := by decide +kernel
theorem dX2_init_14 : decode cX2_init 14 = .ok (.istore_n 1, 1) := by decide +kernel
theorem dX2_init_15 : decode cX2_init 15 = .ok (.iload_n 1, 1) := by decide +kernel
theorem dX2_init_16 : decode cX2_init 16 = .ok (.aload_n 0, 1) := by decide +kernel
theorem dX2_init_17 : decode cX2_init 17 = .ok (.getfield 11, 3) := by decide +kernel
theorem dX2_init_20 : decode cX2_init 20 = .ok (.arraylength, 1) := by decide +kernel
theorem dX2_init_21 : decode cX2_init 21 = .ok (.if_icmp .ge 22, 3) := by decide +kernel
theorem dX2_init_24 : decode cX2_init 24 = .ok (.aload_n 0, 1) := by decide +kernel
theorem dX2_init_25 : decode cX2_init 25 = .ok (.getfield 11, 3) := by decide +kernel
theorem dX2_init_28 : decode cX2_init 28 = .ok (.iload_n 1, 1) := by decide +kernel
theorem dX2_init_29 : decode cX2_init 29 = .ok (.new 9, 3) := by decide +kernel
theorem dX2_init_32 : decode cX2_init 32 = .ok (.dup, 1) := by decide +kernel
theorem dX2_init_33 : decode cX2_init 33 = .ok (.invokespecial 17, 3) := by decide +kernel
theorem dX2_init_36 : decode cX2_init 36 = .ok (.aastore, 1) := by decide +kernel
theorem dX2_init_37 : decode cX2_init 37 = .ok (.iinc 1 1, 3) := by decide +kernel
theorem dX2_init_40 : decode cX2_init 40 = .ok (.goto (-25), 3) := by decide +kernel
theorem dX2_init_43 : decode cX2_init 43 = .ok (.return_, 1) := by decide +kernel
theorem dX2_forgetAll_0 : decode cX2_forgetAll 0 = .ok (.aload_n 0, 1) := by decide +kernel
theorem dX2_forgetAll_1 : decode cX2_forgetAll 1 = .ok (.iconst 0, 1) := by decide +kernel
theorem dX2_forgetAll_2 : decode cX2_forgetAll 2 = .ok (.putfield 18, 3) := by decide +kernel
theorem dX2_forgetAll_5 : decode cX2_forgetAll 5 = .ok (.return_, 1) := by decide +kernel
theorem dX2_remember_0 : decode cX2_remember 0 = .ok (.aload_n 0, 1) := by decide +kernel
theorem dX2_remember_1 : decode cX2_remember 1 = .ok (.getfield 11, 3) := by decide +kernel
theorem dX2_remember_4 : decode cX2_remember 4 = .ok (.aload_n 0, 1) := by decide +kernel
theorem dX2_remember_5 : decode cX2_remember 5 = .ok (.getfield 22, 3) := by decide +kernel
theorem dX2_remember_8 : decode cX2_remember 8 = .ok (.aaload, 1) := by decide +kernel
theorem dX2_remember_9 : decode cX2_remember 9 = .ok (.aload_n 1, 1) := by decide +kernel
theorem dX2_remember_10 : decode cX2_remember 10 = .ok (.invokevirtual 25, 3) := by decide +kernel
theorem dX2_remember_13 : decode cX2_remember 13 = .ok (.aload_n 0, 1) := by decide +kernel
theorem dX2_remember_14 : decode cX2_remember 14 = .ok (.aload_n 0, 1) := by decide +kernel
theorem dX2_remember_15 : decode cX2_remember 15 = .ok (.getfield 22, 3) := by decide +kernel
theorem dX2_remember_18 : decode cX2_remember 18 = .ok (.iconst 1, 1) := by decide +kernel
theorem dX2_remember_19 : decode cX2_remember 19 = .ok (.iadd, 1) := by decide +kernel
theorem dX2_remember_20 : decode cX2_remember 20 = .ok (.aload_n 0, 1) := by decide +kernel
theorem dX2_remember_21 : decode cX2_remember 21 = .ok (.getfield 11, 3) := by decide +kernel
theorem dX2_remember_24 : decode cX2_remember 24 = .ok (.arraylength, 1) := by decide +kernel
theorem dX2_remember_25 : decode cX2_remember 25 = .ok (.if_icmp .ge 12, 3) := by decide +kernel
theorem dX2_remember_28 : decode cX2_remember 28 = .ok (.aload_n 0, 1) := by decide +kernel
theorem dX2_remember_29 : decode cX2_remember 29 = .ok (.getfield 22, 3) := by decide +kernel
theorem dX2_remember_32 : decode cX2_remember 32 = .ok (.iconst 1, 1) := by decide +kernel
theorem dX2_remember_33 : decode cX2_remember 33 = .ok (.iadd, 1) := by decide +kernel
theorem dX2_remember_34 : decode cX2_remember 34 = .ok (.goto 4, 3) := by decide +kernel
theorem dX2_remember_37 : decode cX2_remember 37 = .ok (.iconst 0, 1) := by decide +kernel
theorem dX2_remember_38 : decode cX2_remember 38 = .ok (.putfield 22, 3) := by decide +kernel
theorem dX2_remember_41 : decode cX2_remember 41 = .ok (.aload_n 0, 1) := by decide +kernel
theorem dX2_remember_42 : decode cX2_remember 42 = .ok (.aload_n 0, 1) := by decide +kernel
theorem dX2_remember_43 : decode cX2_remember 43 = .ok (.getfield 18, 3) := by decide +kernel
theorem dX2_remember_46 : decode cX2_remember 46 = .ok (.iconst 1, 1) := by decide +kernel
theorem dX2_remember_47 : decode cX2_remember 47 = .ok (.iadd, 1) := by decide +kernel
theorem dX2_remember_48 : decode cX2_remember 48 = .ok (.aload_n 0, 1) := by decide +kernel
theorem dX2_remember_49 : decode cX2_remember 49 = .ok (.getfield 11, 3) := by decide +kernel
theorem dX2_remember_52 : decode cX2_remember 52 = .ok (.arraylength, 1) := by decide +kernel
theorem dX2_remember_53 : decode cX2_remember 53 = .ok (.invokestatic 29, 3) := by decide +kernel
theorem dX2_remember_56 : decode cX2_remember 56 = .ok (.putfield 18, 3) := by decide +kernel
theorem dX2_remember_59 : decode cX2_remember 59 = .ok (.return_, 1) := by decide +kernel
theorem dX2_takeBackInto_0 : decode cX2_takeBackInto 0 = .ok (.aload_n 0, 1) := by decide +kernel
theorem dX2_takeBackInto_1 : decode cX2_takeBackInto 1 = .ok (.getfield 18, 3) := by decide +kernel
theorem dX2_takeBackInto_4 : decode cX2_takeBackInto 4 = .ok (.ifCond .gt 5, 3) := by decide +kernel
theorem dX2_takeBackInto_7 : decode cX2_takeBackInto 7 = .ok (.iconst 0, 1) := by decide +kernel
theorem dX2_takeBackInto_8 : decode cX2_takeBackInto 8 = .ok (.ireturn, 1) := by decide +kernel
theorem dX2_takeBackInto_9 : decode cX2_takeBackInto 9 = .ok (.aload_n 0, 1) := by decide +kernel
theorem dX2_takeBackInto_10 : decode cX2_takeBackInto 10 = .ok (.aload_n 0, 1) := by decide +kernel
theorem dX2_takeBackInto_11 : decode cX2_takeBackInto 11 = .ok (.getfield 22, 3) := by decide +kernel
theorem dX2_takeBackInto_14 : decode cX2_takeBackInto 14 = .ok (.ifCond .le 12, 3) := by decide +kernel
theorem dX2_takeBackInto_17 : decode cX2_takeBackInto 17 = .ok (.aload_n 0, 1) := by decide +kernel
theorem dX2_takeBackInto_18 : decode cX2_takeBackInto 18 = .ok (.getfield 22, 3) := by decide +kernel
theorem dX2_takeBackInto_21 : decode cX2_takeBackInto 21 = .ok (.iconst 1, 1) := by decide +kernel
theorem dX2_takeBackInto_22 : decode cX2_takeBackInto 22 = .ok (.isub, 1) := by decide +kernel
theorem dX2_takeBackInto_23 : decode cX2_takeBackInto 23 = .ok (.goto 10, 3) := by decide +kernel
theorem dX2_takeBackInto_26 : decode cX2_takeBackInto 26 = .ok (.aload_n 0, 1) := by decide +kernel
theorem dX2_takeBackInto_27 : decode cX2_takeBackInto 27 = .ok (.getfield 11, 3) := by decide +kernel
theorem dX2_takeBackInto_30 : decode cX2_takeBackInto 30 = .ok (.arraylength, 1) := by decide +kernel
theorem dX2_takeBackInto_31 : decode cX2_takeBackInto 31 = .ok (.iconst 1, 1) := by decide +kernel
theorem dX2_takeBackInto_32 : decode cX2_takeBackInto 32 = .ok (.isub, 1) := by decide +kernel
theorem dX2_takeBackInto_33 : decode cX2_takeBackInto 33 = .ok (.putfield 22, 3) := by decide +kernel
theorem dX2_takeBackInto_36 : decode cX2_takeBackInto 36 = .ok (.aload_n 1, 1) := by decide +kernel
theorem dX2_takeBackInto_37 : decode cX2_takeBackInto 37 = .ok (.aload_n 0, 1) := by decide +kernel
theorem dX2_takeBackInto_38 : decode cX2_takeBackInto 38 = .ok (.getfield 11, 3) := by decide +kernel
theorem dX2_takeBackInto_41 : decode cX2_takeBackInto 41 = .ok (.aload_n 0, 1) := by decide +kernel
theorem dX2_takeBackInto_42 : decode cX2_takeBackInto 42 = .ok (.getfield 22, 3) := by decide +kernel
theorem dX2_takeBackInto_45 : decode cX2_takeBackInto 45 = .ok (.aaload, 1) := by decide +kernel
theorem dX2_takeBackInto_46 : decode cX2_takeBackInto 46 = .ok (.invokevirtual 25, 3) := by decide +kernel
theorem dX2_takeBackInto_49 : decode cX2_takeBackInto 49 = .ok (.aload_n 0, 1) := by decide +kernel
theorem dX2_takeBackInto_50 : decode cX2_takeBackInto 50 = .ok (.dup, 1) := by decide +kernel
theorem dX2_takeBackInto_51 : decode cX2_takeBackInto 51 = .ok (.getfield 18, 3) := by decide +kernel
theorem dX2_takeBackInto_54 : decode cX2_takeBackInto 54 = .ok (.iconst 1, 1) := by decide +kernel
theorem dX2_takeBackInto_55 : decode cX2_takeBackInto 55 = .ok (.isub, 1) := by decide +kernel
theorem dX2_takeBackInto_56 : decode cX2_takeBackInto 56 = .ok (.putfield 18, 3) := by decide +kernel
theorem dX2_takeBackInto_59 : decode cX2_takeBackInto 59 = .ok (.iconst 1, 1) := by decide +kernel
theorem dX2_takeBackInto_60 : decode cX2_takeBackInto 60 = .ok (.ireturn, 1) := by decide +kernel
theorem dX3_init_0 : decode cX3_init 0 = .ok (.aload_n 0, 1) := by decide +kernel
theorem dX3_init_1 : decode cX3_init 1 = .ok (.invokespecial 3, 3) := by decide +kernel
theorem dX3_init_4 : decode cX3_init 4 = .ok (.return_, 1) := by decide +kernel
theorem dX3_beginAsNew_0 : decode cX3_beginAsNew 0 = .ok (.aload_n 0, 1) := by decide +kernel
theorem dX3_beginAsNew_1 : decode cX3_beginAsNew 1 = .ok (.iconst 0, 1) := by decide +kernel
theorem dX3_beginAsNew_2 : decode cX3_beginAsNew 2 = .ok (.putfield 9, 3) := by decide +kernel
theorem dX3_beginAsNew_5 : decode cX3_beginAsNew 5 = .ok (.aload_n 0, 1) := by decide +kernel
theorem dX3_beginAsNew_6 : decode cX3_beginAsNew 6 = .ok (.iconst 0, 1) := by decide +kernel
theorem dX3_beginAsNew_7 : decode cX3_beginAsNew 7 = .ok (.putfield 15, 3) := by decide +kernel
theorem dX3_beginAsNew_10 : decode cX3_beginAsNew 10 = .ok (.aload_n 0, 1) := by decide +kernel
theorem dX3_beginAsNew_11 : decode cX3_beginAsNew 11 = .ok (.invokevirtual 18, 3) := by decide +kernel
theorem dX3_beginAsNew_14 : decode cX3_beginAsNew 14 = .ok (.return_, 1) := by decide +kernel
theorem dX3_copyFrom_0 : decode cX3_copyFrom 0 = .ok (.aload_n 0, 1) := by decide +kernel
theorem dX3_copyFrom_1 : decode cX3_copyFrom 1 = .ok (.aload_n 1, 1) := by decide +kernel
theorem dX3_copyFrom_2 : decode cX3_copyFrom 2 = .ok (.getfield 21, 3) := by decide +kernel
theorem dX3_copyFrom_5 : decode cX3_copyFrom 5 = .ok (.putfield 21, 3) := by decide +kernel
theorem dX3_copyFrom_8 : decode cX3_copyFrom 8 = .ok (.aload_n 0, 1) := by decide +kernel
theorem dX3_copyFrom_9 : decode cX3_copyFrom 9 = .ok (.aload_n 1, 1) := by decide +kernel
theorem dX3_copyFrom_10 : decode cX3_copyFrom 10 = .ok (.getfield 25, 3) := by decide +kernel
theorem dX3_copyFrom_13 : decode cX3_copyFrom 13 = .ok (.putfield 25, 3) := by decide +kernel
theorem dX3_copyFrom_16 : decode cX3_copyFrom 16 = .ok (.aload_n 0, 1) := by decide +kernel
theorem dX3_copyFrom_17 : decode cX3_copyFrom 17 = .ok (.aload_n 1, 1) := by decide +kernel
theorem dX3_copyFrom_18 : decode cX3_copyFrom 18 = .ok (.getfield 28, 3) := by decide +kernel
theorem dX3_copyFrom_21 : decode cX3_copyFrom 21 = .ok (.putfield 28, 3) := by decide +kernel
theorem dX3_copyFrom_24 : decode cX3_copyFrom 24 = .ok (.aload_n 0, 1) := by decide +kernel
theorem dX3_copyFrom_25 : decode cX3_copyFrom 25 = .ok (.aload_n 1, 1) := by decide +kernel
theorem dX3_copyFrom_26 : decode cX3_copyFrom 26 = .ok (.getfield 9, 3) := by decide +kernel
theorem dX3_copyFrom_29 : decode cX3_copyFrom 29 = .ok (.putfield 9, 3) := by decide +kernel
theorem dX3_copyFrom_32 : decode cX3_copyFrom 32 = .ok (.aload_n 0, 1) := by decide +kernel
theorem dX3_copyFrom_33 : decode cX3_copyFrom 33 = .ok (.aload_n 1, 1) := by decide +kernel
theorem dX3_copyFrom_34 : decode cX3_copyFrom 34 = .ok (.getfield 15, 3) := by decide +kernel
theorem dX3_copyFrom_37 : decode cX3_copyFrom 37 = .ok (.putfield 15, 3) := by decide +kernel
theorem dX3_copyFrom_40 : decode cX3_copyFrom 40 = .ok (.return_, 1) := by decide +kernel
theorem dX3_end_0 : decode cX3_end 0 = .ok (.aload_n 0, 1) := by decide +kernel
theorem dX3_end_1 : decode cX3_end 1 = .ok (.iconst 0, 1) := by decide +kernel
theorem dX3_end_2 : decode cX3_end 2 = .ok (.putfield 21, 3) := by decide +kernel
theorem dX3_end_5 : decode cX3_end 5 = .ok (.aload_n 0, 1) := by decide +kernel
theorem dX3_end_6 : decode cX3_end 6 = .ok (.iconst 0, 1) := by decide +kernel
theorem dX3_end_7 : decode cX3_end 7 = .ok (.putfield 25, 3) := by decide +kernel
theorem dX3_end_10 : decode cX3_end 10 = .ok (.aload_n 0, 1) := by decide +kernel
theorem dX3_end_11 : decode cX3_end 11 = .ok (.iconst 0, 1) := by decide +kernel
theorem dX3_end_12 : decode cX3_end 12 = .ok (.putfield 28, 3) := by decide +kernel
theorem dX3_end_15 : decode cX3_end 15 = .ok (.return_, 1) := by decide +kernel
theorem dX3_countTick_0 : decode cX3_countTick 0 = .ok (.aload_n 0, 1) := by decide +kernel
theorem dX3_countTick_1 : decode cX3_countTick 1 = .ok (.getfield 21, 3) := by decide +kernel
theorem dX3_countTick_4 : decode cX3_countTick 4 = .ok (.ifCond .ne 4, 3) := by decide +kernel
theorem dX3_countTick_7 : decode cX3_countTick 7 = .ok (.return_, 1) := by decide +kernel
theorem dX3_countTick_8 : decode cX3_countTick 8 = .ok (.aload_n 0, 1) := by decide +kernel
theorem dX3_countTick_9 : decode cX3_countTick 9 = .ok (.dup, 1) := by decide +kernel
theorem dX3_countTick_10 : decode cX3_countTick 10 = .ok (.getfield 28, 3) := by decide +kernel
theorem dX3_countTick_13 : decode cX3_countTick 13 = .ok (.iconst 1, 1) := by decide +kernel
theorem dX3_countTick_14 : decode cX3_countTick 14 = .ok (.iadd, 1) := by decide +kernel
theorem dX3_countTick_15 : decode cX3_countTick 15 = .ok (.putfield 28, 3) := by decide +kernel
theorem dX3_countTick_18 : decode cX3_countTick 18 = .ok (.aload_n 0, 1) := by decide +kernel
theorem dX3_countTick_19 : decode cX3_countTick 19 = .ok (.iload_n 1, 1) := by decide +kernel
theorem dX3_countTick_20 : decode cX3_countTick 20 = .ok (.ifCond .eq 12, 3) := by decide +kernel
theorem dX3_countTick_23 : decode cX3_countTick 23 = .ok (.aload_n 0, 1) := by decide +kernel
theorem dX3_countTick_24 : decode cX3_countTick 24 = .ok (.getfield 25, 3) := by decide +kernel
theorem dX3_countTick_27 : decode cX3_countTick 27 = .ok (.iconst 1, 1) := by decide +kernel
theorem dX3_countTick_28 : decode cX3_countTick 28 = .ok (.iadd, 1) := by decide +kernel
theorem dX3_countTick_29 : decode cX3_countTick 29 = .ok (.goto 4, 3) := by decide +kernel
theorem dX3_countTick_32 : decode cX3_countTick 32 = .ok (.iconst 0, 1) := by decide +kernel
theorem dX3_countTick_33 : decode cX3_countTick 33 = .ok (.putfield 25, 3) := by decide +kernel
theorem dX3_countTick_36 : decode cX3_countTick 36 = .ok (.aload_n 0, 1) := by decide +kernel
theorem dX3_countTick_37 : decode cX3_countTick 37 = .ok (.getfield 25, 3) := by decide +kernel
theorem dX3_countTick_40 : decode cX3_countTick 40 = .ok (.iload_n 2, 1) := by decide +kernel
theorem dX3_countTick_41 : decode cX3_countTick 41 = .ok (.if_icmp .lt 20, 3) := by decide +kernel
theorem dX3_countTick_44 : decode cX3_countTick 44 = .ok (.aload_n 0, 1) := by decide +kernel
theorem dX3_countTick_45 : decode cX3_countTick 45 = .ok (.dup, 1) := by decide +kernel
theorem dX3_countTick_46 : decode cX3_countTick 46 = .ok (.getfield 9, 3) := by decide +kernel
theorem dX3_countTick_49 : decode cX3_countTick 49 = .ok (.iconst 1, 1) := by decide +kernel
theorem dX3_countTick_50 : decode cX3_countTick 50 = .ok (.iadd, 1) := by decide +kernel
theorem dX3_countTick_51 : decode cX3_countTick 51 = .ok (.putfield 9, 3) := by decide +kernel
theorem dX3_countTick_54 : decode cX3_countTick 54 = .ok (.aload_n 0, 1) := by decide +kernel
theorem dX3_countTick_55 : decode cX3_countTick 55 = .ok (.invokevirtual 18, 3) := by decide +kernel
theorem dX3_countTick_58 : decode cX3_countTick 58 = .ok (.goto 26, 3) := by decide +kernel
theorem dX3_countTick_61 : decode cX3_countTick 61 = .ok (.aload_n 0, 1) := by decide +kernel
theorem dX3_countTick_62 : decode cX3_countTick 62 = .ok (.getfield 28, 3) := by decide +kernel
theorem dX3_countTick_65 : decode cX3_countTick 65 = .ok (.bipush 12, 2) := by decide +kernel
theorem dX3_countTick_67 : decode cX3_countTick 67 = .ok (.if_icmp .lt 17, 3) := by decide +kernel
theorem dX3_countTick_70 : decode cX3_countTick 70 = .ok (.aload_n 0, 1) := by decide +kernel
theorem dX3_countTick_71 : decode cX3_countTick 71 = .ok (.dup, 1) := by decide +kernel
theorem dX3_countTick_72 : decode cX3_countTick 72 = .ok (.getfield 15, 3) := by decide +kernel
theorem dX3_countTick_75 : decode cX3_countTick 75 = .ok (.iconst 1, 1) := by decide +kernel
theorem dX3_countTick_76 : decode cX3_countTick 76 = .ok (.iadd, 1) := by decide +kernel
theorem dX3_countTick_77 : decode cX3_countTick 77 = .ok (.putfield 15, 3) := by decide +kernel
theorem dX3_countTick_80 : decode cX3_countTick 80 = .ok (.aload_n 0, 1) := by decide +kernel
theorem dX3_countTick_81 : decode cX3_countTick 81 = .ok (.invokevirtual 18, 3) := by decide +kernel
theorem dX3_countTick_84 : decode cX3_countTick 84 = .ok (.return_, 1) := by decide +kernel
theorem dX4_init_0 : decode cX4_init 0 = .ok (.aload_n 0, 1) := by decide +kernel
theorem dX4_init_1 : decode cX4_init 1 = .ok (.invokespecial 3, 3) := by decide +kernel
theorem dX4_init_4 : decode cX4_init 4 = .ok (.aload_n 0, 1) := by decide +kernel
theorem dX4_init_5 : decode cX4_init 5 = .ok (.bipush 60, 2) := by decide +kernel
theorem dX4_init_7 : decode cX4_init 7 = .ok (.newarray .int, 2) := by decide +kernel
theorem dX4_init_9 : decode cX4_init 9 = .ok (.putfield 9, 3) := by decide +kernel
theorem dX4_init_12 : decode cX4_init 12 = .ok (.aload_n 0, 1) := by decide +kernel
theorem dX4_init_13 : decode cX4_init 13 = .ok (.iconst 4, 1) := by decide +kernel
theorem dX4_init_14 : decode cX4_init 14 = .ok (.putfield 15, 3) := by decide +kernel
theorem dX4_init_17 : decode cX4_init 17 = .ok (.aload_n 0, 1) := by decide +kernel
theorem dX4_init_18 : decode cX4_init 18 = .ok (.bipush 50, 2) := by decide +kernel
theorem dX4_init_20 : decode cX4_init 20 = .ok (.putfield 19, 3) := by decide +kernel
theorem dX4_init_23 : decode cX4_init 23 = .ok (.aload_n 0, 1) := by decide +kernel
theorem dX4_init_24 : decode cX4_init 24 = .ok (.bipush 50, 2) := by decide +kernel
theorem dX4_init_26 : decode cX4_init 26 = .ok (.putfield 22, 3) := by decide +kernel
theorem dX4_init_29 : decode cX4_init 29 = .ok (.aload_n 0, 1) := by decide +kernel
theorem dX4_init_30 : decode cX4_init 30 = .ok (.iconst 1, 1) := by decide +kernel
theorem dX4_init_31 : decode cX4_init 31 = .ok (.putfield 25, 3) := by decide +kernel
theorem dX4_init_34 : decode cX4_init 34 = .ok (.aload_n 0, 1) := by decide +kernel
theorem dX4_init_35 : decode cX4_init 35 = .ok (.iconst 5, 1) := by decide +kernel
theorem dX4_init_36 : decode cX4_init 36 = .ok (.newarray .int, 2) := by decide +kernel
theorem dX4_init_38 : decode cX4_init 38 = .ok (.putfield 28, 3) := by decide +kernel
theorem dX4_init_41 : decode cX4_init 41 = .ok (.aload_n 0, 1) := by decide +kernel
theorem dX4_init_42 : decode cX4_init 42 = .ok (.iconst 5, 1) := by decide +kernel
theorem dX4_init_43 : decode cX4_init 43 = .ok (.newarray .int, 2) := by decide +kernel
theorem dX4_init_45 : decode cX4_init 45 = .ok (.putfield 31, 3) := by decide +kernel
theorem dX4_init_48 : decode cX4_init 48 = .ok (.aload_n 0, 1) := by decide +kernel
theorem dX4_init_49 : decode cX4_init 49 = .ok (.bipush 8, 2) := by decide +kernel
theorem dX4_init_51 : decode cX4_init 51 = .ok (.newarray .int, 2) := by decide +kernel
theorem dX4_init_53 : decode cX4_init 53 = .ok (.putfield 34, 3) := by decide +kernel
theorem dX4_init_56 : decode cX4_init 56 = .ok (.aload_n 0, 1) := by decide +kernel
theorem dX4_init_57 : decode cX4_init 57 = .ok (.getfield 28, 3) := by decide +kernel
theorem dX4_init_60 : decode cX4_init 60 = .ok (.iconst 0, 1) := by decide +kernel
theorem dX4_init_61 : decode cX4_init 61 = .ok (.bipush 10, 2) := by decide +kernel
theorem dX4_init_63 : decode cX4_init 63 = .ok (.iastore, 1) := by decide +kernel
theorem dX4_init_64 : decode cX4_init 64 = .ok (.aload_n 0, 1) := by decide +kernel
theorem dX4_init_65 : decode cX4_init 65 = .ok (.invokevirtual 37, 3) := by decide +kernel
theorem dX4_init_68 : decode cX4_init 68 = .ok (.return_, 1) := by decide +kernel
theorem dX4_add_0 : decode cX4_add 0 = .ok (.aload_n 0, 1) := by decide +kernel
theorem dX4_add_1 : decode cX4_add 1 = .ok (.getfield 40, 3) := by decide +kernel
theorem dX4_add_4 : decode cX4_add 4 = .ok (.ifCond .lt 15, 3) := by decide +kernel
theorem dX4_add_7 : decode cX4_add 7 = .ok (.aload_n 0, 1) := by decide +kernel
theorem dX4_add_8 : decode cX4_add 8 = .ok (.getfield 40, 3) := by decide +kernel
theorem dX4_add_11 : decode cX4_add 11 = .ok (.aload_n 0, 1) := by decide +kernel
theorem dX4_add_12 : decode cX4_add 12 = .ok (.getfield 9, 3) := by decide +kernel
theorem dX4_add_15 : decode cX4_add 15 = .ok (.arraylength, 1) := by decide +kernel
theorem dX4_add_16 : decode cX4_add 16 = .ok (.if_icmp .lt 5, 3) := by decide +kernel
theorem dX4_add_19 : decode cX4_add 19 = .ok (.iconst 0, 1) := by decide +kernel
theorem dX4_add_20 : decode cX4_add 20 = .ok (.ireturn, 1) := by decide +kernel
theorem dX4_add_21 : decode cX4_add 21 = .ok (.aload_n 0, 1) := by decide +kernel
theorem dX4_add_22 : decode cX4_add 22 = .ok (.getfield 9, 3) := by decide +kernel
theorem dX4_add_25 : decode cX4_add 25 = .ok (.aload_n 0, 1) := by decide +kernel
theorem dX4_add_26 : decode cX4_add 26 = .ok (.getfield 40, 3) := by decide +kernel
theorem dX4_add_29 : decode cX4_add 29 = .ok (.iload_n 1, 1) := by decide +kernel
theorem dX4_add_30 : decode cX4_add 30 = .ok (.iastore, 1) := by decide +kernel
theorem dX4_add_31 : decode cX4_add 31 = .ok (.aload_n 0, 1) := by decide +kernel
theorem dX4_add_32 : decode cX4_add 32 = .ok (.dup, 1) := by decide +kernel
theorem dX4_add_33 : decode cX4_add 33 = .ok (.getfield 40, 3) := by decide +kernel
theorem dX4_add_36 : decode cX4_add 36 = .ok (.iconst 1, 1) := by decide +kernel
theorem dX4_add_37 : decode cX4_add 37 = .ok (.iadd, 1) := by decide +kernel
theorem dX4_add_38 : decode cX4_add 38 = .ok (.putfield 40, 3) := by decide +kernel
theorem dX4_add_41 : decode cX4_add 41 = .ok (.iconst 1, 1) := by decide +kernel
theorem dX4_add_42 : decode cX4_add 42 = .ok (.ireturn, 1) := by decide +kernel
theorem dX4_read_0 : decode cX4_read 0 = .ok (.aload_n 0, 1) := by decide +kernel
theorem dX4_read_1 : decode cX4_read 1 = .ok (.iconst 0, 1) := by decide +kernel
theorem dX4_read_2 : decode cX4_read 2 = .ok (.putfield 43, 3) := by decide +kernel
theorem dX4_read_5 : decode cX4_read 5 = .ok (.aload_n 0, 1) := by decide +kernel
theorem dX4_read_6 : decode cX4_read 6 = .ok (.iconst 0, 1) := by decide +kernel
theorem dX4_read_7 : decode cX4_read 7 = .ok (.putfield 46, 3) := by decide +kernel
theorem dX4_read_10 : decode cX4_read 10 = .ok (.aload_n 0, 1) := by decide +kernel
theorem dX4_read_11 : decode cX4_read 11 = .ok (.bipush 72, 2) := by decide +kernel
theorem dX4_read_13 : decode cX4_read 13 = .ok (.invokevirtual 50, 3) := by decide +kernel
theorem dX4_read_16 : decode cX4_read 16 = .ok (.aload_n 0, 1) := by decide +kernel
theorem dX4_read_17 : decode cX4_read 17 = .ok (.aload_n 0, 1) := by decide +kernel
theorem dX4_read_18 : decode cX4_read 18 = .ok (.iconst 2, 1) := by decide +kernel
theorem dX4_read_19 : decode cX4_read 19 = .ok (.bipush 8, 2) := by decide +kernel
theorem dX4_read_21 : decode cX4_read 21 = .ok (.invokevirtual 54, 3) := by decide +kernel
theorem dX4_read_24 : decode cX4_read 24 = .ok (.putfield 15, 3) := by decide +kernel
theorem dX4_read_27 : decode cX4_read 27 = .ok (.aload_n 0, 1) := by decide +kernel
theorem dX4_read_28 : decode cX4_read 28 = .ok (.aload_n 0, 1) := by decide +kernel
theorem dX4_read_29 : decode cX4_read 29 = .ok (.iconst 0, 1) := by decide +kernel
theorem dX4_read_30 : decode cX4_read 30 = .ok (.bipush 99, 2) := by decide +kernel
theorem dX4_read_32 : decode cX4_read 32 = .ok (.invokevirtual 58, 3) := by decide +kernel
theorem dX4_read_35 : decode cX4_read 35 = .ok (.putfield 19, 3) := by decide +kernel
theorem dX4_read_38 : decode cX4_read 38 = .ok (.aload_n 0, 1) := by decide +kernel
theorem dX4_read_39 : decode cX4_read 39 = .ok (.aload_n 0, 1) := by decide +kernel
theorem dX4_read_40 : decode cX4_read 40 = .ok (.iconst 0, 1) := by decide +kernel
theorem dX4_read_41 : decode cX4_read 41 = .ok (.bipush 99, 2) := by decide +kernel
theorem dX4_read_43 : decode cX4_read 43 = .ok (.invokevirtual 58, 3) := by decide +kernel
theorem dX4_read_46 : decode cX4_read 46 = .ok (.putfield 22, 3) := by decide +kernel
theorem dX4_read_49 : decode cX4_read 49 = .ok (.aload_n 0, 1) := by decide +kernel
theorem dX4_read_50 : decode cX4_read 50 = .ok (.iconst 0, 1) := by decide +kernel
theorem dX4_read_51 : decode cX4_read 51 = .ok (.invokevirtual 61, 3) := by decide +kernel
theorem dX4_read_54 : decode cX4_read 54 = .ok (.aload_n 0, 1) := by decide +kernel
theorem dX4_read_55 : decode cX4_read 55 = .ok (.iconst 1, 1) := by decide +kernel
theorem dX4_read_56 : decode cX4_read 56 = .ok (.putfield 25, 3) := by decide +kernel
theorem dX4_read_59 : decode cX4_read 59 = .ok (.aload_n 0, 1) := by decide +kernel
theorem dX4_read_60 : decode cX4_read 60 = .ok (.getfield 25, 3) := by decide +kernel
theorem dX4_read_63 : decode cX4_read 63 = .ok (.iconst 5, 1) := by decide +kernel
theorem dX4_read_64 : decode cX4_read 64 = .ok (.if_icmp .ge 33, 3) := by decide +kernel
theorem dX4_read_67 : decode cX4_read 67 = .ok (.aload_n 0, 1) := by decide +kernel
theorem dX4_read_68 : decode cX4_read 68 = .ok (.bipush 98, 2) := by decide +kernel
theorem dX4_read_70 : decode cX4_read 70 = .ok (.invokevirtual 64, 3) := by decide +kernel
theorem dX4_read_73 : decode cX4_read 73 = .ok (.ifCond .eq 24, 3) := by decide +kernel
theorem dX4_read_76 : decode cX4_read 76 = .ok (.aload_n 0, 1) := by decide +kernel
theorem dX4_read_77 : decode cX4_read 77 = .ok (.aload_n 0, 1) := by decide +kernel
theorem dX4_read_78 : decode cX4_read 78 = .ok (.getfield 25, 3) := by decide +kernel
theorem dX4_read_81 : decode cX4_read 81 = .ok (.invokevirtual 61, 3) := by decide +kernel
theorem dX4_read_84 : decode cX4_read 84 = .ok (.aload_n 0, 1) := by decide +kernel
theorem dX4_read_85 : decode cX4_read 85 = .ok (.dup, 1) := by decide +kernel
theorem dX4_read_86 : decode cX4_read 86 = .ok (.getfield 25, 3) := by decide +kernel
theorem dX4_read_89 : decode cX4_read 89 = .ok (.iconst 1, 1) := by decide +kernel
theorem dX4_read_90 : decode cX4_read 90 = .ok (.iadd, 1) := by decide +kernel
theorem dX4_read_91 : decode cX4_read 91 = .ok (.putfield 25, 3) := by decide +kernel
theorem dX4_read_94 : decode cX4_read 94 = .ok (.goto (-35), 3) := by decide +kernel
theorem dX4_read_97 : decode cX4_read 97 = .ok (.aload_n 0, 1) := by decide +kernel
theorem dX4_read_98 : decode cX4_read 98 = .ok (.bipush 116, 2) := by decide +kernel
theorem dX4_read_100 : decode cX4_read 100 = .ok (.invokevirtual 64, 3) := by decide +kernel
theorem dX4_read_103 : decode cX4_read 103 = .ok (.ifCond .eq 10, 3) := by decide +kernel
theorem dX4_read_106 : decode cX4_read 106 = .ok (.aload_n 0, 1) := by decide +kernel
theorem dX4_read_107 : decode cX4_read 107 = .ok (.invokevirtual 68, 3) := by decide +kernel
theorem dX4_read_110 : decode cX4_read 110 = .ok (.goto 7, 3) := by decide +kernel
theorem dX4_read_113 : decode cX4_read 113 = .ok (.aload_n 0, 1) := by decide +kernel
theorem dX4_read_114 : decode cX4_read 114 = .ok (.invokevirtual 37, 3) := by decide +kernel
theorem dX4_read_117 : decode cX4_read 117 = .ok (.aload_n 0, 1) := by decide +kernel
theorem dX4_read_118 : decode cX4_read 118 = .ok (.getfield 46, 3) := by decide +kernel
theorem dX4_read_121 : decode cX4_read 121 = .ok (.ifCond .ne 14, 3) := by decide +kernel
theorem dX4_read_124 : decode cX4_read 124 = .ok (.aload_n 0, 1) := by decide +kernel
theorem dX4_read_125 : decode cX4_read 125 = .ok (.getfield 43, 3) := by decide +kernel
theorem dX4_read_128 : decode cX4_read 128 = .ok (.aload_n 0, 1) := by decide +kernel
theorem dX4_read_129 : decode cX4_read 129 = .ok (.getfield 40, 3) := by decide +kernel
theorem dX4_read_132 : decode cX4_read 132 = .ok (.if_icmp .ge 10, 3) := by decide +kernel
theorem dX4_read_135 : decode cX4_read 135 = .ok (.aload_n 0, 1) := by decide +kernel
theorem dX4_read_136 : decode cX4_read 136 = .ok (.getfield 43, 3) := by decide +kernel
theorem dX4_read_139 : decode cX4_read 139 = .ok (.goto 5, 3) := by decide +kernel
theorem dX4_read_142 : decode cX4_read 142 = .ok (.bipush (-9), 2) := by decide +kernel
theorem dX4_read_144 : decode cX4_read 144 = .ok (.ireturn, 1) := by decide +kernel
theorem dX4_readBoiler_0 : decode cX4_readBoiler 0 = .ok (.aload_n 0, 1) := by decide +kernel
theorem dX4_readBoiler_1 : decode cX4_readBoiler 1 = .ok (.bipush 98, 2) := by decide +kernel
theorem dX4_readBoiler_3 : decode cX4_readBoiler 3 = .ok (.invokevirtual 50, 3) := by decide +kernel
theorem dX4_readBoiler_6 : decode cX4_readBoiler 6 = .ok (.aload_n 0, 1) := by decide +kernel
theorem dX4_readBoiler_7 : decode cX4_readBoiler 7 = .ok (.getfield 28, 3) := by decide +kernel
theorem dX4_readBoiler_10 : decode cX4_readBoiler 10 = .ok (.iload_n 1, 1) := by decide +kernel
theorem dX4_readBoiler_11 : decode cX4_readBoiler 11 = .ok (.aload_n 0, 1) := by decide +kernel
theorem dX4_readBoiler_12 : decode cX4_readBoiler 12 = .ok (.iconst 1, 1) := by decide +kernel
theorem dX4_readBoiler_13 : decode cX4_readBoiler 13 = .ok (.bipush 30, 2) := by decide +kernel
theorem dX4_readBoiler_15 : decode cX4_readBoiler 15 = .ok (.invokevirtual 58, 3) := by decide +kernel
theorem dX4_readBoiler_18 : decode cX4_readBoiler 18 = .ok (.iastore, 1) := by decide +kernel
theorem dX4_readBoiler_19 : decode cX4_readBoiler 19 = .ok (.aload_n 0, 1) := by decide +kernel
theorem dX4_readBoiler_20 : decode cX4_readBoiler 20 = .ok (.getfield 31, 3) := by decide +kernel
theorem dX4_readBoiler_23 : decode cX4_readBoiler 23 = .ok (.iload_n 1, 1) := by decide +kernel
theorem dX4_readBoiler_24 : decode cX4_readBoiler 24 = .ok (.aload_n 0, 1) := by decide +kernel
theorem dX4_readBoiler_25 : decode cX4_readBoiler 25 = .ok (.iconst 0, 1) := by decide +kernel
theorem dX4_readBoiler_26 : decode cX4_readBoiler 26 = .ok (.iconst 1, 1) := by decide +kernel
theorem dX4_readBoiler_27 : decode cX4_readBoiler 27 = .ok (.invokevirtual 54, 3) := by decide +kernel
theorem dX4_readBoiler_30 : decode cX4_readBoiler 30 = .ok (.iastore, 1) := by decide +kernel
theorem dX4_readBoiler_31 : decode cX4_readBoiler 31 = .ok (.return_, 1) := by decide +kernel
theorem dX4_readTemperatures_0 : decode cX4_readTemperatures 0 = .ok (.aload_n 0, 1) := by decide +kernel
theorem dX4_readTemperatures_1 : decode cX4_readTemperatures 1 = .ok (.bipush 116, 2) := by decide +kernel
theorem dX4_readTemperatures_3 : decode cX4_readTemperatures 3 = .ok (.invokevirtual 50, 3) := by decide +kernel
theorem dX4_readTemperatures_6 : decode cX4_readTemperatures 6 = .ok (.iconst 0, 1) := by decide +kernel
theorem dX4_readTemperatures_7 : decode cX4_readTemperatures 7 = .ok (.istore_n 1, 1) := by decide +kernel
theorem dX4_readTemperatures_8 : decode cX4_readTemperatures 8 = .ok (.iconst 0, 1) := by decide +kernel
theorem dX4_readTemperatures_9 : decode cX4_readTemperatures 9 = .ok (.istore_n 2, 1) := by decide +kernel
theorem dX4_readTemperatures_10 : decode cX4_readTemperatures 10 = .ok (.iload_n 2, 1) := by decide +kernel
theorem dX4_readTemperatures_11 : decode cX4_readTemperatures 11 = .ok (.aload_n 0, 1) := by decide +kernel
theorem dX4_readTemperatures_12 : decode cX4_readTemperatures 12 = .ok (.getfield 15, 3) := by decide +kernel
theorem dX4_readTemperatures_15 : decode cX4_readTemperatures 15 = .ok (.if_icmp .ge 33, 3) := by decide +kernel
theorem dX4_readTemperatures_18 : decode cX4_readTemperatures 18 = .ok (.iload_n 2, 1) := by decide +kernel
theorem dX4_readTemperatures_19 : decode cX4_readTemperatures 19 = .ok (.aload_n 0, 1) := by decide +kernel
theorem dX4_readTemperatures_20 : decode cX4_readTemperatures 20 = .ok (.getfield 34, 3) := by decide +kernel
theorem dX4_readTemperatures_23 : decode cX4_readTemperatures 23 = .ok (.arraylength, 1) := by decide +kernel
theorem dX4_readTemperatures_24 : decode cX4_readTemperatures 24 = .ok (.if_icmp .ge 24, 3) := by decide +kernel
theorem dX4_readTemperatures_27 : decode cX4_readTemperatures 27 = .ok (.aload_n 0, 1) := by decide +kernel
theorem dX4_readTemperatures_28 : decode cX4_readTemperatures 28 = .ok (.iload_n 1, 1) := by decide +kernel
theorem dX4_readTemperatures_29 : decode cX4_readTemperatures 29 = .ok (.bipush 99, 2) := by decide +kernel
theorem dX4_readTemperatures_31 : decode cX4_readTemperatures 31 = .ok (.invokevirtual 58, 3) := by decide +kernel
theorem dX4_readTemperatures_34 : decode cX4_readTemperatures 34 = .ok (.istore_n 1, 1) := by decide +kernel
theorem dX4_readTemperatures_35 : decode cX4_readTemperatures 35 = .ok (.aload_n 0, 1) := by decide +kernel
theorem dX4_readTemperatures_36 : decode cX4_readTemperatures 36 = .ok (.getfield 34, 3) := by decide +kernel
theorem dX4_readTemperatures_39 : decode cX4_readTemperatures 39 = .ok (.iload_n 2, 1) := by decide +kernel
theorem dX4_readTemperatures_40 : decode cX4_readTemperatures 40 = .ok (.iload_n 1, 1) := by decide +kernel
theorem dX4_readTemperatures_41 : decode cX4_readTemperatures 41 = .ok (.iastore, 1) := by decide +kernel
theorem dX4_readTemperatures_42 : decode cX4_readTemperatures 42 = .ok (.iinc 2 1, 3) := by decide +kernel
theorem dX4_readTemperatures_45 : decode cX4_readTemperatures 45 = .ok (.goto (-35), 3) := by decide +kernel
theorem dX4_readTemperatures_48 : decode cX4_readTemperatures 48 = .ok (.return_, 1) := by decide +kernel
theorem dX4_fillTemperatures_0 : decode cX4_fillTemperatures 0 = .ok (.iconst 0, 1) := by decide +kernel
theorem dX4_fillTemperatures_1 : decode cX4_fillTemperatures 1 = .ok (.istore_n 1, 1) := by decide +kernel
theorem dX4_fillTemperatures_2 : decode cX4_fillTemperatures 2 = .ok (.iload_n 1, 1) := by decide +kernel
theorem dX4_fillTemperatures_3 : decode cX4_fillTemperatures 3 = .ok (.aload_n 0, 1) := by decide +kernel
theorem dX4_fillTemperatures_4 : decode cX4_fillTemperatures 4 = .ok (.getfield 34, 3) := by decide +kernel
theorem dX4_fillTemperatures_7 : decode cX4_fillTemperatures 7 = .ok (.arraylength, 1) := by decide +kernel
theorem dX4_fillTemperatures_8 : decode cX4_fillTemperatures 8 = .ok (.if_icmp .ge 17, 3) := by decide +kernel
theorem dX4_fillTemperatures_11 : decode cX4_fillTemperatures 11 = .ok (.aload_n 0, 1) := by decide +kernel
theorem dX4_fillTemperatures_12 : decode cX4_fillTemperatures 12 = .ok (.getfield 34, 3) := by decide +kernel
theorem dX4_fillTemperatures_15 : decode cX4_fillTemperatures 15 = .ok (.iload_n 1, 1) := by decide +kernel
theorem dX4_fillTemperatures_16 : decode cX4_fillTemperatures 16 = .ok (.bipush 40, 2) := by decide +kernel
theorem dX4_fillTemperatures_18 : decode cX4_fillTemperatures 18 = .ok (.iastore, 1) := by decide +kernel
theorem dX4_fillTemperatures_19 : decode cX4_fillTemperatures 19 = .ok (.iinc 1 1, 3) := by decide +kernel
theorem dX4_fillTemperatures_22 : decode cX4_fillTemperatures 22 = .ok (.goto (-20), 3) := by decide +kernel
theorem dX4_fillTemperatures_25 : decode cX4_fillTemperatures 25 = .ok (.return_, 1) := by decide +kernel
theorem dX4_hasMore_0 : decode cX4_hasMore 0 = .ok (.aload_n 0, 1) := by decide +kernel
theorem dX4_hasMore_1 : decode cX4_hasMore 1 = .ok (.getfield 46, 3) := by decide +kernel
theorem dX4_hasMore_4 : decode cX4_hasMore 4 = .ok (.ifCond .ne 30, 3) := by decide +kernel
theorem dX4_hasMore_7 : decode cX4_hasMore 7 = .ok (.aload_n 0, 1) := by decide +kernel
theorem dX4_hasMore_8 : decode cX4_hasMore 8 = .ok (.getfield 43, 3) := by decide +kernel
theorem dX4_hasMore_11 : decode cX4_hasMore 11 = .ok (.aload_n 0, 1) := by decide +kernel
theorem dX4_hasMore_12 : decode cX4_hasMore 12 = .ok (.getfield 40, 3) := by decide +kernel
theorem dX4_hasMore_15 : decode cX4_hasMore 15 = .ok (.if_icmp .ge 19, 3) := by decide +kernel
theorem dX4_hasMore_18 : decode cX4_hasMore 18 = .ok (.aload_n 0, 1) := by decide +kernel
theorem dX4_hasMore_19 : decode cX4_hasMore 19 = .ok (.getfield 43, 3) := by decide +kernel
theorem dX4_hasMore_22 : decode cX4_hasMore 22 = .ok (.aload_n 0, 1) := by decide +kernel
theorem dX4_hasMore_23 : decode cX4_hasMore 23 = .ok (.getfield 9, 3) := by decide +kernel
theorem dX4_hasMore_26 : decode cX4_hasMore 26 = .ok (.arraylength, 1) := by decide +kernel
theorem dX4_hasMore_27 : decode cX4_hasMore 27 = .ok (.if_icmp .ge 7, 3) := by decide +kernel
theorem dX4_hasMore_30 : decode cX4_hasMore 30 = .ok (.iconst 1, 1) := by decide +kernel
theorem dX4_hasMore_31 : decode cX4_hasMore 31 = .ok (.goto 4, 3) := by decide +kernel
theorem dX4_hasMore_34 : decode cX4_hasMore 34 = .ok (.iconst 0, 1) := by decide +kernel
theorem dX4_hasMore_35 : decode cX4_hasMore 35 = .ok (.ireturn, 1) := by decide +kernel
theorem dX4_sees_0 : decode cX4_sees 0 = .ok (.aload_n 0, 1) := by decide +kernel
theorem dX4_sees_1 : decode cX4_sees 1 = .ok (.invokevirtual 71, 3) := by decide +kernel
theorem dX4_sees_4 : decode cX4_sees 4 = .ok (.ifCond .eq 20, 3) := by decide +kernel
theorem dX4_sees_7 : decode cX4_sees 7 = .ok (.aload_n 0, 1) := by decide +kernel
theorem dX4_sees_8 : decode cX4_sees 8 = .ok (.getfield 9, 3) := by decide +kernel
theorem dX4_sees_11 : decode cX4_sees 11 = .ok (.aload_n 0, 1) := by decide +kernel
theorem dX4_sees_12 : decode cX4_sees 12 = .ok (.getfield 43, 3) := by decide +kernel
theorem dX4_sees_15 : decode cX4_sees 15 = .ok (.iaload, 1) := by decide +kernel
theorem dX4_sees_16 : decode cX4_sees 16 = .ok (.iload_n 1, 1) := by decide +kernel
theorem dX4_sees_17 : decode cX4_sees 17 = .ok (.if_icmp .ne 7, 3) := by decide +kernel
theorem dX4_sees_20 : decode cX4_sees 20 = .ok (.iconst 1, 1) := by decide +kernel
theorem dX4_sees_21 : decode cX4_sees 21 = .ok (.goto 4, 3) := by decide +kernel
theorem dX4_sees_24 : decode cX4_sees 24 = .ok (.iconst 0, 1) := by decide +kernel
theorem dX4_sees_25 : decode cX4_sees 25 = .ok (.ireturn, 1) := by decide +kernel
theorem dX4_readSign_0 : decode cX4_readSign 0 = .ok (.aload_n 0, 1) := by decide +kernel
theorem dX4_readSign_1 : decode cX4_readSign 1 = .ok (.iload_n 1, 1) := by decide +kernel
theorem dX4_readSign_2 : decode cX4_readSign 2 = .ok (.invokevirtual 64, 3) := by decide +kernel
theorem dX4_readSign_5 : decode cX4_readSign 5 = .ok (.ifCond .eq 16, 3) := by decide +kernel
theorem dX4_readSign_8 : decode cX4_readSign 8 = .ok (.aload_n 0, 1) := by decide +kernel
theorem dX4_readSign_9 : decode cX4_readSign 9 = .ok (.dup, 1) := by decide +kernel
theorem dX4_readSign_10 : decode cX4_readSign 10 = .ok (.getfield 43, 3) := by decide +kernel
theorem dX4_readSign_13 : decode cX4_readSign 13 = .ok (.iconst 1, 1) := by decide +kernel
theorem dX4_readSign_14 : decode cX4_readSign 14 = .ok (.iadd, 1) := by decide +kernel
theorem dX4_readSign_15 : decode cX4_readSign 15 = .ok (.putfield 43, 3) := by decide +kernel
theorem dX4_readSign_18 : decode cX4_readSign 18 = .ok (.goto 8, 3) := by decide +kernel
theorem dX4_readSign_21 : decode cX4_readSign 21 = .ok (.aload_n 0, 1) := by decide +kernel
theorem dX4_readSign_22 : decode cX4_readSign 22 = .ok (.iconst 1, 1) := by decide +kernel
theorem dX4_readSign_23 : decode cX4_readSign 23 = .ok (.putfield 46, 3) := by decide +kernel
theorem dX4_readSign_26 : decode cX4_readSign 26 = .ok (.return_, 1) := by decide +kernel
theorem dX4_readNumber_0 : decode cX4_readNumber 0 = .ok (.aload_n 0, 1) := by decide +kernel
theorem dX4_readNumber_1 : decode cX4_readNumber 1 = .ok (.iload_n 1, 1) := by decide +kernel
theorem dX4_readNumber_2 : decode cX4_readNumber 2 = .ok (.bipush 10, 2) := by decide +kernel
theorem dX4_readNumber_4 : decode cX4_readNumber 4 = .ok (.idiv, 1) := by decide +kernel
theorem dX4_readNumber_5 : decode cX4_readNumber 5 = .ok (.iload_n 2, 1) := by decide +kernel
theorem dX4_readNumber_6 : decode cX4_readNumber 6 = .ok (.bipush 10, 2) := by decide +kernel
theorem dX4_readNumber_8 : decode cX4_readNumber 8 = .ok (.idiv, 1) := by decide +kernel
theorem dX4_readNumber_9 : decode cX4_readNumber 9 = .ok (.invokevirtual 54, 3) := by decide +kernel
theorem dX4_readNumber_12 : decode cX4_readNumber 12 = .ok (.istore_n 3, 1) := by decide +kernel
theorem dX4_readNumber_13 : decode cX4_readNumber 13 = .ok (.iload_n 3, 1) := by decide +kernel
theorem dX4_readNumber_14 : decode cX4_readNumber 14 = .ok (.iload_n 1, 1) := by decide +kernel
theorem dX4_readNumber_15 : decode cX4_readNumber 15 = .ok (.bipush 10, 2) := by decide +kernel
theorem dX4_readNumber_17 : decode cX4_readNumber 17 = .ok (.idiv, 1) := by decide +kernel
theorem dX4_readNumber_18 : decode cX4_readNumber 18 = .ok (.if_icmp .ne 10, 3) := by decide +kernel
theorem dX4_readNumber_21 : decode cX4_readNumber 21 = .ok (.iload_n 1, 1) := by decide +kernel
theorem dX4_readNumber_22 : decode cX4_readNumber 22 = .ok (.bipush 10, 2) := by decide +kernel
theorem dX4_readNumber_24 : decode cX4_readNumber 24 = .ok (.irem, 1) := by decide +kernel
theorem dX4_readNumber_25 : decode cX4_readNumber 25 = .ok (.goto 4, 3) := by decide +kernel
theorem dX4_readNumber_28 : decode cX4_readNumber 28 = .ok (.iconst 0, 1) := by decide +kernel
theorem dX4_readNumber_29 : decode cX4_readNumber 29 = .ok (.istore 4, 2) := by decide +kernel
theorem dX4_readNumber_31 : decode cX4_readNumber 31 = .ok (.iload_n 3, 1) := by decide +kernel
theorem dX4_readNumber_32 : decode cX4_readNumber 32 = .ok (.iload_n 2, 1) := by decide +kernel
theorem dX4_readNumber_33 : decode cX4_readNumber 33 = .ok (.bipush 10, 2) := by decide +kernel
theorem dX4_readNumber_35 : decode cX4_readNumber 35 = .ok (.idiv, 1) := by decide +kernel
theorem dX4_readNumber_36 : decode cX4_readNumber 36 = .ok (.if_icmp .ne 10, 3) := by decide +kernel
theorem dX4_readNumber_39 : decode cX4_readNumber 39 = .ok (.iload_n 2, 1) := by decide +kernel
theorem dX4_readNumber_40 : decode cX4_readNumber 40 = .ok (.bipush 10, 2) := by decide +kernel
theorem dX4_readNumber_42 : decode cX4_readNumber 42 = .ok (.irem, 1) := by decide +kernel
theorem dX4_readNumber_43 : decode cX4_readNumber 43 = .ok (.goto 5, 3) := by decide +kernel
theorem dX4_readNumber_46 : decode cX4_readNumber 46 = .ok (.bipush 9, 2) := by decide +kernel
theorem dX4_readNumber_48 : decode cX4_readNumber 48 = .ok (.istore 5, 2) := by decide +kernel
theorem dX4_readNumber_50 : decode cX4_readNumber 50 = .ok (.bipush 10, 2) := by decide +kernel
theorem dX4_readNumber_52 : decode cX4_readNumber 52 = .ok (.iload_n 3, 1) := by decide +kernel
theorem dX4_readNumber_53 : decode cX4_readNumber 53 = .ok (.imul, 1) := by decide +kernel
theorem dX4_readNumber_54 : decode cX4_readNumber 54 = .ok (.aload_n 0, 1) := by decide +kernel
theorem dX4_readNumber_55 : decode cX4_readNumber 55 = .ok (.iload 4, 2) := by decide +kernel
theorem dX4_readNumber_57 : decode cX4_readNumber 57 = .ok (.iload 5, 2) := by decide +kernel
theorem dX4_readNumber_59 : decode cX4_readNumber 59 = .ok (.invokevirtual 54, 3) := by decide +kernel
theorem dX4_readNumber_62 : decode cX4_readNumber 62 = .ok (.iadd, 1) := by decide +kernel
theorem dX4_readNumber_63 : decode cX4_readNumber 63 = .ok (.ireturn, 1) := by decide +kernel
theorem dX4_readDigit_0 : decode cX4_readDigit 0 = .ok (.aload_n 0, 1) := by decide +kernel
theorem dX4_readDigit_1 : decode cX4_readDigit 1 = .ok (.invokevirtual 71, 3) := by decide +kernel
theorem dX4_readDigit_4 : decode cX4_readDigit 4 = .ok (.ifCond .eq 38, 3) := by decide +kernel
theorem dX4_readDigit_7 : decode cX4_readDigit 7 = .ok (.aload_n 0, 1) := by decide +kernel
theorem dX4_readDigit_8 : decode cX4_readDigit 8 = .ok (.getfield 9, 3) := by decide +kernel
theorem dX4_readDigit_11 : decode cX4_readDigit 11 = .ok (.aload_n 0, 1) := by decide +kernel
theorem dX4_readDigit_12 : decode cX4_readDigit 12 = .ok (.getfield 43, 3) := by decide +kernel
theorem dX4_readDigit_15 : decode cX4_readDigit 15 = .ok (.iaload, 1) := by decide +kernel
theorem dX4_readDigit_16 : decode cX4_readDigit 16 = .ok (.bipush 48, 2) := by decide +kernel
theorem dX4_readDigit_18 : decode cX4_readDigit 18 = .ok (.isub, 1) := by decide +kernel
theorem dX4_readDigit_19 : decode cX4_readDigit 19 = .ok (.istore_n 3, 1) := by decide +kernel
theorem dX4_readDigit_20 : decode cX4_readDigit 20 = .ok (.iload_n 3, 1) := by decide +kernel
theorem dX4_readDigit_21 : decode cX4_readDigit 21 = .ok (.iload_n 1, 1) := by decide +kernel
theorem dX4_readDigit_22 : decode cX4_readDigit 22 = .ok (.if_icmp .lt 20, 3) := by decide +kernel
theorem dX4_readDigit_25 : decode cX4_readDigit 25 = .ok (.iload_n 3, 1) := by decide +kernel
theorem dX4_readDigit_26 : decode cX4_readDigit 26 = .ok (.iload_n 2, 1) := by decide +kernel
theorem dX4_readDigit_27 : decode cX4_readDigit 27 = .ok (.if_icmp .gt 15, 3) := by decide +kernel
theorem dX4_readDigit_30 : decode cX4_readDigit 30 = .ok (.aload_n 0, 1) := by decide +kernel
theorem dX4_readDigit_31 : decode cX4_readDigit 31 = .ok (.dup, 1) := by decide +kernel
theorem dX4_readDigit_32 : decode cX4_readDigit 32 = .ok (.getfield 43, 3) := by decide +kernel
theorem dX4_readDigit_35 : decode cX4_readDigit 35 = .ok (.iconst 1, 1) := by decide +kernel
theorem dX4_readDigit_36 : decode cX4_readDigit 36 = .ok (.iadd, 1) := by decide +kernel
theorem dX4_readDigit_37 : decode cX4_readDigit 37 = .ok (.putfield 43, 3) := by decide +kernel
theorem dX4_readDigit_40 : decode cX4_readDigit 40 = .ok (.iload_n 3, 1) := by decide +kernel
theorem dX4_readDigit_41 : decode cX4_readDigit 41 = .ok (.ireturn, 1) := by decide +kernel
theorem dX4_readDigit_42 : decode cX4_readDigit 42 = .ok (.aload_n 0, 1) := by decide +kernel
theorem dX4_readDigit_43 : decode cX4_readDigit 43 = .ok (.iconst 1, 1) := by decide +kernel
theorem dX4_readDigit_44 : decode cX4_readDigit 44 = .ok (.putfield 46, 3) := by decide +kernel
theorem dX4_readDigit_47 : decode cX4_readDigit 47 = .ok (.iload_n 1, 1) := by decide +kernel
theorem dX4_readDigit_48 : decode cX4_readDigit 48 = .ok (.ireturn, 1) := by decide +kernel
theorem dX5_init_0 : decode cX5_init 0 = .ok (.aload_n 0, 1) := by decide +kernel
theorem dX5_init_1 : decode cX5_init 1 = .ok (.invokespecial 3, 3) := by decide +kernel
theorem dX5_init_4 : decode cX5_init 4 = .ok (.aload_n 0, 1) := by decide +kernel
theorem dX5_init_5 : decode cX5_init 5 = .ok (.iconst 5, 1) := by decide +kernel
theorem dX5_init_6 : decode cX5_init 6 = .ok (.anewarray 9, 3) := by decide +kernel
theorem dX5_init_9 : decode cX5_init 9 = .ok (.putfield 11, 3) := by decide +kernel
theorem dX5_init_12 : decode cX5_init 12 = .ok (.aload_n 0, 1) := by decide +kernel
theorem dX5_init_13 : decode cX5_init 13 = .ok (.new 17, 3) := by decide +kernel
theorem dX5_init_16 : decode cX5_init 16 = .ok (.dup, 1) := by decide +kernel
theorem dX5_init_17 : decode cX5_init 17 = .ok (.invokespecial 19, 3) := by decide +kernel
theorem dX5_init_20 : decode cX5_init 20 = .ok (.putfield 20, 3) := by decide +kernel
theorem dX5_init_23 : decode cX5_init 23 = .ok (.aload_n 0, 1) := by decide +kernel
theorem dX5_init_24 : decode cX5_init 24 = .ok (.new 17, 3) := by decide +kernel
theorem dX5_init_27 : decode cX5_init 27 = .ok (.dup, 1) := by decide +kernel
theorem dX5_init_28 : decode cX5_init 28 = .ok (.invokespecial 19, 3) := by decide +kernel
theorem dX5_init_31 : decode cX5_init 31 = .ok (.putfield 24, 3) := by decide +kernel
theorem dX5_init_34 : decode cX5_init 34 = .ok (.aload_n 0, 1) := by decide +kernel
theorem dX5_init_35 : decode cX5_init 35 = .ok (.bipush 6, 2) := by decide +kernel
theorem dX5_init_37 : decode cX5_init 37 = .ok (.newarray .int, 2) := by decide +kernel
theorem dX5_init_39 : decode cX5_init 39 = .ok (.putfield 27, 3) := by decide +kernel
theorem dX5_init_42 : decode cX5_init 42 = .ok (.aload_n 0, 1) := by decide +kernel
theorem dX5_init_43 : decode cX5_init 43 = .ok (.new 31, 3) := by decide +kernel
theorem dX5_init_46 : decode cX5_init 46 = .ok (.dup, 1) := by decide +kernel
theorem dX5_init_47 : decode cX5_init 47 = .ok (.invokespecial 33, 3) := by decide +kernel
theorem dX5_init_50 : decode cX5_init 50 = .ok (.putfield 34, 3) := by decide +kernel
theorem dX5_init_53 : decode cX5_init 53 = .ok (.aload_n 0, 1) := by decide +kernel
theorem dX5_init_54 : decode cX5_init 54 = .ok (.new 38, 3) := by decide +kernel
theorem dX5_init_57 : decode cX5_init 57 = .ok (.dup, 1) := by decide +kernel
theorem dX5_init_58 : decode cX5_init 58 = .ok (.invokespecial 40, 3) := by decide +kernel
theorem dX5_init_61 : decode cX5_init 61 = .ok (.putfield 41, 3) := by decide +kernel
theorem dX5_init_64 : decode cX5_init 64 = .ok (.iconst 0, 1) := by decide +kernel
theorem dX5_init_65 : decode cX5_init 65 = .ok (.istore_n 1, 1) := by decide +kernel
theorem dX5_init_66 : decode cX5_init 66 = .ok (.iload_n 1, 1) := by decide +kernel
theorem dX5_init_67 : decode cX5_init 67 = .ok (.aload_n 0, 1) := by decide +kernel
theorem dX5_init_68 : decode cX5_init 68 = .ok (.getfield 11, 3) := by decide +kernel
theorem dX5_init_71 : decode cX5_init 71 = .ok (.arraylength, 1) := by decide +kernel
theorem dX5_init_72 : decode cX5_init 72 = .ok (.if_icmp .ge 22, 3) := by decide +kernel
theorem dX5_init_75 : decode cX5_init 75 = .ok (.aload_n 0, 1) := by decide +kernel
theorem dX5_init_76 : decode cX5_init 76 = .ok (.getfield 11, 3) := by decide +kernel
theorem dX5_init_79 : decode cX5_init 79 = .ok (.iload_n 1, 1) := by decide +kernel
theorem dX5_init_80 : decode cX5_init 80 = .ok (.new 9, 3) := by decide +kernel
theorem dX5_init_83 : decode cX5_init 83 = .ok (.dup, 1) := by decide +kernel
theorem dX5_init_84 : decode cX5_init 84 = .ok (.invokespecial 45, 3) := by decide +kernel
theorem dX5_init_87 : decode cX5_init 87 = .ok (.aastore, 1) := by decide +kernel
theorem dX5_init_88 : decode cX5_init 88 = .ok (.iinc 1 1, 3) := by decide +kernel
theorem dX5_init_91 : decode cX5_init 91 = .ok (.goto (-25), 3) := by decide +kernel
theorem dX5_init_94 : decode cX5_init 94 = .ok (.return_, 1) := by decide +kernel
theorem dX5_beginAs_0 : decode cX5_beginAs 0 = .ok (.aload_n 0, 1) := by decide +kernel
theorem dX5_beginAs_1 : decode cX5_beginAs 1 = .ok (.aload_n 1, 1) := by decide +kernel
theorem dX5_beginAs_2 : decode cX5_beginAs 2 = .ok (.getfield 46, 3) := by decide +kernel
theorem dX5_beginAs_5 : decode cX5_beginAs 5 = .ok (.aload_n 0, 1) := by decide +kernel
theorem dX5_beginAs_6 : decode cX5_beginAs 6 = .ok (.getfield 11, 3) := by decide +kernel
theorem dX5_beginAs_9 : decode cX5_beginAs 9 = .ok (.arraylength, 1) := by decide +kernel
theorem dX5_beginAs_10 : decode cX5_beginAs 10 = .ok (.invokestatic 51, 3) := by decide +kernel
theorem dX5_beginAs_13 : decode cX5_beginAs 13 = .ok (.putfield 57, 3) := by decide +kernel
theorem dX5_beginAs_16 : decode cX5_beginAs 16 = .ok (.iconst 0, 1) := by decide +kernel
theorem dX5_beginAs_17 : decode cX5_beginAs 17 = .ok (.istore_n 2, 1) := by decide +kernel
theorem dX5_beginAs_18 : decode cX5_beginAs 18 = .ok (.iload_n 2, 1) := by decide +kernel
theorem dX5_beginAs_19 : decode cX5_beginAs 19 = .ok (.aload_n 0, 1) := by decide +kernel
theorem dX5_beginAs_20 : decode cX5_beginAs 20 = .ok (.getfield 57, 3) := by decide +kernel
theorem dX5_beginAs_23 : decode cX5_beginAs 23 = .ok (.if_icmp .ge 30, 3) := by decide +kernel
theorem dX5_beginAs_26 : decode cX5_beginAs 26 = .ok (.aload_n 0, 1) := by decide +kernel
theorem dX5_beginAs_27 : decode cX5_beginAs 27 = .ok (.getfield 11, 3) := by decide +kernel
theorem dX5_beginAs_30 : decode cX5_beginAs 30 = .ok (.iload_n 2, 1) := by decide +kernel
theorem dX5_beginAs_31 : decode cX5_beginAs 31 = .ok (.aaload, 1) := by decide +kernel
theorem dX5_beginAs_32 : decode cX5_beginAs 32 = .ok (.aload_n 1, 1) := by decide +kernel
theorem dX5_beginAs_33 : decode cX5_beginAs 33 = .ok (.getfield 60, 3) := by decide +kernel
theorem dX5_beginAs_36 : decode cX5_beginAs 36 = .ok (.iload_n 2, 1) := by decide +kernel
theorem dX5_beginAs_37 : decode cX5_beginAs 37 = .ok (.iaload, 1) := by decide +kernel
theorem dX5_beginAs_38 : decode cX5_beginAs 38 = .ok (.aload_n 1, 1) := by decide +kernel
theorem dX5_beginAs_39 : decode cX5_beginAs 39 = .ok (.getfield 63, 3) := by decide +kernel
theorem dX5_beginAs_42 : decode cX5_beginAs 42 = .ok (.iload_n 2, 1) := by decide +kernel
theorem dX5_beginAs_43 : decode cX5_beginAs 43 = .ok (.iaload, 1) := by decide +kernel
theorem dX5_beginAs_44 : decode cX5_beginAs 44 = .ok (.invokevirtual 66, 3) := by decide +kernel
theorem dX5_beginAs_47 : decode cX5_beginAs 47 = .ok (.iinc 2 1, 3) := by decide +kernel
theorem dX5_beginAs_50 : decode cX5_beginAs 50 = .ok (.goto (-32), 3) := by decide +kernel
theorem dX5_beginAs_53 : decode cX5_beginAs 53 = .ok (.aload_n 0, 1) := by decide +kernel
theorem dX5_beginAs_54 : decode cX5_beginAs 54 = .ok (.getfield 20, 3) := by decide +kernel
theorem dX5_beginAs_57 : decode cX5_beginAs 57 = .ok (.aload_n 1, 1) := by decide +kernel
theorem dX5_beginAs_58 : decode cX5_beginAs 58 = .ok (.getfield 70, 3) := by decide +kernel
theorem dX5_beginAs_61 : decode cX5_beginAs 61 = .ok (.invokevirtual 73, 3) := by decide +kernel
theorem dX5_beginAs_64 : decode cX5_beginAs 64 = .ok (.aload_n 0, 1) := by decide +kernel
theorem dX5_beginAs_65 : decode cX5_beginAs 65 = .ok (.getfield 24, 3) := by decide +kernel
theorem dX5_beginAs_68 : decode cX5_beginAs 68 = .ok (.aload_n 1, 1) := by decide +kernel
theorem dX5_beginAs_69 : decode cX5_beginAs 69 = .ok (.getfield 76, 3) := by decide +kernel
theorem dX5_beginAs_72 : decode cX5_beginAs 72 = .ok (.invokevirtual 73, 3) := by decide +kernel
theorem dX5_beginAs_75 : decode cX5_beginAs 75 = .ok (.iconst 0, 1) := by decide +kernel
theorem dX5_beginAs_76 : decode cX5_beginAs 76 = .ok (.istore_n 2, 1) := by decide +kernel
theorem dX5_beginAs_77 : decode cX5_beginAs 77 = .ok (.iload_n 2, 1) := by decide +kernel
theorem dX5_beginAs_78 : decode cX5_beginAs 78 = .ok (.aload_n 0, 1) := by decide +kernel
theorem dX5_beginAs_79 : decode cX5_beginAs 79 = .ok (.getfield 27, 3) := by decide +kernel
theorem dX5_beginAs_82 : decode cX5_beginAs 82 = .ok (.arraylength, 1) := by decide +kernel
theorem dX5_beginAs_83 : decode cX5_beginAs 83 = .ok (.if_icmp .ge 20, 3) := by decide +kernel
theorem dX5_beginAs_86 : decode cX5_beginAs 86 = .ok (.aload_n 0, 1) := by decide +kernel
theorem dX5_beginAs_87 : decode cX5_beginAs 87 = .ok (.getfield 27, 3) := by decide +kernel
theorem dX5_beginAs_90 : decode cX5_beginAs 90 = .ok (.iload_n 2, 1) := by decide +kernel
theorem dX5_beginAs_91 : decode cX5_beginAs 91 = .ok (.getstatic 79, 3) := by decide +kernel
theorem dX5_beginAs_94 : decode cX5_beginAs 94 = .ok (.iload_n 2, 1) := by decide +kernel
theorem dX5_beginAs_95 : decode cX5_beginAs 95 = .ok (.iaload, 1) := by decide +kernel
theorem dX5_beginAs_96 : decode cX5_beginAs 96 = .ok (.iastore, 1) := by decide +kernel
theorem dX5_beginAs_97 : decode cX5_beginAs 97 = .ok (.iinc 2 1, 3) := by decide +kernel
theorem dX5_beginAs_100 : decode cX5_beginAs 100 = .ok (.goto (-23), 3) := by decide +kernel
theorem dX5_beginAs_103 : decode cX5_beginAs 103 = .ok (.aload_n 0, 1) := by decide +kernel
theorem dX5_beginAs_104 : decode cX5_beginAs 104 = .ok (.getfield 34, 3) := by decide +kernel
theorem dX5_beginAs_107 : decode cX5_beginAs 107 = .ok (.aload_n 1, 1) := by decide +kernel
theorem dX5_beginAs_108 : decode cX5_beginAs 108 = .ok (.getfield 82, 3) := by decide +kernel
theorem dX5_beginAs_111 : decode cX5_beginAs 111 = .ok (.aload_n 1, 1) := by decide +kernel
theorem dX5_beginAs_112 : decode cX5_beginAs 112 = .ok (.getfield 85, 3) := by decide +kernel
theorem dX5_beginAs_115 : decode cX5_beginAs 115 = .ok (.invokevirtual 88, 3) := by decide +kernel
theorem dX5_beginAs_118 : decode cX5_beginAs 118 = .ok (.aload_n 0, 1) := by decide +kernel
theorem dX5_beginAs_119 : decode cX5_beginAs 119 = .ok (.getfield 41, 3) := by decide +kernel
theorem dX5_beginAs_122 : decode cX5_beginAs 122 = .ok (.invokevirtual 91, 3) := by decide +kernel
theorem dX5_beginAs_125 : decode cX5_beginAs 125 = .ok (.aload_n 0, 1) := by decide +kernel
theorem dX5_beginAs_126 : decode cX5_beginAs 126 = .ok (.iconst 0, 1) := by decide +kernel
theorem dX5_beginAs_127 : decode cX5_beginAs 127 = .ok (.putfield 94, 3) := by decide +kernel
theorem dX5_beginAs_130 : decode cX5_beginAs 130 = .ok (.aload_n 0, 1) := by decide +kernel
theorem dX5_beginAs_131 : decode cX5_beginAs 131 = .ok (.iconst 0, 1) := by decide +kernel
theorem dX5_beginAs_132 : decode cX5_beginAs 132 = .ok (.putfield 97, 3) := by decide +kernel
theorem dX5_beginAs_135 : decode cX5_beginAs 135 = .ok (.return_, 1) := by decide +kernel
theorem dX5_copyFrom_0 : decode cX5_copyFrom 0 = .ok (.aload_n 0, 1) := by decide +kernel
theorem dX5_copyFrom_1 : decode cX5_copyFrom 1 = .ok (.aload_n 1, 1) := by decide +kernel
theorem dX5_copyFrom_2 : decode cX5_copyFrom 2 = .ok (.getfield 57, 3) := by decide +kernel
theorem dX5_copyFrom_5 : decode cX5_copyFrom 5 = .ok (.putfield 57, 3) := by decide +kernel
theorem dX5_copyFrom_8 : decode cX5_copyFrom 8 = .ok (.iconst 0, 1) := by decide +kernel
theorem dX5_copyFrom_9 : decode cX5_copyFrom 9 = .ok (.istore_n 2, 1) := by decide +kernel
theorem dX5_copyFrom_10 : decode cX5_copyFrom 10 = .ok (.iload_n 2, 1) := by decide +kernel
theorem dX5_copyFrom_11 : decode cX5_copyFrom 11 = .ok (.aload_n 0, 1) := by decide +kernel
theorem dX5_copyFrom_12 : decode cX5_copyFrom 12 = .ok (.getfield 57, 3) := by decide +kernel
theorem dX5_copyFrom_15 : decode cX5_copyFrom 15 = .ok (.if_icmp .ge 24, 3) := by decide +kernel
theorem dX5_copyFrom_18 : decode cX5_copyFrom 18 = .ok (.aload_n 0, 1) := by decide +kernel
theorem dX5_copyFrom_19 : decode cX5_copyFrom 19 = .ok (.getfield 11, 3) := by decide +kernel
theorem dX5_copyFrom_22 : decode cX5_copyFrom 22 = .ok (.iload_n 2, 1) := by decide +kernel
theorem dX5_copyFrom_23 : decode cX5_copyFrom 23 = .ok (.aaload, 1) := by decide +kernel
theorem dX5_copyFrom_24 : decode cX5_copyFrom 24 = .ok (.aload_n 1, 1) := by decide +kernel
theorem dX5_copyFrom_25 : decode cX5_copyFrom 25 = .ok (.getfield 11, 3) := by decide +kernel
theorem dX5_copyFrom_28 : decode cX5_copyFrom 28 = .ok (.iload_n 2, 1) := by decide +kernel
theorem dX5_copyFrom_29 : decode cX5_copyFrom 29 = .ok (.aaload, 1) := by decide +kernel
theorem dX5_copyFrom_30 : decode cX5_copyFrom 30 = .ok (.invokevirtual 100, 3) := by decide +kernel
theorem dX5_copyFrom_33 : decode cX5_copyFrom 33 = .ok (.iinc 2 1, 3) := by decide +kernel
theorem dX5_copyFrom_36 : decode cX5_copyFrom 36 = .ok (.goto (-26), 3) := by decide +kernel
theorem dX5_copyFrom_39 : decode cX5_copyFrom 39 = .ok (.aload_n 0, 1) := by decide +kernel
theorem dX5_copyFrom_40 : decode cX5_copyFrom 40 = .ok (.getfield 20, 3) := by decide +kernel
theorem dX5_copyFrom_43 : decode cX5_copyFrom 43 = .ok (.aload_n 1, 1) := by decide +kernel
theorem dX5_copyFrom_44 : decode cX5_copyFrom 44 = .ok (.getfield 20, 3) := by decide +kernel
theorem dX5_copyFrom_47 : decode cX5_copyFrom 47 = .ok (.invokevirtual 104, 3) := by decide +kernel
theorem dX5_copyFrom_50 : decode cX5_copyFrom 50 = .ok (.aload_n 0, 1) := by decide +kernel
theorem dX5_copyFrom_51 : decode cX5_copyFrom 51 = .ok (.getfield 24, 3) := by decide +kernel
theorem dX5_copyFrom_54 : decode cX5_copyFrom 54 = .ok (.aload_n 1, 1) := by decide +kernel
theorem dX5_copyFrom_55 : decode cX5_copyFrom 55 = .ok (.getfield 24, 3) := by decide +kernel
theorem dX5_copyFrom_58 : decode cX5_copyFrom 58 = .ok (.invokevirtual 104, 3) := by decide +kernel
theorem dX5_copyFrom_61 : decode cX5_copyFrom 61 = .ok (.iconst 0, 1) := by decide +kernel
theorem dX5_copyFrom_62 : decode cX5_copyFrom 62 = .ok (.istore_n 2, 1) := by decide +kernel
theorem dX5_copyFrom_63 : decode cX5_copyFrom 63 = .ok (.iload_n 2, 1) := by decide +kernel
theorem dX5_copyFrom_64 : decode cX5_copyFrom 64 = .ok (.aload_n 0, 1) := by decide +kernel
theorem dX5_copyFrom_65 : decode cX5_copyFrom 65 = .ok (.getfield 27, 3) := by decide +kernel
theorem dX5_copyFrom_68 : decode cX5_copyFrom 68 = .ok (.arraylength, 1) := by decide +kernel
theorem dX5_copyFrom_69 : decode cX5_copyFrom 69 = .ok (.if_icmp .ge 21, 3) := by decide +kernel
theorem dX5_copyFrom_72 : decode cX5_copyFrom 72 = .ok (.aload_n 0, 1) := by decide +kernel
theorem dX5_copyFrom_73 : decode cX5_copyFrom 73 = .ok (.getfield 27, 3) := by decide +kernel
theorem dX5_copyFrom_76 : decode cX5_copyFrom 76 = .ok (.iload_n 2, 1) := by decide +kernel
theorem dX5_copyFrom_77 : decode cX5_copyFrom 77 = .ok (.aload_n 1, 1) := by decide +kernel
theorem dX5_copyFrom_78 : decode cX5_copyFrom 78 = .ok (.getfield 27, 3) := by decide +kernel
theorem dX5_copyFrom_81 : decode cX5_copyFrom 81 = .ok (.iload_n 2, 1) := by decide +kernel
theorem dX5_copyFrom_82 : decode cX5_copyFrom 82 = .ok (.iaload, 1) := by decide +kernel
theorem dX5_copyFrom_83 : decode cX5_copyFrom 83 = .ok (.iastore, 1) := by decide +kernel
theorem dX5_copyFrom_84 : decode cX5_copyFrom 84 = .ok (.iinc 2 1, 3) := by decide +kernel
theorem dX5_copyFrom_87 : decode cX5_copyFrom 87 = .ok (.goto (-24), 3) := by decide +kernel
theorem dX5_copyFrom_90 : decode cX5_copyFrom 90 = .ok (.aload_n 0, 1) := by decide +kernel
theorem dX5_copyFrom_91 : decode cX5_copyFrom 91 = .ok (.getfield 34, 3) := by decide +kernel
theorem dX5_copyFrom_94 : decode cX5_copyFrom 94 = .ok (.aload_n 1, 1) := by decide +kernel
theorem dX5_copyFrom_95 : decode cX5_copyFrom 95 = .ok (.getfield 34, 3) := by decide +kernel
theorem dX5_copyFrom_98 : decode cX5_copyFrom 98 = .ok (.invokevirtual 107, 3) := by decide +kernel
theorem dX5_copyFrom_101 : decode cX5_copyFrom 101 = .ok (.aload_n 0, 1) := by decide +kernel
theorem dX5_copyFrom_102 : decode cX5_copyFrom 102 = .ok (.getfield 41, 3) := by decide +kernel
theorem dX5_copyFrom_105 : decode cX5_copyFrom 105 = .ok (.aload_n 1, 1) := by decide +kernel
theorem dX5_copyFrom_106 : decode cX5_copyFrom 106 = .ok (.getfield 41, 3) := by decide +kernel
theorem dX5_copyFrom_109 : decode cX5_copyFrom 109 = .ok (.invokevirtual 110, 3) := by decide +kernel
theorem dX5_copyFrom_112 : decode cX5_copyFrom 112 = .ok (.aload_n 0, 1) := by decide +kernel
theorem dX5_copyFrom_113 : decode cX5_copyFrom 113 = .ok (.aload_n 1, 1) := by decide +kernel
theorem dX5_copyFrom_114 : decode cX5_copyFrom 114 = .ok (.getfield 94, 3) := by decide +kernel
theorem dX5_copyFrom_117 : decode cX5_copyFrom 117 = .ok (.putfield 94, 3) := by decide +kernel
theorem dX5_copyFrom_120 : decode cX5_copyFrom 120 = .ok (.aload_n 0, 1) := by decide +kernel
theorem dX5_copyFrom_121 : decode cX5_copyFrom 121 = .ok (.aload_n 1, 1) := by decide +kernel
theorem dX5_copyFrom_122 : decode cX5_copyFrom 122 = .ok (.getfield 97, 3) := by decide +kernel
theorem dX5_copyFrom_125 : decode cX5_copyFrom 125 = .ok (.putfield 97, 3) := by decide +kernel
theorem dX5_copyFrom_128 : decode cX5_copyFrom 128 = .ok (.return_, 1) := by decide +kernel
theorem dX5_hasBoiler_0 : decode cX5_hasBoiler 0 = .ok (.iload_n 1, 1) := by decide +kernel
theorem dX5_hasBoiler_1 : decode cX5_hasBoiler 1 = .ok (.ifCond .lt 15, 3) := by decide +kernel
theorem dX5_hasBoiler_4 : decode cX5_hasBoiler 4 = .ok (.iload_n 1, 1) := by decide +kernel
theorem dX5_hasBoiler_5 : decode cX5_hasBoiler 5 = .ok (.aload_n 0, 1) := by decide +kernel
theorem dX5_hasBoiler_6 : decode cX5_hasBoiler 6 = .ok (.getfield 57, 3) := by decide +kernel
theorem dX5_hasBoiler_9 : decode cX5_hasBoiler 9 = .ok (.if_icmp .ge 7, 3) := by decide +kernel
theorem dX5_hasBoiler_12 : decode cX5_hasBoiler 12 = .ok (.iconst 1, 1) := by decide +kernel
theorem dX5_hasBoiler_13 : decode cX5_hasBoiler 13 = .ok (.goto 4, 3) := by decide +kernel
theorem dX5_hasBoiler_16 : decode cX5_hasBoiler 16 = .ok (.iconst 0, 1) := by decide +kernel
theorem dX5_hasBoiler_17 : decode cX5_hasBoiler 17 = .ok (.ireturn, 1) := by decide +kernel
theorem dX5_flueOf_0 : decode cX5_flueOf 0 = .ok (.iload_n 1, 1) := by decide +kernel
theorem dX5_flueOf_1 : decode cX5_flueOf 1 = .ok (.ifCond .ne 10, 3) := by decide +kernel
theorem dX5_flueOf_4 : decode cX5_flueOf 4 = .ok (.aload_n 0, 1) := by decide +kernel
theorem dX5_flueOf_5 : decode cX5_flueOf 5 = .ok (.getfield 20, 3) := by decide +kernel
theorem dX5_flueOf_8 : decode cX5_flueOf 8 = .ok (.goto 7, 3) := by decide +kernel
theorem dX5_flueOf_11 : decode cX5_flueOf 11 = .ok (.aload_n 0, 1) := by decide +kernel
theorem dX5_flueOf_12 : decode cX5_flueOf 12 = .ok (.getfield 24, 3) := by decide +kernel
theorem dX5_flueOf_15 : decode cX5_flueOf 15 = .ok (.areturn, 1) := by decide +kernel
theorem dX5_useOf_0 : decode cX5_useOf 0 = .ok (.iconst 0, 1) := by decide +kernel
theorem dX5_useOf_1 : decode cX5_useOf 1 = .ok (.istore_n 2, 1) := by decide +kernel
theorem dX5_useOf_2 : decode cX5_useOf 2 = .ok (.iconst 0, 1) := by decide +kernel
theorem dX5_useOf_3 : decode cX5_useOf 3 = .ok (.istore_n 3, 1) := by decide +kernel
theorem dX5_useOf_4 : decode cX5_useOf 4 = .ok (.iload_n 3, 1) := by decide +kernel
theorem dX5_useOf_5 : decode cX5_useOf 5 = .ok (.aload_n 0, 1) := by decide +kernel
theorem dX5_useOf_6 : decode cX5_useOf 6 = .ok (.getfield 57, 3) := by decide +kernel
theorem dX5_useOf_9 : decode cX5_useOf 9 = .ok (.if_icmp .ge 52, 3) := by decide +kernel
theorem dX5_useOf_12 : decode cX5_useOf 12 = .ok (.aload_n 0, 1) := by decide +kernel
theorem dX5_useOf_13 : decode cX5_useOf 13 = .ok (.getfield 11, 3) := by decide +kernel
theorem dX5_useOf_16 : decode cX5_useOf 16 = .ok (.iload_n 3, 1) := by decide +kernel
theorem dX5_useOf_17 : decode cX5_useOf 17 = .ok (.aaload, 1) := by decide +kernel
theorem dX5_useOf_18 : decode cX5_useOf 18 = .ok (.astore 4, 2) := by decide +kernel
theorem dX5_useOf_20 : decode cX5_useOf 20 = .ok (.aload 4, 2) := by decide +kernel
theorem dX5_useOf_22 : decode cX5_useOf 22 = .ok (.getfield 113, 3) := by decide +kernel
theorem dX5_useOf_25 : decode cX5_useOf 25 = .ok (.iload_n 1, 1) := by decide +kernel
theorem dX5_useOf_26 : decode cX5_useOf 26 = .ok (.if_icmp .ne 29, 3) := by decide +kernel
theorem dX5_useOf_29 : decode cX5_useOf 29 = .ok (.aload 4, 2) := by decide +kernel
theorem dX5_useOf_31 : decode cX5_useOf 31 = .ok (.getfield 116, 3) := by decide +kernel
theorem dX5_useOf_34 : decode cX5_useOf 34 = .ok (.iconst 1, 1) := by decide +kernel
theorem dX5_useOf_35 : decode cX5_useOf 35 = .ok (.if_icmp .eq 12, 3) := by decide +kernel
theorem dX5_useOf_38 : decode cX5_useOf 38 = .ok (.aload 4, 2) := by decide +kernel
theorem dX5_useOf_40 : decode cX5_useOf 40 = .ok (.getfield 116, 3) := by decide +kernel
theorem dX5_useOf_43 : decode cX5_useOf 43 = .ok (.iconst 2, 1) := by decide +kernel
theorem dX5_useOf_44 : decode cX5_useOf 44 = .ok (.if_icmp .ne 11, 3) := by decide +kernel
theorem dX5_useOf_47 : decode cX5_useOf 47 = .ok (.iload_n 2, 1) := by decide +kernel
theorem dX5_useOf_48 : decode cX5_useOf 48 = .ok (.aload 4, 2) := by decide +kernel
theorem dX5_useOf_50 : decode cX5_useOf 50 = .ok (.getfield 119, 3) := by decide +kernel
theorem dX5_useOf_53 : decode cX5_useOf 53 = .ok (.iadd, 1) := by decide +kernel
theorem dX5_useOf_54 : decode cX5_useOf 54 = .ok (.istore_n 2, 1) := by decide +kernel
theorem dX5_useOf_55 : decode cX5_useOf 55 = .ok (.iinc 3 1, 3) := by decide +kernel
theorem dX5_useOf_58 : decode cX5_useOf 58 = .ok (.goto (-54), 3) := by decide +kernel
theorem dX5_useOf_61 : decode cX5_useOf 61 = .ok (.iload_n 2, 1) := by decide +kernel
theorem dX5_useOf_62 : decode cX5_useOf 62 = .ok (.ireturn, 1) := by decide +kernel
theorem dX5_countAtFlue_0 : decode cX5_countAtFlue 0 = .ok (.iconst 0, 1) := by decide +kernel
theorem dX5_countAtFlue_1 : decode cX5_countAtFlue 1 = .ok (.istore_n 2, 1) := by decide +kernel
theorem dX5_countAtFlue_2 : decode cX5_countAtFlue 2 = .ok (.iconst 0, 1) := by decide +kernel
theorem dX5_countAtFlue_3 : decode cX5_countAtFlue 3 = .ok (.istore_n 3, 1) := by decide +kernel
theorem dX5_countAtFlue_4 : decode cX5_countAtFlue 4 = .ok (.iload_n 3, 1) := by decide +kernel
theorem dX5_countAtFlue_5 : decode cX5_countAtFlue 5 = .ok (.aload_n 0, 1) := by decide +kernel
theorem dX5_countAtFlue_6 : decode cX5_countAtFlue 6 = .ok (.getfield 57, 3) := by decide +kernel
theorem dX5_countAtFlue_9 : decode cX5_countAtFlue 9 = .ok (.if_icmp .ge 25, 3) := by decide +kernel
theorem dX5_countAtFlue_12 : decode cX5_countAtFlue 12 = .ok (.aload_n 0, 1) := by decide +kernel
theorem dX5_countAtFlue_13 : decode cX5_countAtFlue 13 = .ok (.getfield 11, 3) := by decide +kernel
theorem dX5_countAtFlue_16 : decode cX5_countAtFlue 16 = .ok (.iload_n 3, 1) := by decide +kernel
theorem dX5_countAtFlue_17 : decode cX5_countAtFlue 17 = .ok (.aaload, 1) := by decide +kernel
theorem dX5_countAtFlue_18 : decode cX5_countAtFlue 18 = .ok (.getfield 113, 3) := by decide +kernel
theorem dX5_countAtFlue_21 : decode cX5_countAtFlue 21 = .ok (.iload_n 1, 1) := by decide +kernel
theorem dX5_countAtFlue_22 : decode cX5_countAtFlue 22 = .ok (.if_icmp .ne 6, 3) := by decide +kernel
theorem dX5_countAtFlue_25 : decode cX5_countAtFlue 25 = .ok (.iinc 2 1, 3) := by decide +kernel
theorem dX5_countAtFlue_28 : decode cX5_countAtFlue 28 = .ok (.iinc 3 1, 3) := by decide +kernel
theorem dX5_countAtFlue_31 : decode cX5_countAtFlue 31 = .ok (.goto (-27), 3) := by decide +kernel
theorem dX5_countAtFlue_34 : decode cX5_countAtFlue 34 = .ok (.iload_n 2, 1) := by decide +kernel
theorem dX5_countAtFlue_35 : decode cX5_countAtFlue 35 = .ok (.ireturn, 1) := by decide +kernel
theorem dX5_countInState_0 : decode cX5_countInState 0 = .ok (.iconst 0, 1) := by decide +kernel
theorem dX5_countInState_1 : decode cX5_countInState 1 = .ok (.istore_n 2, 1) := by decide +kernel
theorem dX5_countInState_2 : decode cX5_countInState 2 = .ok (.iconst 0, 1) := by decide +kernel
theorem dX5_countInState_3 : decode cX5_countInState 3 = .ok (.istore_n 3, 1) := by decide +kernel
theorem dX5_countInState_4 : decode cX5_countInState 4 = .ok (.iload_n 3, 1) := by decide +kernel
theorem dX5_countInState_5 : decode cX5_countInState 5 = .ok (.aload_n 0, 1) := by decide +kernel
theorem dX5_countInState_6 : decode cX5_countInState 6 = .ok (.getfield 57, 3) := by decide +kernel
theorem dX5_countInState_9 : decode cX5_countInState 9 = .ok (.if_icmp .ge 25, 3) := by decide +kernel
theorem dX5_countInState_12 : decode cX5_countInState 12 = .ok (.aload_n 0, 1) := by decide +kernel
theorem dX5_countInState_13 : decode cX5_countInState 13 = .ok (.getfield 11, 3) := by decide +kernel
theorem dX5_countInState_16 : decode cX5_countInState 16 = .ok (.iload_n 3, 1) := by decide +kernel
theorem dX5_countInState_17 : decode cX5_countInState 17 = .ok (.aaload, 1) := by decide +kernel
theorem dX5_countInState_18 : decode cX5_countInState 18 = .ok (.getfield 116, 3) := by decide +kernel
theorem dX5_countInState_21 : decode cX5_countInState 21 = .ok (.iload_n 1, 1) := by decide +kernel
theorem dX5_countInState_22 : decode cX5_countInState 22 = .ok (.if_icmp .ne 6, 3) := by decide +kernel
theorem dX5_countInState_25 : decode cX5_countInState 25 = .ok (.iinc 2 1, 3) := by decide +kernel
theorem dX5_countInState_28 : decode cX5_countInState 28 = .ok (.iinc 3 1, 3) := by decide +kernel
theorem dX5_countInState_31 : decode cX5_countInState 31 = .ok (.goto (-27), 3) := by decide +kernel
theorem dX5_countInState_34 : decode cX5_countInState 34 = .ok (.iload_n 2, 1) := by decide +kernel
theorem dX5_countInState_35 : decode cX5_countInState 35 = .ok (.ireturn, 1) := by decide +kernel
theorem dX5_fuel_0 : decode cX5_fuel 0 = .ok (.iconst 0, 1) := by decide +kernel
theorem dX5_fuel_1 : decode cX5_fuel 1 = .ok (.istore_n 1, 1) := by decide +kernel
theorem dX5_fuel_2 : decode cX5_fuel 2 = .ok (.iconst 0, 1) := by decide +kernel
theorem dX5_fuel_3 : decode cX5_fuel 3 = .ok (.istore_n 2, 1) := by decide +kernel
theorem dX5_fuel_4 : decode cX5_fuel 4 = .ok (.iload_n 2, 1) := by decide +kernel
theorem dX5_fuel_5 : decode cX5_fuel 5 = .ok (.aload_n 0, 1) := by decide +kernel
theorem dX5_fuel_6 : decode cX5_fuel 6 = .ok (.getfield 57, 3) := by decide +kernel
theorem dX5_fuel_9 : decode cX5_fuel 9 = .ok (.if_icmp .ge 21, 3) := by decide +kernel
theorem dX5_fuel_12 : decode cX5_fuel 12 = .ok (.iload_n 1, 1) := by decide +kernel
theorem dX5_fuel_13 : decode cX5_fuel 13 = .ok (.aload_n 0, 1) := by decide +kernel
theorem dX5_fuel_14 : decode cX5_fuel 14 = .ok (.getfield 11, 3) := by decide +kernel
theorem dX5_fuel_17 : decode cX5_fuel 17 = .ok (.iload_n 2, 1) := by decide +kernel
theorem dX5_fuel_18 : decode cX5_fuel 18 = .ok (.aaload, 1) := by decide +kernel
theorem dX5_fuel_19 : decode cX5_fuel 19 = .ok (.getfield 122, 3) := by decide +kernel
theorem dX5_fuel_22 : decode cX5_fuel 22 = .ok (.iadd, 1) := by decide +kernel
theorem dX5_fuel_23 : decode cX5_fuel 23 = .ok (.istore_n 1, 1) := by decide +kernel
theorem dX5_fuel_24 : decode cX5_fuel 24 = .ok (.iinc 2 1, 3) := by decide +kernel
theorem dX5_fuel_27 : decode cX5_fuel 27 = .ok (.goto (-23), 3) := by decide +kernel
theorem dX5_fuel_30 : decode cX5_fuel 30 = .ok (.iload_n 1, 1) := by decide +kernel
theorem dX5_fuel_31 : decode cX5_fuel 31 = .ok (.ireturn, 1) := by decide +kernel
theorem dX5_starts_0 : decode cX5_starts 0 = .ok (.iconst 0, 1) := by decide +kernel
theorem dX5_starts_1 : decode cX5_starts 1 = .ok (.istore_n 1, 1) := by decide +kernel
theorem dX5_starts_2 : decode cX5_starts 2 = .ok (.iconst 0, 1) := by decide +kernel
theorem dX5_starts_3 : decode cX5_starts 3 = .ok (.istore_n 2, 1) := by decide +kernel
theorem dX5_starts_4 : decode cX5_starts 4 = .ok (.iload_n 2, 1) := by decide +kernel
theorem dX5_starts_5 : decode cX5_starts 5 = .ok (.aload_n 0, 1) := by decide +kernel
theorem dX5_starts_6 : decode cX5_starts 6 = .ok (.getfield 57, 3) := by decide +kernel
theorem dX5_starts_9 : decode cX5_starts 9 = .ok (.if_icmp .ge 21, 3) := by decide +kernel
theorem dX5_starts_12 : decode cX5_starts 12 = .ok (.iload_n 1, 1) := by decide +kernel
theorem dX5_starts_13 : decode cX5_starts 13 = .ok (.aload_n 0, 1) := by decide +kernel
theorem dX5_starts_14 : decode cX5_starts 14 = .ok (.getfield 11, 3) := by decide +kernel
theorem dX5_starts_17 : decode cX5_starts 17 = .ok (.iload_n 2, 1) := by decide +kernel
theorem dX5_starts_18 : decode cX5_starts 18 = .ok (.aaload, 1) := by decide +kernel
theorem dX5_starts_19 : decode cX5_starts 19 = .ok (.getfield 125, 3) := by decide +kernel
theorem dX5_starts_22 : decode cX5_starts 22 = .ok (.iadd, 1) := by decide +kernel
theorem dX5_starts_23 : decode cX5_starts 23 = .ok (.istore_n 1, 1) := by decide +kernel
theorem dX5_starts_24 : decode cX5_starts 24 = .ok (.iinc 2 1, 3) := by decide +kernel
theorem dX5_starts_27 : decode cX5_starts 27 = .ok (.goto (-23), 3) := by decide +kernel
theorem dX5_starts_30 : decode cX5_starts 30 = .ok (.iload_n 1, 1) := by decide +kernel
theorem dX5_starts_31 : decode cX5_starts 31 = .ok (.ireturn, 1) := by decide +kernel
theorem dX5_hasRoomFor_0 : decode cX5_hasRoomFor 0 = .ok (.aload_n 0, 1) := by decide +kernel
theorem dX5_hasRoomFor_1 : decode cX5_hasRoomFor 1 = .ok (.aload_n 1, 1) := by decide +kernel
theorem dX5_hasRoomFor_2 : decode cX5_hasRoomFor 2 = .ok (.getfield 113, 3) := by decide +kernel
theorem dX5_hasRoomFor_5 : decode cX5_hasRoomFor 5 = .ok (.invokevirtual 128, 3) := by decide +kernel
theorem dX5_hasRoomFor_8 : decode cX5_hasRoomFor 8 = .ok (.astore_n 2, 1) := by decide +kernel
theorem dX5_hasRoomFor_9 : decode cX5_hasRoomFor 9 = .ok (.aload_n 2, 1) := by decide +kernel
theorem dX5_hasRoomFor_10 : decode cX5_hasRoomFor 10 = .ok (.getfield 132, 3) := by decide +kernel
theorem dX5_hasRoomFor_13 : decode cX5_hasRoomFor 13 = .ok (.ifCond .eq 27, 3) := by decide +kernel
theorem dX5_hasRoomFor_16 : decode cX5_hasRoomFor 16 = .ok (.aload_n 0, 1) := by decide +kernel
theorem dX5_hasRoomFor_17 : decode cX5_hasRoomFor 17 = .ok (.aload_n 1, 1) := by decide +kernel
theorem dX5_hasRoomFor_18 : decode cX5_hasRoomFor 18 = .ok (.getfield 113, 3) := by decide +kernel
theorem dX5_hasRoomFor_21 : decode cX5_hasRoomFor 21 = .ok (.invokevirtual 136, 3) := by decide +kernel
theorem dX5_hasRoomFor_24 : decode cX5_hasRoomFor 24 = .ok (.aload_n 1, 1) := by decide +kernel
theorem dX5_hasRoomFor_25 : decode cX5_hasRoomFor 25 = .ok (.getfield 119, 3) := by decide +kernel
theorem dX5_hasRoomFor_28 : decode cX5_hasRoomFor 28 = .ok (.iadd, 1) := by decide +kernel
theorem dX5_hasRoomFor_29 : decode cX5_hasRoomFor 29 = .ok (.aload_n 2, 1) := by decide +kernel
theorem dX5_hasRoomFor_30 : decode cX5_hasRoomFor 30 = .ok (.getfield 140, 3) := by decide +kernel
theorem dX5_hasRoomFor_33 : decode cX5_hasRoomFor 33 = .ok (.if_icmp .gt 7, 3) := by decide +kernel
theorem dX5_hasRoomFor_36 : decode cX5_hasRoomFor 36 = .ok (.iconst 1, 1) := by decide +kernel
theorem dX5_hasRoomFor_37 : decode cX5_hasRoomFor 37 = .ok (.goto 4, 3) := by decide +kernel
theorem dX5_hasRoomFor_40 : decode cX5_hasRoomFor 40 = .ok (.iconst 0, 1) := by decide +kernel
theorem dX5_hasRoomFor_41 : decode cX5_hasRoomFor 41 = .ok (.ireturn, 1) := by decide +kernel
theorem dX5_firstToStart_0 : decode cX5_firstToStart 0 = .ok (.bipush (-9), 2) := by decide +kernel
theorem dX5_firstToStart_2 : decode cX5_firstToStart 2 = .ok (.istore_n 1, 1) := by decide +kernel
theorem dX5_firstToStart_3 : decode cX5_firstToStart 3 = .ok (.ldc 145, 2) := by decide +kernel
theorem dX5_firstToStart_5 : decode cX5_firstToStart 5 = .ok (.istore_n 2, 1) := by decide +kernel
theorem dX5_firstToStart_6 : decode cX5_firstToStart 6 = .ok (.iconst 0, 1) := by decide +kernel
theorem dX5_firstToStart_7 : decode cX5_firstToStart 7 = .ok (.istore_n 3, 1) := by decide +kernel
theorem dX5_firstToStart_8 : decode cX5_firstToStart 8 = .ok (.iload_n 3, 1) := by decide +kernel
theorem dX5_firstToStart_9 : decode cX5_firstToStart 9 = .ok (.aload_n 0, 1) := by decide +kernel
theorem dX5_firstToStart_10 : decode cX5_firstToStart 10 = .ok (.getfield 57, 3) := by decide +kernel
theorem dX5_firstToStart_13 : decode cX5_firstToStart 13 = .ok (.if_icmp .ge 51, 3) := by decide +kernel
theorem dX5_firstToStart_16 : decode cX5_firstToStart 16 = .ok (.aload_n 0, 1) := by decide +kernel
theorem dX5_firstToStart_17 : decode cX5_firstToStart 17 = .ok (.getfield 11, 3) := by decide +kernel
theorem dX5_firstToStart_20 : decode cX5_firstToStart 20 = .ok (.iload_n 3, 1) := by decide +kernel
theorem dX5_firstToStart_21 : decode cX5_firstToStart 21 = .ok (.aaload, 1) := by decide +kernel
theorem dX5_firstToStart_22 : decode cX5_firstToStart 22 = .ok (.astore 4, 2) := by decide +kernel
theorem dX5_firstToStart_24 : decode cX5_firstToStart 24 = .ok (.aload 4, 2) := by decide +kernel
theorem dX5_firstToStart_26 : decode cX5_firstToStart 26 = .ok (.invokevirtual 146, 3) := by decide +kernel
theorem dX5_firstToStart_29 : decode cX5_firstToStart 29 = .ok (.ifCond .eq 29, 3) := by decide +kernel
theorem dX5_firstToStart_32 : decode cX5_firstToStart 32 = .ok (.aload 4, 2) := by decide +kernel
theorem dX5_firstToStart_34 : decode cX5_firstToStart 34 = .ok (.getfield 150, 3) := by decide +kernel
theorem dX5_firstToStart_37 : decode cX5_firstToStart 37 = .ok (.iload_n 2, 1) := by decide +kernel
theorem dX5_firstToStart_38 : decode cX5_firstToStart 38 = .ok (.if_icmp .ge 20, 3) := by decide +kernel
theorem dX5_firstToStart_41 : decode cX5_firstToStart 41 = .ok (.aload_n 0, 1) := by decide +kernel
theorem dX5_firstToStart_42 : decode cX5_firstToStart 42 = .ok (.aload 4, 2) := by decide +kernel
theorem dX5_firstToStart_44 : decode cX5_firstToStart 44 = .ok (.invokevirtual 153, 3) := by decide +kernel
theorem dX5_firstToStart_47 : decode cX5_firstToStart 47 = .ok (.ifCond .eq 11, 3) := by decide +kernel
theorem dX5_firstToStart_50 : decode cX5_firstToStart 50 = .ok (.iload_n 3, 1) := by decide +kernel
theorem dX5_firstToStart_51 : decode cX5_firstToStart 51 = .ok (.istore_n 1, 1) := by decide +kernel
theorem dX5_firstToStart_52 : decode cX5_firstToStart 52 = .ok (.aload 4, 2) := by decide +kernel
theorem dX5_firstToStart_54 : decode cX5_firstToStart 54 = .ok (.getfield 150, 3) := by decide +kernel
theorem dX5_firstToStart_57 : decode cX5_firstToStart 57 = .ok (.istore_n 2, 1) := by decide +kernel
theorem dX5_firstToStart_58 : decode cX5_firstToStart 58 = .ok (.iinc 3 1, 3) := by decide +kernel
theorem dX5_firstToStart_61 : decode cX5_firstToStart 61 = .ok (.goto (-53), 3) := by decide +kernel
theorem dX5_firstToStart_64 : decode cX5_firstToStart 64 = .ok (.iload_n 1, 1) := by decide +kernel
theorem dX5_firstToStart_65 : decode cX5_firstToStart 65 = .ok (.ireturn, 1) := by decide +kernel
theorem dX5_firstToRest_0 : decode cX5_firstToRest 0 = .ok (.bipush (-9), 2) := by decide +kernel
theorem dX5_firstToRest_2 : decode cX5_firstToRest 2 = .ok (.istore_n 1, 1) := by decide +kernel
theorem dX5_firstToRest_3 : decode cX5_firstToRest 3 = .ok (.iconst 0, 1) := by decide +kernel
theorem dX5_firstToRest_4 : decode cX5_firstToRest 4 = .ok (.istore_n 2, 1) := by decide +kernel
theorem dX5_firstToRest_5 : decode cX5_firstToRest 5 = .ok (.iconst 0, 1) := by decide +kernel
theorem dX5_firstToRest_6 : decode cX5_firstToRest 6 = .ok (.istore_n 3, 1) := by decide +kernel
theorem dX5_firstToRest_7 : decode cX5_firstToRest 7 = .ok (.iload_n 3, 1) := by decide +kernel
theorem dX5_firstToRest_8 : decode cX5_firstToRest 8 = .ok (.aload_n 0, 1) := by decide +kernel
theorem dX5_firstToRest_9 : decode cX5_firstToRest 9 = .ok (.getfield 57, 3) := by decide +kernel
theorem dX5_firstToRest_12 : decode cX5_firstToRest 12 = .ok (.if_icmp .ge 47, 3) := by decide +kernel
theorem dX5_firstToRest_15 : decode cX5_firstToRest 15 = .ok (.aload_n 0, 1) := by decide +kernel
theorem dX5_firstToRest_16 : decode cX5_firstToRest 16 = .ok (.getfield 11, 3) := by decide +kernel
theorem dX5_firstToRest_19 : decode cX5_firstToRest 19 = .ok (.iload_n 3, 1) := by decide +kernel
theorem dX5_firstToRest_20 : decode cX5_firstToRest 20 = .ok (.aaload, 1) := by decide +kernel
theorem dX5_firstToRest_21 : decode cX5_firstToRest 21 = .ok (.getfield 116, 3) := by decide +kernel
theorem dX5_firstToRest_24 : decode cX5_firstToRest 24 = .ok (.iconst 2, 1) := by decide +kernel
theorem dX5_firstToRest_25 : decode cX5_firstToRest 25 = .ok (.if_icmp .ne 28, 3) := by decide +kernel
theorem dX5_firstToRest_28 : decode cX5_firstToRest 28 = .ok (.aload_n 0, 1) := by decide +kernel
theorem dX5_firstToRest_29 : decode cX5_firstToRest 29 = .ok (.getfield 11, 3) := by decide +kernel
theorem dX5_firstToRest_32 : decode cX5_firstToRest 32 = .ok (.iload_n 3, 1) := by decide +kernel
theorem dX5_firstToRest_33 : decode cX5_firstToRest 33 = .ok (.aaload, 1) := by decide +kernel
theorem dX5_firstToRest_34 : decode cX5_firstToRest 34 = .ok (.getfield 150, 3) := by decide +kernel
theorem dX5_firstToRest_37 : decode cX5_firstToRest 37 = .ok (.iload_n 2, 1) := by decide +kernel
theorem dX5_firstToRest_38 : decode cX5_firstToRest 38 = .ok (.if_icmp .lt 15, 3) := by decide +kernel
theorem dX5_firstToRest_41 : decode cX5_firstToRest 41 = .ok (.iload_n 3, 1) := by decide +kernel
theorem dX5_firstToRest_42 : decode cX5_firstToRest 42 = .ok (.istore_n 1, 1) := by decide +kernel
theorem dX5_firstToRest_43 : decode cX5_firstToRest 43 = .ok (.aload_n 0, 1) := by decide +kernel
theorem dX5_firstToRest_44 : decode cX5_firstToRest 44 = .ok (.getfield 11, 3) := by decide +kernel
theorem dX5_firstToRest_47 : decode cX5_firstToRest 47 = .ok (.iload_n 3, 1) := by decide +kernel
theorem dX5_firstToRest_48 : decode cX5_firstToRest 48 = .ok (.aaload, 1) := by decide +kernel
theorem dX5_firstToRest_49 : decode cX5_firstToRest 49 = .ok (.getfield 150, 3) := by decide +kernel
theorem dX5_firstToRest_52 : decode cX5_firstToRest 52 = .ok (.istore_n 2, 1) := by decide +kernel
theorem dX5_firstToRest_53 : decode cX5_firstToRest 53 = .ok (.iinc 3 1, 3) := by decide +kernel
theorem dX5_firstToRest_56 : decode cX5_firstToRest 56 = .ok (.goto (-49), 3) := by decide +kernel
theorem dX5_firstToRest_59 : decode cX5_firstToRest 59 = .ok (.iload_n 1, 1) := by decide +kernel
theorem dX5_firstToRest_60 : decode cX5_firstToRest 60 = .ok (.ireturn, 1) := by decide +kernel
theorem dX5_moveFlue_0 : decode cX5_moveFlue 0 = .ok (.aload_n 0, 1) := by decide +kernel
theorem dX5_moveFlue_1 : decode cX5_moveFlue 1 = .ok (.iload_n 1, 1) := by decide +kernel
theorem dX5_moveFlue_2 : decode cX5_moveFlue 2 = .ok (.invokevirtual 128, 3) := by decide +kernel
theorem dX5_moveFlue_5 : decode cX5_moveFlue 5 = .ok (.iload_n 2, 1) := by decide +kernel
theorem dX5_moveFlue_6 : decode cX5_moveFlue 6 = .ok (.putfield 132, 3) := by decide +kernel
theorem dX5_moveFlue_9 : decode cX5_moveFlue 9 = .ok (.iconst 0, 1) := by decide +kernel
theorem dX5_moveFlue_10 : decode cX5_moveFlue 10 = .ok (.istore_n 3, 1) := by decide +kernel
theorem dX5_moveFlue_11 : decode cX5_moveFlue 11 = .ok (.iconst 0, 1) := by decide +kernel
theorem dX5_moveFlue_12 : decode cX5_moveFlue 12 = .ok (.istore 4, 2) := by decide +kernel
theorem dX5_moveFlue_14 : decode cX5_moveFlue 14 = .ok (.iload 4, 2) := by decide +kernel
theorem dX5_moveFlue_16 : decode cX5_moveFlue 16 = .ok (.aload_n 0, 1) := by decide +kernel
theorem dX5_moveFlue_17 : decode cX5_moveFlue 17 = .ok (.getfield 57, 3) := by decide +kernel
theorem dX5_moveFlue_20 : decode cX5_moveFlue 20 = .ok (.if_icmp .ge 57, 3) := by decide +kernel
theorem dX5_moveFlue_23 : decode cX5_moveFlue 23 = .ok (.iload_n 2, 1) := by decide +kernel
theorem dX5_moveFlue_24 : decode cX5_moveFlue 24 = .ok (.ifCond .ne 53, 3) := by decide +kernel
theorem dX5_moveFlue_27 : decode cX5_moveFlue 27 = .ok (.aload_n 0, 1) := by decide +kernel
theorem dX5_moveFlue_28 : decode cX5_moveFlue 28 = .ok (.getfield 11, 3) := by decide +kernel
theorem dX5_moveFlue_31 : decode cX5_moveFlue 31 = .ok (.iload 4, 2) := by decide +kernel
theorem dX5_moveFlue_33 : decode cX5_moveFlue 33 = .ok (.aaload, 1) := by decide +kernel
theorem dX5_moveFlue_34 : decode cX5_moveFlue 34 = .ok (.astore 5, 2) := by decide +kernel
theorem dX5_moveFlue_36 : decode cX5_moveFlue 36 = .ok (.aload 5, 2) := by decide +kernel
theorem dX5_moveFlue_38 : decode cX5_moveFlue 38 = .ok (.getfield 113, 3) := by decide +kernel
theorem dX5_moveFlue_41 : decode cX5_moveFlue 41 = .ok (.iload_n 1, 1) := by decide +kernel
theorem dX5_moveFlue_42 : decode cX5_moveFlue 42 = .ok (.if_icmp .ne 29, 3) := by decide +kernel
theorem dX5_moveFlue_45 : decode cX5_moveFlue 45 = .ok (.aload 5, 2) := by decide +kernel
theorem dX5_moveFlue_47 : decode cX5_moveFlue 47 = .ok (.getfield 116, 3) := by decide +kernel
theorem dX5_moveFlue_50 : decode cX5_moveFlue 50 = .ok (.ifCond .eq 21, 3) := by decide +kernel
theorem dX5_moveFlue_53 : decode cX5_moveFlue 53 = .ok (.aload 5, 2) := by decide +kernel
theorem dX5_moveFlue_55 : decode cX5_moveFlue 55 = .ok (.getfield 116, 3) := by decide +kernel
theorem dX5_moveFlue_58 : decode cX5_moveFlue 58 = .ok (.iconst 4, 1) := by decide +kernel
theorem dX5_moveFlue_59 : decode cX5_moveFlue 59 = .ok (.if_icmp .eq 12, 3) := by decide +kernel
theorem dX5_moveFlue_62 : decode cX5_moveFlue 62 = .ok (.aload 5, 2) := by decide +kernel
theorem dX5_moveFlue_64 : decode cX5_moveFlue 64 = .ok (.iconst 0, 1) := by decide +kernel
theorem dX5_moveFlue_65 : decode cX5_moveFlue 65 = .ok (.invokevirtual 157, 3) := by decide +kernel
theorem dX5_moveFlue_68 : decode cX5_moveFlue 68 = .ok (.iinc 3 1, 3) := by decide +kernel
theorem dX5_moveFlue_71 : decode cX5_moveFlue 71 = .ok (.iinc 4 1, 3) := by decide +kernel
theorem dX5_moveFlue_74 : decode cX5_moveFlue 74 = .ok (.goto (-60), 3) := by decide +kernel
theorem dX5_moveFlue_77 : decode cX5_moveFlue 77 = .ok (.iload_n 3, 1) := by decide +kernel
theorem dX5_moveFlue_78 : decode cX5_moveFlue 78 = .ok (.ireturn, 1) := by decide +kernel
theorem dX5_passTicks_0 : decode cX5_passTicks 0 = .ok (.iconst 0, 1) := by decide +kernel
theorem dX5_passTicks_1 : decode cX5_passTicks 1 = .ok (.istore_n 3, 1) := by decide +kernel
theorem dX5_passTicks_2 : decode cX5_passTicks 2 = .ok (.iload_n 3, 1) := by decide +kernel
theorem dX5_passTicks_3 : decode cX5_passTicks 3 = .ok (.iload_n 1, 1) := by decide +kernel
theorem dX5_passTicks_4 : decode cX5_passTicks 4 = .ok (.if_icmp .ge 164, 3) := by decide +kernel
theorem dX5_passTicks_7 : decode cX5_passTicks 7 = .ok (.aload_n 0, 1) := by decide +kernel
theorem dX5_passTicks_8 : decode cX5_passTicks 8 = .ok (.getfield 34, 3) := by decide +kernel
theorem dX5_passTicks_11 : decode cX5_passTicks 11 = .ok (.iload_n 2, 1) := by decide +kernel
theorem dX5_passTicks_12 : decode cX5_passTicks 12 = .ok (.invokevirtual 160, 3) := by decide +kernel
theorem dX5_passTicks_15 : decode cX5_passTicks 15 = .ok (.pop, 1) := by decide +kernel
theorem dX5_passTicks_16 : decode cX5_passTicks 16 = .ok (.aload_n 0, 1) := by decide +kernel
theorem dX5_passTicks_17 : decode cX5_passTicks 17 = .ok (.getfield 94, 3) := by decide +kernel
theorem dX5_passTicks_20 : decode cX5_passTicks 20 = .ok (.bipush 24, 2) := by decide +kernel
theorem dX5_passTicks_22 : decode cX5_passTicks 22 = .ok (.irem, 1) := by decide +kernel
theorem dX5_passTicks_23 : decode cX5_passTicks 23 = .ok (.aload_n 0, 1) := by decide +kernel
theorem dX5_passTicks_24 : decode cX5_passTicks 24 = .ok (.getfield 27, 3) := by decide +kernel
theorem dX5_passTicks_27 : decode cX5_passTicks 27 = .ok (.iconst 5, 1) := by decide +kernel
theorem dX5_passTicks_28 : decode cX5_passTicks 28 = .ok (.iaload, 1) := by decide +kernel
theorem dX5_passTicks_29 : decode cX5_passTicks 29 = .ok (.if_icmp .ne 11, 3) := by decide +kernel
theorem dX5_passTicks_32 : decode cX5_passTicks 32 = .ok (.aload_n 0, 1) := by decide +kernel
theorem dX5_passTicks_33 : decode cX5_passTicks 33 = .ok (.getfield 41, 3) := by decide +kernel
theorem dX5_passTicks_36 : decode cX5_passTicks 36 = .ok (.iconst 1, 1) := by decide +kernel
theorem dX5_passTicks_37 : decode cX5_passTicks 37 = .ok (.putfield 163, 3) := by decide +kernel
theorem dX5_passTicks_40 : decode cX5_passTicks 40 = .ok (.aload_n 0, 1) := by decide +kernel
theorem dX5_passTicks_41 : decode cX5_passTicks 41 = .ok (.aload_n 0, 1) := by decide +kernel
theorem dX5_passTicks_42 : decode cX5_passTicks 42 = .ok (.getfield 41, 3) := by decide +kernel
theorem dX5_passTicks_45 : decode cX5_passTicks 45 = .ok (.getfield 163, 3) := by decide +kernel
theorem dX5_passTicks_48 : decode cX5_passTicks 48 = .ok (.ifCond .eq 12, 3) := by decide +kernel
theorem dX5_passTicks_51 : decode cX5_passTicks 51 = .ok (.aload_n 0, 1) := by decide +kernel
theorem dX5_passTicks_52 : decode cX5_passTicks 52 = .ok (.getfield 27, 3) := by decide +kernel
theorem dX5_passTicks_55 : decode cX5_passTicks 55 = .ok (.iconst 3, 1) := by decide +kernel
theorem dX5_passTicks_56 : decode cX5_passTicks 56 = .ok (.iaload, 1) := by decide +kernel
theorem dX5_passTicks_57 : decode cX5_passTicks 57 = .ok (.goto 9, 3) := by decide +kernel
theorem dX5_passTicks_60 : decode cX5_passTicks 60 = .ok (.aload_n 0, 1) := by decide +kernel
theorem dX5_passTicks_61 : decode cX5_passTicks 61 = .ok (.getfield 27, 3) := by decide +kernel
theorem dX5_passTicks_64 : decode cX5_passTicks 64 = .ok (.iconst 0, 1) := by decide +kernel
theorem dX5_passTicks_65 : decode cX5_passTicks 65 = .ok (.iaload, 1) := by decide +kernel
theorem dX5_passTicks_66 : decode cX5_passTicks 66 = .ok (.invokevirtual 166, 3) := by decide +kernel
theorem dX5_passTicks_69 : decode cX5_passTicks 69 = .ok (.iconst 0, 1) := by decide +kernel
theorem dX5_passTicks_70 : decode cX5_passTicks 70 = .ok (.istore 4, 2) := by decide +kernel
theorem dX5_passTicks_72 : decode cX5_passTicks 72 = .ok (.iload 4, 2) := by decide +kernel
theorem dX5_passTicks_74 : decode cX5_passTicks 74 = .ok (.aload_n 0, 1) := by decide +kernel
theorem dX5_passTicks_75 : decode cX5_passTicks 75 = .ok (.getfield 57, 3) := by decide +kernel
theorem dX5_passTicks_78 : decode cX5_passTicks 78 = .ok (.if_icmp .ge 26, 3) := by decide +kernel
theorem dX5_passTicks_81 : decode cX5_passTicks 81 = .ok (.aload_n 0, 1) := by decide +kernel
theorem dX5_passTicks_82 : decode cX5_passTicks 82 = .ok (.getfield 34, 3) := by decide +kernel
theorem dX5_passTicks_85 : decode cX5_passTicks 85 = .ok (.aload_n 0, 1) := by decide +kernel
theorem dX5_passTicks_86 : decode cX5_passTicks 86 = .ok (.getfield 11, 3) := by decide +kernel
theorem dX5_passTicks_89 : decode cX5_passTicks 89 = .ok (.iload 4, 2) := by decide +kernel
theorem dX5_passTicks_91 : decode cX5_passTicks 91 = .ok (.aaload, 1) := by decide +kernel
theorem dX5_passTicks_92 : decode cX5_passTicks 92 = .ok (.invokevirtual 169, 3) := by decide +kernel
theorem dX5_passTicks_95 : decode cX5_passTicks 95 = .ok (.invokevirtual 173, 3) := by decide +kernel
theorem dX5_passTicks_98 : decode cX5_passTicks 98 = .ok (.iinc 4 1, 3) := by decide +kernel
theorem dX5_passTicks_101 : decode cX5_passTicks 101 = .ok (.goto (-29), 3) := by decide +kernel
theorem dX5_passTicks_104 : decode cX5_passTicks 104 = .ok (.aload_n 0, 1) := by decide +kernel
theorem dX5_passTicks_105 : decode cX5_passTicks 105 = .ok (.getfield 34, 3) := by decide +kernel
theorem dX5_passTicks_108 : decode cX5_passTicks 108 = .ok (.invokevirtual 176, 3) := by decide +kernel
theorem dX5_passTicks_111 : decode cX5_passTicks 111 = .ok (.aload_n 0, 1) := by decide +kernel
theorem dX5_passTicks_112 : decode cX5_passTicks 112 = .ok (.getfield 34, 3) := by decide +kernel
theorem dX5_passTicks_115 : decode cX5_passTicks 115 = .ok (.invokevirtual 179, 3) := by decide +kernel
theorem dX5_passTicks_118 : decode cX5_passTicks 118 = .ok (.aload_n 0, 1) := by decide +kernel
theorem dX5_passTicks_119 : decode cX5_passTicks 119 = .ok (.getfield 41, 3) := by decide +kernel
theorem dX5_passTicks_122 : decode cX5_passTicks 122 = .ok (.aload_n 0, 1) := by decide +kernel
theorem dX5_passTicks_123 : decode cX5_passTicks 123 = .ok (.getfield 34, 3) := by decide +kernel
theorem dX5_passTicks_126 : decode cX5_passTicks 126 = .ok (.invokevirtual 182, 3) := by decide +kernel
theorem dX5_passTicks_129 : decode cX5_passTicks 129 = .ok (.aload_n 0, 1) := by decide +kernel
theorem dX5_passTicks_130 : decode cX5_passTicks 130 = .ok (.getfield 27, 3) := by decide +kernel
theorem dX5_passTicks_133 : decode cX5_passTicks 133 = .ok (.iconst 3, 1) := by decide +kernel
theorem dX5_passTicks_134 : decode cX5_passTicks 134 = .ok (.iaload, 1) := by decide +kernel
theorem dX5_passTicks_135 : decode cX5_passTicks 135 = .ok (.if_icmp .lt 7, 3) := by decide +kernel
theorem dX5_passTicks_138 : decode cX5_passTicks 138 = .ok (.iconst 1, 1) := by decide +kernel
theorem dX5_passTicks_139 : decode cX5_passTicks 139 = .ok (.goto 4, 3) := by decide +kernel
theorem dX5_passTicks_142 : decode cX5_passTicks 142 = .ok (.iconst 0, 1) := by decide +kernel
theorem dX5_passTicks_143 : decode cX5_passTicks 143 = .ok (.aload_n 0, 1) := by decide +kernel
theorem dX5_passTicks_144 : decode cX5_passTicks 144 = .ok (.getfield 27, 3) := by decide +kernel
theorem dX5_passTicks_147 : decode cX5_passTicks 147 = .ok (.iconst 4, 1) := by decide +kernel
theorem dX5_passTicks_148 : decode cX5_passTicks 148 = .ok (.iaload, 1) := by decide +kernel
theorem dX5_passTicks_149 : decode cX5_passTicks 149 = .ok (.invokevirtual 185, 3) := by decide +kernel
theorem dX5_passTicks_152 : decode cX5_passTicks 152 = .ok (.aload_n 0, 1) := by decide +kernel
theorem dX5_passTicks_153 : decode cX5_passTicks 153 = .ok (.dup, 1) := by decide +kernel
theorem dX5_passTicks_154 : decode cX5_passTicks 154 = .ok (.getfield 94, 3) := by decide +kernel
theorem dX5_passTicks_157 : decode cX5_passTicks 157 = .ok (.iconst 1, 1) := by decide +kernel
theorem dX5_passTicks_158 : decode cX5_passTicks 158 = .ok (.iadd, 1) := by decide +kernel
theorem dX5_passTicks_159 : decode cX5_passTicks 159 = .ok (.putfield 94, 3) := by decide +kernel
theorem dX5_passTicks_162 : decode cX5_passTicks 162 = .ok (.iinc 3 1, 3) := by decide +kernel
theorem dX5_passTicks_165 : decode cX5_passTicks 165 = .ok (.goto (-163), 3) := by decide +kernel
theorem dX5_passTicks_168 : decode cX5_passTicks 168 = .ok (.return_, 1) := by decide +kernel
theorem dX5_control_0 : decode cX5_control 0 = .ok (.aload_n 0, 1) := by decide +kernel
theorem dX5_control_1 : decode cX5_control 1 = .ok (.getfield 34, 3) := by decide +kernel
theorem dX5_control_4 : decode cX5_control 4 = .ok (.invokevirtual 189, 3) := by decide +kernel
theorem dX5_control_7 : decode cX5_control 7 = .ok (.istore_n 2, 1) := by decide +kernel
theorem dX5_control_8 : decode cX5_control 8 = .ok (.aload_n 0, 1) := by decide +kernel
theorem dX5_control_9 : decode cX5_control 9 = .ok (.iconst 0, 1) := by decide +kernel
theorem dX5_control_10 : decode cX5_control 10 = .ok (.putfield 97, 3) := by decide +kernel
theorem dX5_control_13 : decode cX5_control 13 = .ok (.iload_n 2, 1) := by decide +kernel
theorem dX5_control_14 : decode cX5_control 14 = .ok (.iload_n 1, 1) := by decide +kernel
theorem dX5_control_15 : decode cX5_control 15 = .ok (.aload_n 0, 1) := by decide +kernel
theorem dX5_control_16 : decode cX5_control 16 = .ok (.getfield 27, 3) := by decide +kernel
theorem dX5_control_19 : decode cX5_control 19 = .ok (.iconst 1, 1) := by decide +kernel
theorem dX5_control_20 : decode cX5_control 20 = .ok (.iaload, 1) := by decide +kernel
theorem dX5_control_21 : decode cX5_control 21 = .ok (.isub, 1) := by decide +kernel
theorem dX5_control_22 : decode cX5_control 22 = .ok (.if_icmp .ge 45, 3) := by decide +kernel
theorem dX5_control_25 : decode cX5_control 25 = .ok (.aload_n 0, 1) := by decide +kernel
theorem dX5_control_26 : decode cX5_control 26 = .ok (.invokevirtual 192, 3) := by decide +kernel
theorem dX5_control_29 : decode cX5_control 29 = .ok (.istore_n 3, 1) := by decide +kernel
theorem dX5_control_30 : decode cX5_control 30 = .ok (.aload_n 0, 1) := by decide +kernel
theorem dX5_control_31 : decode cX5_control 31 = .ok (.iload_n 3, 1) := by decide +kernel
theorem dX5_control_32 : decode cX5_control 32 = .ok (.invokevirtual 195, 3) := by decide +kernel
theorem dX5_control_35 : decode cX5_control 35 = .ok (.ifCond .eq 21, 3) := by decide +kernel
theorem dX5_control_38 : decode cX5_control 38 = .ok (.aload_n 0, 1) := by decide +kernel
theorem dX5_control_39 : decode cX5_control 39 = .ok (.getfield 11, 3) := by decide +kernel
theorem dX5_control_42 : decode cX5_control 42 = .ok (.iload_n 3, 1) := by decide +kernel
theorem dX5_control_43 : decode cX5_control 43 = .ok (.aaload, 1) := by decide +kernel
theorem dX5_control_44 : decode cX5_control 44 = .ok (.aload_n 0, 1) := by decide +kernel
theorem dX5_control_45 : decode cX5_control 45 = .ok (.getfield 27, 3) := by decide +kernel
theorem dX5_control_48 : decode cX5_control 48 = .ok (.iconst 2, 1) := by decide +kernel
theorem dX5_control_49 : decode cX5_control 49 = .ok (.iaload, 1) := by decide +kernel
theorem dX5_control_50 : decode cX5_control 50 = .ok (.invokevirtual 199, 3) := by decide +kernel
theorem dX5_control_53 : decode cX5_control 53 = .ok (.goto 11, 3) := by decide +kernel
theorem dX5_control_56 : decode cX5_control 56 = .ok (.aload_n 0, 1) := by decide +kernel
theorem dX5_control_57 : decode cX5_control 57 = .ok (.aload_n 0, 1) := by decide +kernel
theorem dX5_control_58 : decode cX5_control 58 = .ok (.invokevirtual 202, 3) := by decide +kernel
theorem dX5_control_61 : decode cX5_control 61 = .ok (.putfield 97, 3) := by decide +kernel
theorem dX5_control_64 : decode cX5_control 64 = .ok (.goto 38, 3) := by decide +kernel
theorem dX5_control_67 : decode cX5_control 67 = .ok (.iload_n 2, 1) := by decide +kernel
theorem dX5_control_68 : decode cX5_control 68 = .ok (.iload_n 1, 1) := by decide +kernel
theorem dX5_control_69 : decode cX5_control 69 = .ok (.aload_n 0, 1) := by decide +kernel
theorem dX5_control_70 : decode cX5_control 70 = .ok (.getfield 27, 3) := by decide +kernel
theorem dX5_control_73 : decode cX5_control 73 = .ok (.iconst 1, 1) := by decide +kernel
theorem dX5_control_74 : decode cX5_control 74 = .ok (.iaload, 1) := by decide +kernel
theorem dX5_control_75 : decode cX5_control 75 = .ok (.iadd, 1) := by decide +kernel
theorem dX5_control_76 : decode cX5_control 76 = .ok (.if_icmp .le 26, 3) := by decide +kernel
theorem dX5_control_79 : decode cX5_control 79 = .ok (.aload_n 0, 1) := by decide +kernel
theorem dX5_control_80 : decode cX5_control 80 = .ok (.invokevirtual 205, 3) := by decide +kernel
theorem dX5_control_83 : decode cX5_control 83 = .ok (.istore_n 3, 1) := by decide +kernel
theorem dX5_control_84 : decode cX5_control 84 = .ok (.aload_n 0, 1) := by decide +kernel
theorem dX5_control_85 : decode cX5_control 85 = .ok (.iload_n 3, 1) := by decide +kernel
theorem dX5_control_86 : decode cX5_control 86 = .ok (.invokevirtual 195, 3) := by decide +kernel
theorem dX5_control_89 : decode cX5_control 89 = .ok (.ifCond .eq 13, 3) := by decide +kernel
theorem dX5_control_92 : decode cX5_control 92 = .ok (.aload_n 0, 1) := by decide +kernel
theorem dX5_control_93 : decode cX5_control 93 = .ok (.getfield 11, 3) := by decide +kernel
theorem dX5_control_96 : decode cX5_control 96 = .ok (.iload_n 3, 1) := by decide +kernel
theorem dX5_control_97 : decode cX5_control 97 = .ok (.aaload, 1) := by decide +kernel
theorem dX5_control_98 : decode cX5_control 98 = .ok (.iconst 3, 1) := by decide +kernel
theorem dX5_control_99 : decode cX5_control 99 = .ok (.invokevirtual 157, 3) := by decide +kernel
theorem dX5_control_102 : decode cX5_control 102 = .ok (.return_, 1) := by decide +kernel
theorem dX5_whyNoneStarts_0 : decode cX5_whyNoneStarts 0 = .ok (.iconst 3, 1) := by decide +kernel
theorem dX5_whyNoneStarts_1 : decode cX5_whyNoneStarts 1 = .ok (.istore_n 1, 1) := by decide +kernel
theorem dX5_whyNoneStarts_2 : decode cX5_whyNoneStarts 2 = .ok (.iconst 0, 1) := by decide +kernel
theorem dX5_whyNoneStarts_3 : decode cX5_whyNoneStarts 3 = .ok (.istore_n 2, 1) := by decide +kernel
theorem dX5_whyNoneStarts_4 : decode cX5_whyNoneStarts 4 = .ok (.iload_n 2, 1) := by decide +kernel
theorem dX5_whyNoneStarts_5 : decode cX5_whyNoneStarts 5 = .ok (.aload_n 0, 1) := by decide +kernel
theorem dX5_whyNoneStarts_6 : decode cX5_whyNoneStarts 6 = .ok (.getfield 57, 3) := by decide +kernel
theorem dX5_whyNoneStarts_9 : decode cX5_whyNoneStarts 9 = .ok (.if_icmp .ge 50, 3) := by decide +kernel
theorem dX5_whyNoneStarts_12 : decode cX5_whyNoneStarts 12 = .ok (.aload_n 0, 1) := by decide +kernel
theorem dX5_whyNoneStarts_13 : decode cX5_whyNoneStarts 13 = .ok (.getfield 11, 3) := by decide +kernel
theorem dX5_whyNoneStarts_16 : decode cX5_whyNoneStarts 16 = .ok (.iload_n 2, 1) := by decide +kernel
theorem dX5_whyNoneStarts_17 : decode cX5_whyNoneStarts 17 = .ok (.aaload, 1) := by decide +kernel
theorem dX5_whyNoneStarts_18 : decode cX5_whyNoneStarts 18 = .ok (.invokevirtual 146, 3) := by decide +kernel
theorem dX5_whyNoneStarts_21 : decode cX5_whyNoneStarts 21 = .ok (.ifCond .eq 32, 3) := by decide +kernel
theorem dX5_whyNoneStarts_24 : decode cX5_whyNoneStarts 24 = .ok (.iload_n 1, 1) := by decide +kernel
theorem dX5_whyNoneStarts_25 : decode cX5_whyNoneStarts 25 = .ok (.aload_n 0, 1) := by decide +kernel
theorem dX5_whyNoneStarts_26 : decode cX5_whyNoneStarts 26 = .ok (.aload_n 0, 1) := by decide +kernel
theorem dX5_whyNoneStarts_27 : decode cX5_whyNoneStarts 27 = .ok (.getfield 11, 3) := by decide +kernel
theorem dX5_whyNoneStarts_30 : decode cX5_whyNoneStarts 30 = .ok (.iload_n 2, 1) := by decide +kernel
theorem dX5_whyNoneStarts_31 : decode cX5_whyNoneStarts 31 = .ok (.aaload, 1) := by decide +kernel
theorem dX5_whyNoneStarts_32 : decode cX5_whyNoneStarts 32 = .ok (.getfield 113, 3) := by decide +kernel
theorem dX5_whyNoneStarts_35 : decode cX5_whyNoneStarts 35 = .ok (.invokevirtual 128, 3) := by decide +kernel
theorem dX5_whyNoneStarts_38 : decode cX5_whyNoneStarts 38 = .ok (.getfield 132, 3) := by decide +kernel
theorem dX5_whyNoneStarts_41 : decode cX5_whyNoneStarts 41 = .ok (.ifCond .eq 7, 3) := by decide +kernel
theorem dX5_whyNoneStarts_44 : decode cX5_whyNoneStarts 44 = .ok (.iconst 1, 1) := by decide +kernel
theorem dX5_whyNoneStarts_45 : decode cX5_whyNoneStarts 45 = .ok (.goto 4, 3) := by decide +kernel
theorem dX5_whyNoneStarts_48 : decode cX5_whyNoneStarts 48 = .ok (.iconst 2, 1) := by decide +kernel
theorem dX5_whyNoneStarts_49 : decode cX5_whyNoneStarts 49 = .ok (.invokestatic 51, 3) := by decide +kernel
theorem dX5_whyNoneStarts_52 : decode cX5_whyNoneStarts 52 = .ok (.istore_n 1, 1) := by decide +kernel
theorem dX5_whyNoneStarts_53 : decode cX5_whyNoneStarts 53 = .ok (.iinc 2 1, 3) := by decide +kernel
theorem dX5_whyNoneStarts_56 : decode cX5_whyNoneStarts 56 = .ok (.goto (-52), 3) := by decide +kernel
theorem dX5_whyNoneStarts_59 : decode cX5_whyNoneStarts 59 = .ok (.iload_n 1, 1) := by decide +kernel
theorem dX5_whyNoneStarts_60 : decode cX5_whyNoneStarts 60 = .ok (.ireturn, 1) := by decide +kernel
theorem dX5_powerOf_0 : decode cX5_powerOf 0 = .ok (.aload_n 0, 1) := by decide +kernel
theorem dX5_powerOf_1 : decode cX5_powerOf 1 = .ok (.iconst 0, 1) := by decide +kernel
theorem dX5_powerOf_2 : decode cX5_powerOf 2 = .ok (.iload_n 1, 1) := by decide +kernel
theorem dX5_powerOf_3 : decode cX5_powerOf 3 = .ok (.invokevirtual 208, 3) := by decide +kernel
theorem dX5_powerOf_6 : decode cX5_powerOf 6 = .ok (.aload_n 0, 1) := by decide +kernel
theorem dX5_powerOf_7 : decode cX5_powerOf 7 = .ok (.iconst 1, 1) := by decide +kernel
theorem dX5_powerOf_8 : decode cX5_powerOf 8 = .ok (.iload_n 1, 1) := by decide +kernel
theorem dX5_powerOf_9 : decode cX5_powerOf 9 = .ok (.invokevirtual 208, 3) := by decide +kernel
theorem dX5_powerOf_12 : decode cX5_powerOf 12 = .ok (.iadd, 1) := by decide +kernel
theorem dX5_powerOf_13 : decode cX5_powerOf 13 = .ok (.ireturn, 1) := by decide +kernel
theorem dX5_fitsDrafts_0 : decode cX5_fitsDrafts 0 = .ok (.aload_n 0, 1) := by decide +kernel
theorem dX5_fitsDrafts_1 : decode cX5_fitsDrafts 1 = .ok (.iconst 0, 1) := by decide +kernel
theorem dX5_fitsDrafts_2 : decode cX5_fitsDrafts 2 = .ok (.iload_n 1, 1) := by decide +kernel
theorem dX5_fitsDrafts_3 : decode cX5_fitsDrafts 3 = .ok (.invokevirtual 208, 3) := by decide +kernel
theorem dX5_fitsDrafts_6 : decode cX5_fitsDrafts 6 = .ok (.aload_n 0, 1) := by decide +kernel
theorem dX5_fitsDrafts_7 : decode cX5_fitsDrafts 7 = .ok (.getfield 20, 3) := by decide +kernel
theorem dX5_fitsDrafts_10 : decode cX5_fitsDrafts 10 = .ok (.getfield 140, 3) := by decide +kernel
theorem dX5_fitsDrafts_13 : decode cX5_fitsDrafts 13 = .ok (.if_icmp .gt 23, 3) := by decide +kernel
theorem dX5_fitsDrafts_16 : decode cX5_fitsDrafts 16 = .ok (.aload_n 0, 1) := by decide +kernel
theorem dX5_fitsDrafts_17 : decode cX5_fitsDrafts 17 = .ok (.iconst 1, 1) := by decide +kernel
theorem dX5_fitsDrafts_18 : decode cX5_fitsDrafts 18 = .ok (.iload_n 1, 1) := by decide +kernel
theorem dX5_fitsDrafts_19 : decode cX5_fitsDrafts 19 = .ok (.invokevirtual 208, 3) := by decide +kernel
theorem dX5_fitsDrafts_22 : decode cX5_fitsDrafts 22 = .ok (.aload_n 0, 1) := by decide +kernel
theorem dX5_fitsDrafts_23 : decode cX5_fitsDrafts 23 = .ok (.getfield 24, 3) := by decide +kernel
theorem dX5_fitsDrafts_26 : decode cX5_fitsDrafts 26 = .ok (.getfield 140, 3) := by decide +kernel
theorem dX5_fitsDrafts_29 : decode cX5_fitsDrafts 29 = .ok (.if_icmp .gt 7, 3) := by decide +kernel
theorem dX5_fitsDrafts_32 : decode cX5_fitsDrafts 32 = .ok (.iconst 1, 1) := by decide +kernel
theorem dX5_fitsDrafts_33 : decode cX5_fitsDrafts 33 = .ok (.goto 4, 3) := by decide +kernel
theorem dX5_fitsDrafts_36 : decode cX5_fitsDrafts 36 = .ok (.iconst 0, 1) := by decide +kernel
theorem dX5_fitsDrafts_37 : decode cX5_fitsDrafts 37 = .ok (.ireturn, 1) := by decide +kernel
theorem dX5_isSmallerSet_0 : decode cX5_isSmallerSet 0 = .ok (.iload_n 1, 1) := by decide +kernel
theorem dX5_isSmallerSet_1 : decode cX5_isSmallerSet 1 = .ok (.invokestatic 211, 3) := by decide +kernel
theorem dX5_isSmallerSet_4 : decode cX5_isSmallerSet 4 = .ok (.istore_n 3, 1) := by decide +kernel
theorem dX5_isSmallerSet_5 : decode cX5_isSmallerSet 5 = .ok (.iload_n 2, 1) := by decide +kernel
theorem dX5_isSmallerSet_6 : decode cX5_isSmallerSet 6 = .ok (.invokestatic 211, 3) := by decide +kernel
theorem dX5_isSmallerSet_9 : decode cX5_isSmallerSet 9 = .ok (.istore 4, 2) := by decide +kernel
theorem dX5_isSmallerSet_11 : decode cX5_isSmallerSet 11 = .ok (.iload_n 3, 1) := by decide +kernel
theorem dX5_isSmallerSet_12 : decode cX5_isSmallerSet 12 = .ok (.iload 4, 2) := by decide +kernel
theorem dX5_isSmallerSet_14 : decode cX5_isSmallerSet 14 = .ok (.if_icmp .lt 22, 3) := by decide +kernel
theorem dX5_isSmallerSet_17 : decode cX5_isSmallerSet 17 = .ok (.iload_n 3, 1) := by decide +kernel
theorem dX5_isSmallerSet_18 : decode cX5_isSmallerSet 18 = .ok (.iload 4, 2) := by decide +kernel
theorem dX5_isSmallerSet_20 : decode cX5_isSmallerSet 20 = .ok (.if_icmp .ne 20, 3) := by decide +kernel
theorem dX5_isSmallerSet_23 : decode cX5_isSmallerSet 23 = .ok (.aload_n 0, 1) := by decide +kernel
theorem dX5_isSmallerSet_24 : decode cX5_isSmallerSet 24 = .ok (.iload_n 1, 1) := by decide +kernel
theorem dX5_isSmallerSet_25 : decode cX5_isSmallerSet 25 = .ok (.invokevirtual 214, 3) := by decide +kernel
theorem dX5_isSmallerSet_28 : decode cX5_isSmallerSet 28 = .ok (.aload_n 0, 1) := by decide +kernel
theorem dX5_isSmallerSet_29 : decode cX5_isSmallerSet 29 = .ok (.iload_n 2, 1) := by decide +kernel
theorem dX5_isSmallerSet_30 : decode cX5_isSmallerSet 30 = .ok (.invokevirtual 214, 3) := by decide +kernel
theorem dX5_isSmallerSet_33 : decode cX5_isSmallerSet 33 = .ok (.if_icmp .ge 7, 3) := by decide +kernel
theorem dX5_isSmallerSet_36 : decode cX5_isSmallerSet 36 = .ok (.iconst 1, 1) := by decide +kernel
theorem dX5_isSmallerSet_37 : decode cX5_isSmallerSet 37 = .ok (.goto 4, 3) := by decide +kernel
theorem dX5_isSmallerSet_40 : decode cX5_isSmallerSet 40 = .ok (.iconst 0, 1) := by decide +kernel
theorem dX5_isSmallerSet_41 : decode cX5_isSmallerSet 41 = .ok (.ireturn, 1) := by decide +kernel
theorem dX5_powerAt_0 : decode cX5_powerAt 0 = .ok (.iconst 0, 1) := by decide +kernel
theorem dX5_powerAt_1 : decode cX5_powerAt 1 = .ok (.istore_n 3, 1) := by decide +kernel
theorem dX5_powerAt_2 : decode cX5_powerAt 2 = .ok (.iconst 0, 1) := by decide +kernel
theorem dX5_powerAt_3 : decode cX5_powerAt 3 = .ok (.istore 4, 2) := by decide +kernel
theorem dX5_powerAt_5 : decode cX5_powerAt 5 = .ok (.iload 4, 2) := by decide +kernel
theorem dX5_powerAt_7 : decode cX5_powerAt 7 = .ok (.aload_n 0, 1) := by decide +kernel
theorem dX5_powerAt_8 : decode cX5_powerAt 8 = .ok (.getfield 57, 3) := by decide +kernel
theorem dX5_powerAt_11 : decode cX5_powerAt 11 = .ok (.if_icmp .ge 46, 3) := by decide +kernel
theorem dX5_powerAt_14 : decode cX5_powerAt 14 = .ok (.iload_n 2, 1) := by decide +kernel
theorem dX5_powerAt_15 : decode cX5_powerAt 15 = .ok (.iload 4, 2) := by decide +kernel
theorem dX5_powerAt_17 : decode cX5_powerAt 17 = .ok (.ishr, 1) := by decide +kernel
theorem dX5_powerAt_18 : decode cX5_powerAt 18 = .ok (.iconst 1, 1) := by decide +kernel
theorem dX5_powerAt_19 : decode cX5_powerAt 19 = .ok (.iand, 1) := by decide +kernel
theorem dX5_powerAt_20 : decode cX5_powerAt 20 = .ok (.iconst 1, 1) := by decide +kernel
theorem dX5_powerAt_21 : decode cX5_powerAt 21 = .ok (.if_icmp .ne 30, 3) := by decide +kernel
theorem dX5_powerAt_24 : decode cX5_powerAt 24 = .ok (.aload_n 0, 1) := by decide +kernel
theorem dX5_powerAt_25 : decode cX5_powerAt 25 = .ok (.getfield 11, 3) := by decide +kernel
theorem dX5_powerAt_28 : decode cX5_powerAt 28 = .ok (.iload 4, 2) := by decide +kernel
theorem dX5_powerAt_30 : decode cX5_powerAt 30 = .ok (.aaload, 1) := by decide +kernel
theorem dX5_powerAt_31 : decode cX5_powerAt 31 = .ok (.getfield 113, 3) := by decide +kernel
theorem dX5_powerAt_34 : decode cX5_powerAt 34 = .ok (.iload_n 1, 1) := by decide +kernel
theorem dX5_powerAt_35 : decode cX5_powerAt 35 = .ok (.if_icmp .ne 16, 3) := by decide +kernel
theorem dX5_powerAt_38 : decode cX5_powerAt 38 = .ok (.iload_n 3, 1) := by decide +kernel
theorem dX5_powerAt_39 : decode cX5_powerAt 39 = .ok (.aload_n 0, 1) := by decide +kernel
theorem dX5_powerAt_40 : decode cX5_powerAt 40 = .ok (.getfield 11, 3) := by decide +kernel
theorem dX5_powerAt_43 : decode cX5_powerAt 43 = .ok (.iload 4, 2) := by decide +kernel
theorem dX5_powerAt_45 : decode cX5_powerAt 45 = .ok (.aaload, 1) := by decide +kernel
theorem dX5_powerAt_46 : decode cX5_powerAt 46 = .ok (.getfield 119, 3) := by decide +kernel
theorem dX5_powerAt_49 : decode cX5_powerAt 49 = .ok (.iadd, 1) := by decide +kernel
theorem dX5_powerAt_50 : decode cX5_powerAt 50 = .ok (.istore_n 3, 1) := by decide +kernel
theorem dX5_powerAt_51 : decode cX5_powerAt 51 = .ok (.iinc 4 1, 3) := by decide +kernel
theorem dX5_powerAt_54 : decode cX5_powerAt 54 = .ok (.goto (-49), 3) := by decide +kernel
theorem dX5_powerAt_57 : decode cX5_powerAt 57 = .ok (.iload_n 3, 1) := by decide +kernel
theorem dX5_powerAt_58 : decode cX5_powerAt 58 = .ok (.ireturn, 1) := by decide +kernel
theorem dX6_init_0 : decode cX6_init 0 = .ok (.aload_n 0, 1) := by decide +kernel
theorem dX6_init_1 : decode cX6_init 1 = .ok (.invokespecial 1, 3) := by decide +kernel
theorem dX6_init_4 : decode cX6_init 4 = .ok (.aload_n 0, 1) := by decide +kernel
theorem dX6_init_5 : decode cX6_init 5 = .ok (.new 7, 3) := by decide +kernel
theorem dX6_init_8 : decode cX6_init 8 = .ok (.dup, 1) := by decide +kernel
theorem dX6_init_9 : decode cX6_init 9 = .ok (.invokespecial 9, 3) := by decide +kernel
theorem dX6_init_12 : decode cX6_init 12 = .ok (.putfield 10, 3) := by decide +kernel
theorem dX6_init_15 : decode cX6_init 15 = .ok (.return_, 1) := by decide +kernel
theorem dX7_init_0 : decode cX7_init 0 = .ok (.aload_n 0, 1) := by decide +kernel
theorem dX7_init_1 : decode cX7_init 1 = .ok (.invokespecial 3, 3) := by decide +kernel
theorem dX7_init_4 : decode cX7_init 4 = .ok (.aload_n 0, 1) := by decide +kernel
theorem dX7_init_5 : decode cX7_init 5 = .ok (.bipush 8, 2) := by decide +kernel
theorem dX7_init_7 : decode cX7_init 7 = .ok (.newarray .int, 2) := by decide +kernel
theorem dX7_init_9 : decode cX7_init 9 = .ok (.putfield 9, 3) := by decide +kernel
theorem dX7_init_12 : decode cX7_init 12 = .ok (.return_, 1) := by decide +kernel
theorem dX7_beginAs_0 : decode cX7_beginAs 0 = .ok (.aload_n 0, 1) := by decide +kernel
theorem dX7_beginAs_1 : decode cX7_beginAs 1 = .ok (.iload_n 1, 1) := by decide +kernel
theorem dX7_beginAs_2 : decode cX7_beginAs 2 = .ok (.aload_n 0, 1) := by decide +kernel
theorem dX7_beginAs_3 : decode cX7_beginAs 3 = .ok (.getfield 9, 3) := by decide +kernel
theorem dX7_beginAs_6 : decode cX7_beginAs 6 = .ok (.arraylength, 1) := by decide +kernel
theorem dX7_beginAs_7 : decode cX7_beginAs 7 = .ok (.aload_n 2, 1) := by decide +kernel
theorem dX7_beginAs_8 : decode cX7_beginAs 8 = .ok (.arraylength, 1) := by decide +kernel
theorem dX7_beginAs_9 : decode cX7_beginAs 9 = .ok (.invokestatic 15, 3) := by decide +kernel
theorem dX7_beginAs_12 : decode cX7_beginAs 12 = .ok (.invokestatic 15, 3) := by decide +kernel
theorem dX7_beginAs_15 : decode cX7_beginAs 15 = .ok (.putfield 21, 3) := by decide +kernel
theorem dX7_beginAs_18 : decode cX7_beginAs 18 = .ok (.iconst 0, 1) := by decide +kernel
theorem dX7_beginAs_19 : decode cX7_beginAs 19 = .ok (.istore_n 3, 1) := by decide +kernel
theorem dX7_beginAs_20 : decode cX7_beginAs 20 = .ok (.iload_n 3, 1) := by decide +kernel
theorem dX7_beginAs_21 : decode cX7_beginAs 21 = .ok (.aload_n 0, 1) := by decide +kernel
theorem dX7_beginAs_22 : decode cX7_beginAs 22 = .ok (.getfield 21, 3) := by decide +kernel
theorem dX7_beginAs_25 : decode cX7_beginAs 25 = .ok (.if_icmp .ge 18, 3) := by decide +kernel
theorem dX7_beginAs_28 : decode cX7_beginAs 28 = .ok (.aload_n 0, 1) := by decide +kernel
theorem dX7_beginAs_29 : decode cX7_beginAs 29 = .ok (.getfield 9, 3) := by decide +kernel
theorem dX7_beginAs_32 : decode cX7_beginAs 32 = .ok (.iload_n 3, 1) := by decide +kernel
theorem dX7_beginAs_33 : decode cX7_beginAs 33 = .ok (.aload_n 2, 1) := by decide +kernel
theorem dX7_beginAs_34 : decode cX7_beginAs 34 = .ok (.iload_n 3, 1) := by decide +kernel
theorem dX7_beginAs_35 : decode cX7_beginAs 35 = .ok (.iaload, 1) := by decide +kernel
theorem dX7_beginAs_36 : decode cX7_beginAs 36 = .ok (.iastore, 1) := by decide +kernel
theorem dX7_beginAs_37 : decode cX7_beginAs 37 = .ok (.iinc 3 1, 3) := by decide +kernel
theorem dX7_beginAs_40 : decode cX7_beginAs 40 = .ok (.goto (-20), 3) := by decide +kernel
theorem dX7_beginAs_43 : decode cX7_beginAs 43 = .ok (.aload_n 0, 1) := by decide +kernel
theorem dX7_beginAs_44 : decode cX7_beginAs 44 = .ok (.iconst 0, 1) := by decide +kernel
theorem dX7_beginAs_45 : decode cX7_beginAs 45 = .ok (.putfield 25, 3) := by decide +kernel
theorem dX7_beginAs_48 : decode cX7_beginAs 48 = .ok (.aload_n 0, 1) := by decide +kernel
theorem dX7_beginAs_49 : decode cX7_beginAs 49 = .ok (.iconst 0, 1) := by decide +kernel
theorem dX7_beginAs_50 : decode cX7_beginAs 50 = .ok (.putfield 28, 3) := by decide +kernel
theorem dX7_beginAs_53 : decode cX7_beginAs 53 = .ok (.aload_n 0, 1) := by decide +kernel
theorem dX7_beginAs_54 : decode cX7_beginAs 54 = .ok (.iconst 0, 1) := by decide +kernel
theorem dX7_beginAs_55 : decode cX7_beginAs 55 = .ok (.putfield 31, 3) := by decide +kernel
theorem dX7_beginAs_58 : decode cX7_beginAs 58 = .ok (.aload_n 0, 1) := by decide +kernel
theorem dX7_beginAs_59 : decode cX7_beginAs 59 = .ok (.iconst 0, 1) := by decide +kernel
theorem dX7_beginAs_60 : decode cX7_beginAs 60 = .ok (.putfield 34, 3) := by decide +kernel
theorem dX7_beginAs_63 : decode cX7_beginAs 63 = .ok (.aload_n 0, 1) := by decide +kernel
theorem dX7_beginAs_64 : decode cX7_beginAs 64 = .ok (.iconst 0, 1) := by decide +kernel
theorem dX7_beginAs_65 : decode cX7_beginAs 65 = .ok (.putfield 37, 3) := by decide +kernel
theorem dX7_beginAs_68 : decode cX7_beginAs 68 = .ok (.return_, 1) := by decide +kernel
theorem dX7_copyFrom_0 : decode cX7_copyFrom 0 = .ok (.aload_n 0, 1) := by decide +kernel
theorem dX7_copyFrom_1 : decode cX7_copyFrom 1 = .ok (.aload_n 1, 1) := by decide +kernel
theorem dX7_copyFrom_2 : decode cX7_copyFrom 2 = .ok (.getfield 21, 3) := by decide +kernel
theorem dX7_copyFrom_5 : decode cX7_copyFrom 5 = .ok (.putfield 21, 3) := by decide +kernel
theorem dX7_copyFrom_8 : decode cX7_copyFrom 8 = .ok (.iconst 0, 1) := by decide +kernel
theorem dX7_copyFrom_9 : decode cX7_copyFrom 9 = .ok (.istore_n 2, 1) := by decide +kernel
theorem dX7_copyFrom_10 : decode cX7_copyFrom 10 = .ok (.iload_n 2, 1) := by decide +kernel
theorem dX7_copyFrom_11 : decode cX7_copyFrom 11 = .ok (.aload_n 0, 1) := by decide +kernel
theorem dX7_copyFrom_12 : decode cX7_copyFrom 12 = .ok (.getfield 21, 3) := by decide +kernel
theorem dX7_copyFrom_15 : decode cX7_copyFrom 15 = .ok (.if_icmp .ge 21, 3) := by decide +kernel
theorem dX7_copyFrom_18 : decode cX7_copyFrom 18 = .ok (.aload_n 0, 1) := by decide +kernel
theorem dX7_copyFrom_19 : decode cX7_copyFrom 19 = .ok (.getfield 9, 3) := by decide +kernel
theorem dX7_copyFrom_22 : decode cX7_copyFrom 22 = .ok (.iload_n 2, 1) := by decide +kernel
theorem dX7_copyFrom_23 : decode cX7_copyFrom 23 = .ok (.aload_n 1, 1) := by decide +kernel
theorem dX7_copyFrom_24 : decode cX7_copyFrom 24 = .ok (.getfield 9, 3) := by decide +kernel
theorem dX7_copyFrom_27 : decode cX7_copyFrom 27 = .ok (.iload_n 2, 1) := by decide +kernel
theorem dX7_copyFrom_28 : decode cX7_copyFrom 28 = .ok (.iaload, 1) := by decide +kernel
theorem dX7_copyFrom_29 : decode cX7_copyFrom 29 = .ok (.iastore, 1) := by decide +kernel
theorem dX7_copyFrom_30 : decode cX7_copyFrom 30 = .ok (.iinc 2 1, 3) := by decide +kernel
theorem dX7_copyFrom_33 : decode cX7_copyFrom 33 = .ok (.goto (-23), 3) := by decide +kernel
theorem dX7_copyFrom_36 : decode cX7_copyFrom 36 = .ok (.aload_n 0, 1) := by decide +kernel
theorem dX7_copyFrom_37 : decode cX7_copyFrom 37 = .ok (.aload_n 1, 1) := by decide +kernel
theorem dX7_copyFrom_38 : decode cX7_copyFrom 38 = .ok (.getfield 25, 3) := by decide +kernel
theorem dX7_copyFrom_41 : decode cX7_copyFrom 41 = .ok (.putfield 25, 3) := by decide +kernel
theorem dX7_copyFrom_44 : decode cX7_copyFrom 44 = .ok (.aload_n 0, 1) := by decide +kernel
theorem dX7_copyFrom_45 : decode cX7_copyFrom 45 = .ok (.aload_n 1, 1) := by decide +kernel
theorem dX7_copyFrom_46 : decode cX7_copyFrom 46 = .ok (.getfield 28, 3) := by decide +kernel
theorem dX7_copyFrom_49 : decode cX7_copyFrom 49 = .ok (.putfield 28, 3) := by decide +kernel
theorem dX7_copyFrom_52 : decode cX7_copyFrom 52 = .ok (.aload_n 0, 1) := by decide +kernel
theorem dX7_copyFrom_53 : decode cX7_copyFrom 53 = .ok (.aload_n 1, 1) := by decide +kernel
theorem dX7_copyFrom_54 : decode cX7_copyFrom 54 = .ok (.getfield 31, 3) := by decide +kernel
theorem dX7_copyFrom_57 : decode cX7_copyFrom 57 = .ok (.putfield 31, 3) := by decide +kernel
theorem dX7_copyFrom_60 : decode cX7_copyFrom 60 = .ok (.aload_n 0, 1) := by decide +kernel
theorem dX7_copyFrom_61 : decode cX7_copyFrom 61 = .ok (.aload_n 1, 1) := by decide +kernel
theorem dX7_copyFrom_62 : decode cX7_copyFrom 62 = .ok (.getfield 34, 3) := by decide +kernel
theorem dX7_copyFrom_65 : decode cX7_copyFrom 65 = .ok (.putfield 34, 3) := by decide +kernel
theorem dX7_copyFrom_68 : decode cX7_copyFrom 68 = .ok (.aload_n 0, 1) := by decide +kernel
theorem dX7_copyFrom_69 : decode cX7_copyFrom 69 = .ok (.aload_n 1, 1) := by decide +kernel
theorem dX7_copyFrom_70 : decode cX7_copyFrom 70 = .ok (.getfield 37, 3) := by decide +kernel
theorem dX7_copyFrom_73 : decode cX7_copyFrom 73 = .ok (.putfield 37, 3) := by decide +kernel
theorem dX7_copyFrom_76 : decode cX7_copyFrom 76 = .ok (.return_, 1) := by decide +kernel
theorem dX7_mean_0 : decode cX7_mean 0 = .ok (.iconst 0, 1) := by decide +kernel
theorem dX7_mean_1 : decode cX7_mean 1 = .ok (.istore_n 1, 1) := by decide +kernel
theorem dX7_mean_2 : decode cX7_mean 2 = .ok (.iconst 0, 1) := by decide +kernel
theorem dX7_mean_3 : decode cX7_mean 3 = .ok (.istore_n 2, 1) := by decide +kernel
theorem dX7_mean_4 : decode cX7_mean 4 = .ok (.iload_n 2, 1) := by decide +kernel
theorem dX7_mean_5 : decode cX7_mean 5 = .ok (.aload_n 0, 1) := by decide +kernel
theorem dX7_mean_6 : decode cX7_mean 6 = .ok (.getfield 21, 3) := by decide +kernel
theorem dX7_mean_9 : decode cX7_mean 9 = .ok (.if_icmp .ge 18, 3) := by decide +kernel
theorem dX7_mean_12 : decode cX7_mean 12 = .ok (.iload_n 1, 1) := by decide +kernel
theorem dX7_mean_13 : decode cX7_mean 13 = .ok (.aload_n 0, 1) := by decide +kernel
theorem dX7_mean_14 : decode cX7_mean 14 = .ok (.getfield 9, 3) := by decide +kernel
theorem dX7_mean_17 : decode cX7_mean 17 = .ok (.iload_n 2, 1) := by decide +kernel
theorem dX7_mean_18 : decode cX7_mean 18 = .ok (.iaload, 1) := by decide +kernel
theorem dX7_mean_19 : decode cX7_mean 19 = .ok (.iadd, 1) := by decide +kernel
theorem dX7_mean_20 : decode cX7_mean 20 = .ok (.istore_n 1, 1) := by decide +kernel
theorem dX7_mean_21 : decode cX7_mean 21 = .ok (.iinc 2 1, 3) := by decide +kernel
theorem dX7_mean_24 : decode cX7_mean 24 = .ok (.goto (-20), 3) := by decide +kernel
theorem dX7_mean_27 : decode cX7_mean 27 = .ok (.aload_n 0, 1) := by decide +kernel
theorem dX7_mean_28 : decode cX7_mean 28 = .ok (.getfield 21, 3) := by decide +kernel
theorem dX7_mean_31 : decode cX7_mean 31 = .ok (.ifCond .le 12, 3) := by decide +kernel
theorem dX7_mean_34 : decode cX7_mean 34 = .ok (.iload_n 1, 1) := by decide +kernel
theorem dX7_mean_35 : decode cX7_mean 35 = .ok (.aload_n 0, 1) := by decide +kernel
theorem dX7_mean_36 : decode cX7_mean 36 = .ok (.getfield 21, 3) := by decide +kernel
theorem dX7_mean_39 : decode cX7_mean 39 = .ok (.idiv, 1) := by decide +kernel
theorem dX7_mean_40 : decode cX7_mean 40 = .ok (.goto 4, 3) := by decide +kernel
theorem dX7_mean_43 : decode cX7_mean 43 = .ok (.iconst 0, 1) := by decide +kernel
theorem dX7_mean_44 : decode cX7_mean 44 = .ok (.ireturn, 1) := by decide +kernel
theorem dX7_highest_0 : decode cX7_highest 0 = .ok (.aload_n 0, 1) := by decide +kernel
theorem dX7_highest_1 : decode cX7_highest 1 = .ok (.getfield 21, 3) := by decide +kernel
theorem dX7_highest_4 : decode cX7_highest 4 = .ok (.ifCond .le 17, 3) := by decide +kernel
theorem dX7_highest_7 : decode cX7_highest 7 = .ok (.aload_n 0, 1) := by decide +kernel
theorem dX7_highest_8 : decode cX7_highest 8 = .ok (.getfield 9, 3) := by decide +kernel
theorem dX7_highest_11 : decode cX7_highest 11 = .ok (.aload_n 0, 1) := by decide +kernel
theorem dX7_highest_12 : decode cX7_highest 12 = .ok (.getfield 21, 3) := by decide +kernel
theorem dX7_highest_15 : decode cX7_highest 15 = .ok (.iconst 1, 1) := by decide +kernel
theorem dX7_highest_16 : decode cX7_highest 16 = .ok (.isub, 1) := by decide +kernel
theorem dX7_highest_17 : decode cX7_highest 17 = .ok (.iaload, 1) := by decide +kernel
theorem dX7_highest_18 : decode cX7_highest 18 = .ok (.goto 4, 3) := by decide +kernel
theorem dX7_highest_21 : decode cX7_highest 21 = .ok (.iconst 0, 1) := by decide +kernel
theorem dX7_highest_22 : decode cX7_highest 22 = .ok (.ireturn, 1) := by decide +kernel
theorem dX7_coldest_0 : decode cX7_coldest 0 = .ok (.bipush 99, 2) := by decide +kernel
theorem dX7_coldest_2 : decode cX7_coldest 2 = .ok (.istore_n 1, 1) := by decide +kernel
theorem dX7_coldest_3 : decode cX7_coldest 3 = .ok (.iconst 0, 1) := by decide +kernel
theorem dX7_coldest_4 : decode cX7_coldest 4 = .ok (.istore_n 2, 1) := by decide +kernel
theorem dX7_coldest_5 : decode cX7_coldest 5 = .ok (.iload_n 2, 1) := by decide +kernel
theorem dX7_coldest_6 : decode cX7_coldest 6 = .ok (.aload_n 0, 1) := by decide +kernel
theorem dX7_coldest_7 : decode cX7_coldest 7 = .ok (.getfield 21, 3) := by decide +kernel
theorem dX7_coldest_10 : decode cX7_coldest 10 = .ok (.if_icmp .ge 20, 3) := by decide +kernel
theorem dX7_coldest_13 : decode cX7_coldest 13 = .ok (.iload_n 1, 1) := by decide +kernel
theorem dX7_coldest_14 : decode cX7_coldest 14 = .ok (.aload_n 0, 1) := by decide +kernel
theorem dX7_coldest_15 : decode cX7_coldest 15 = .ok (.getfield 9, 3) := by decide +kernel
theorem dX7_coldest_18 : decode cX7_coldest 18 = .ok (.iload_n 2, 1) := by decide +kernel
theorem dX7_coldest_19 : decode cX7_coldest 19 = .ok (.iaload, 1) := by decide +kernel
theorem dX7_coldest_20 : decode cX7_coldest 20 = .ok (.invokestatic 15, 3) := by decide +kernel
theorem dX7_coldest_23 : decode cX7_coldest 23 = .ok (.istore_n 1, 1) := by decide +kernel
theorem dX7_coldest_24 : decode cX7_coldest 24 = .ok (.iinc 2 1, 3) := by decide +kernel
theorem dX7_coldest_27 : decode cX7_coldest 27 = .ok (.goto (-22), 3) := by decide +kernel
theorem dX7_coldest_30 : decode cX7_coldest 30 = .ok (.iload_n 1, 1) := by decide +kernel
theorem dX7_coldest_31 : decode cX7_coldest 31 = .ok (.ireturn, 1) := by decide +kernel
theorem dX7_deliver_0 : decode cX7_deliver 0 = .ok (.iconst 0, 1) := by decide +kernel
theorem dX7_deliver_1 : decode cX7_deliver 1 = .ok (.istore_n 2, 1) := by decide +kernel
theorem dX7_deliver_2 : decode cX7_deliver 2 = .ok (.iconst 0, 1) := by decide +kernel
theorem dX7_deliver_3 : decode cX7_deliver 3 = .ok (.istore_n 3, 1) := by decide +kernel
theorem dX7_deliver_4 : decode cX7_deliver 4 = .ok (.iload_n 3, 1) := by decide +kernel
theorem dX7_deliver_5 : decode cX7_deliver 5 = .ok (.iload_n 1, 1) := by decide +kernel
theorem dX7_deliver_6 : decode cX7_deliver 6 = .ok (.if_icmp .ge 80, 3) := by decide +kernel
theorem dX7_deliver_9 : decode cX7_deliver 9 = .ok (.iload_n 2, 1) := by decide +kernel
theorem dX7_deliver_10 : decode cX7_deliver 10 = .ok (.aload_n 0, 1) := by decide +kernel
theorem dX7_deliver_11 : decode cX7_deliver 11 = .ok (.invokevirtual 40, 3) := by decide +kernel
theorem dX7_deliver_14 : decode cX7_deliver 14 = .ok (.iadd, 1) := by decide +kernel
theorem dX7_deliver_15 : decode cX7_deliver 15 = .ok (.istore_n 2, 1) := by decide +kernel
theorem dX7_deliver_16 : decode cX7_deliver 16 = .ok (.aload_n 0, 1) := by decide +kernel
theorem dX7_deliver_17 : decode cX7_deliver 17 = .ok (.getfield 21, 3) := by decide +kernel
theorem dX7_deliver_20 : decode cX7_deliver 20 = .ok (.iconst 1, 1) := by decide +kernel
theorem dX7_deliver_21 : decode cX7_deliver 21 = .ok (.isub, 1) := by decide +kernel
theorem dX7_deliver_22 : decode cX7_deliver 22 = .ok (.istore 4, 2) := by decide +kernel
theorem dX7_deliver_24 : decode cX7_deliver 24 = .ok (.iload 4, 2) := by decide +kernel
theorem dX7_deliver_26 : decode cX7_deliver 26 = .ok (.ifCond .le 25, 3) := by decide +kernel
theorem dX7_deliver_29 : decode cX7_deliver 29 = .ok (.aload_n 0, 1) := by decide +kernel
theorem dX7_deliver_30 : decode cX7_deliver 30 = .ok (.getfield 9, 3) := by decide +kernel
theorem dX7_deliver_33 : decode cX7_deliver 33 = .ok (.iload 4, 2) := by decide +kernel
theorem dX7_deliver_35 : decode cX7_deliver 35 = .ok (.aload_n 0, 1) := by decide +kernel
theorem dX7_deliver_36 : decode cX7_deliver 36 = .ok (.getfield 9, 3) := by decide +kernel
theorem dX7_deliver_39 : decode cX7_deliver 39 = .ok (.iload 4, 2) := by decide +kernel
theorem dX7_deliver_41 : decode cX7_deliver 41 = .ok (.iconst 1, 1) := by decide +kernel
theorem dX7_deliver_42 : decode cX7_deliver 42 = .ok (.isub, 1) := by decide +kernel
theorem dX7_deliver_43 : decode cX7_deliver 43 = .ok (.iaload, 1) := by decide +kernel
theorem dX7_deliver_44 : decode cX7_deliver 44 = .ok (.iastore, 1) := by decide +kernel
theorem dX7_deliver_45 : decode cX7_deliver 45 = .ok (.iinc 4 (-1), 3) := by decide +kernel
theorem dX7_deliver_48 : decode cX7_deliver 48 = .ok (.goto (-24), 3) := by decide +kernel
theorem dX7_deliver_51 : decode cX7_deliver 51 = .ok (.aload_n 0, 1) := by decide +kernel
theorem dX7_deliver_52 : decode cX7_deliver 52 = .ok (.getfield 9, 3) := by decide +kernel
theorem dX7_deliver_55 : decode cX7_deliver 55 = .ok (.iconst 0, 1) := by decide +kernel
theorem dX7_deliver_56 : decode cX7_deliver 56 = .ok (.bipush 10, 2) := by decide +kernel
theorem dX7_deliver_58 : decode cX7_deliver 58 = .ok (.iastore, 1) := by decide +kernel
theorem dX7_deliver_59 : decode cX7_deliver 59 = .ok (.aload_n 0, 1) := by decide +kernel
theorem dX7_deliver_60 : decode cX7_deliver 60 = .ok (.dup, 1) := by decide +kernel
theorem dX7_deliver_61 : decode cX7_deliver 61 = .ok (.getfield 28, 3) := by decide +kernel
theorem dX7_deliver_64 : decode cX7_deliver 64 = .ok (.bipush 10, 2) := by decide +kernel
theorem dX7_deliver_66 : decode cX7_deliver 66 = .ok (.iadd, 1) := by decide +kernel
theorem dX7_deliver_67 : decode cX7_deliver 67 = .ok (.putfield 28, 3) := by decide +kernel
theorem dX7_deliver_70 : decode cX7_deliver 70 = .ok (.aload_n 0, 1) := by decide +kernel
theorem dX7_deliver_71 : decode cX7_deliver 71 = .ok (.dup, 1) := by decide +kernel
theorem dX7_deliver_72 : decode cX7_deliver 72 = .ok (.getfield 37, 3) := by decide +kernel
theorem dX7_deliver_75 : decode cX7_deliver 75 = .ok (.iconst 1, 1) := by decide +kernel
theorem dX7_deliver_76 : decode cX7_deliver 76 = .ok (.iadd, 1) := by decide +kernel
theorem dX7_deliver_77 : decode cX7_deliver 77 = .ok (.putfield 37, 3) := by decide +kernel
theorem dX7_deliver_80 : decode cX7_deliver 80 = .ok (.iinc 3 1, 3) := by decide +kernel
theorem dX7_deliver_83 : decode cX7_deliver 83 = .ok (.goto (-79), 3) := by decide +kernel
theorem dX7_deliver_86 : decode cX7_deliver 86 = .ok (.aload_n 0, 1) := by decide +kernel
theorem dX7_deliver_87 : decode cX7_deliver 87 = .ok (.dup, 1) := by decide +kernel
theorem dX7_deliver_88 : decode cX7_deliver 88 = .ok (.getfield 31, 3) := by decide +kernel
theorem dX7_deliver_91 : decode cX7_deliver 91 = .ok (.iload_n 2, 1) := by decide +kernel
theorem dX7_deliver_92 : decode cX7_deliver 92 = .ok (.iadd, 1) := by decide +kernel
theorem dX7_deliver_93 : decode cX7_deliver 93 = .ok (.putfield 31, 3) := by decide +kernel
theorem dX7_deliver_96 : decode cX7_deliver 96 = .ok (.iload_n 2, 1) := by decide +kernel
theorem dX7_deliver_97 : decode cX7_deliver 97 = .ok (.ireturn, 1) := by decide +kernel
theorem dX7_warm_0 : decode cX7_warm 0 = .ok (.iload_n 1, 1) := by decide +kernel
theorem dX7_warm_1 : decode cX7_warm 1 = .ok (.istore_n 2, 1) := by decide +kernel
theorem dX7_warm_2 : decode cX7_warm 2 = .ok (.aload_n 0, 1) := by decide +kernel
theorem dX7_warm_3 : decode cX7_warm 3 = .ok (.invokevirtual 44, 3) := by decide +kernel
theorem dX7_warm_6 : decode cX7_warm 6 = .ok (.istore_n 3, 1) := by decide +kernel
theorem dX7_warm_7 : decode cX7_warm 7 = .ok (.iload_n 3, 1) := by decide +kernel
theorem dX7_warm_8 : decode cX7_warm 8 = .ok (.bipush 99, 2) := by decide +kernel
theorem dX7_warm_10 : decode cX7_warm 10 = .ok (.if_icmp .ge 60, 3) := by decide +kernel
theorem dX7_warm_13 : decode cX7_warm 13 = .ok (.iload_n 2, 1) := by decide +kernel
theorem dX7_warm_14 : decode cX7_warm 14 = .ok (.ifCond .le 56, 3) := by decide +kernel
theorem dX7_warm_17 : decode cX7_warm 17 = .ok (.iconst 0, 1) := by decide +kernel
theorem dX7_warm_18 : decode cX7_warm 18 = .ok (.istore 4, 2) := by decide +kernel
theorem dX7_warm_20 : decode cX7_warm 20 = .ok (.iload 4, 2) := by decide +kernel
theorem dX7_warm_22 : decode cX7_warm 22 = .ok (.aload_n 0, 1) := by decide +kernel
theorem dX7_warm_23 : decode cX7_warm 23 = .ok (.getfield 21, 3) := by decide +kernel
theorem dX7_warm_26 : decode cX7_warm 26 = .ok (.if_icmp .ge 38, 3) := by decide +kernel
theorem dX7_warm_29 : decode cX7_warm 29 = .ok (.iload_n 2, 1) := by decide +kernel
theorem dX7_warm_30 : decode cX7_warm 30 = .ok (.ifCond .le 34, 3) := by decide +kernel
theorem dX7_warm_33 : decode cX7_warm 33 = .ok (.aload_n 0, 1) := by decide +kernel
theorem dX7_warm_34 : decode cX7_warm 34 = .ok (.getfield 9, 3) := by decide +kernel
theorem dX7_warm_37 : decode cX7_warm 37 = .ok (.iload 4, 2) := by decide +kernel
theorem dX7_warm_39 : decode cX7_warm 39 = .ok (.iaload, 1) := by decide +kernel
theorem dX7_warm_40 : decode cX7_warm 40 = .ok (.iload_n 3, 1) := by decide +kernel
theorem dX7_warm_41 : decode cX7_warm 41 = .ok (.if_icmp .ne 17, 3) := by decide +kernel
theorem dX7_warm_44 : decode cX7_warm 44 = .ok (.aload_n 0, 1) := by decide +kernel
theorem dX7_warm_45 : decode cX7_warm 45 = .ok (.getfield 9, 3) := by decide +kernel
theorem dX7_warm_48 : decode cX7_warm 48 = .ok (.iload 4, 2) := by decide +kernel
theorem dX7_warm_50 : decode cX7_warm 50 = .ok (.dup2, 1) := by decide +kernel
theorem dX7_warm_51 : decode cX7_warm 51 = .ok (.iaload, 1) := by decide +kernel
theorem dX7_warm_52 : decode cX7_warm 52 = .ok (.iconst 1, 1) := by decide +kernel
theorem dX7_warm_53 : decode cX7_warm 53 = .ok (.iadd, 1) := by decide +kernel
theorem dX7_warm_54 : decode cX7_warm 54 = .ok (.iastore, 1) := by decide +kernel
theorem dX7_warm_55 : decode cX7_warm 55 = .ok (.iinc 2 (-1), 3) := by decide +kernel
theorem dX7_warm_58 : decode cX7_warm 58 = .ok (.iinc 4 1, 3) := by decide +kernel
theorem dX7_warm_61 : decode cX7_warm 61 = .ok (.goto (-41), 3) := by decide +kernel
theorem dX7_warm_64 : decode cX7_warm 64 = .ok (.iinc 3 1, 3) := by decide +kernel
theorem dX7_warm_67 : decode cX7_warm 67 = .ok (.goto (-60), 3) := by decide +kernel
theorem dX7_warm_70 : decode cX7_warm 70 = .ok (.aload_n 0, 1) := by decide +kernel
theorem dX7_warm_71 : decode cX7_warm 71 = .ok (.dup, 1) := by decide +kernel
theorem dX7_warm_72 : decode cX7_warm 72 = .ok (.getfield 25, 3) := by decide +kernel
theorem dX7_warm_75 : decode cX7_warm 75 = .ok (.iload_n 1, 1) := by decide +kernel
theorem dX7_warm_76 : decode cX7_warm 76 = .ok (.iadd, 1) := by decide +kernel
theorem dX7_warm_77 : decode cX7_warm 77 = .ok (.putfield 25, 3) := by decide +kernel
theorem dX7_warm_80 : decode cX7_warm 80 = .ok (.aload_n 0, 1) := by decide +kernel
theorem dX7_warm_81 : decode cX7_warm 81 = .ok (.dup, 1) := by decide +kernel
theorem dX7_warm_82 : decode cX7_warm 82 = .ok (.getfield 34, 3) := by decide +kernel
theorem dX7_warm_85 : decode cX7_warm 85 = .ok (.iload_n 2, 1) := by decide +kernel
theorem dX7_warm_86 : decode cX7_warm 86 = .ok (.iadd, 1) := by decide +kernel
theorem dX7_warm_87 : decode cX7_warm 87 = .ok (.putfield 34, 3) := by decide +kernel
theorem dX7_warm_90 : decode cX7_warm 90 = .ok (.return_, 1) := by decide +kernel
theorem dX7_cool_0 : decode cX7_cool 0 = .ok (.iconst 0, 1) := by decide +kernel
theorem dX7_cool_1 : decode cX7_cool 1 = .ok (.istore_n 1, 1) := by decide +kernel
theorem dX7_cool_2 : decode cX7_cool 2 = .ok (.iload_n 1, 1) := by decide +kernel
theorem dX7_cool_3 : decode cX7_cool 3 = .ok (.aload_n 0, 1) := by decide +kernel
theorem dX7_cool_4 : decode cX7_cool 4 = .ok (.getfield 21, 3) := by decide +kernel
theorem dX7_cool_7 : decode cX7_cool 7 = .ok (.if_icmp .ge 53, 3) := by decide +kernel
theorem dX7_cool_10 : decode cX7_cool 10 = .ok (.aload_n 0, 1) := by decide +kernel
theorem dX7_cool_11 : decode cX7_cool 11 = .ok (.getfield 9, 3) := by decide +kernel
theorem dX7_cool_14 : decode cX7_cool 14 = .ok (.iload_n 1, 1) := by decide +kernel
theorem dX7_cool_15 : decode cX7_cool 15 = .ok (.iaload, 1) := by decide +kernel
theorem dX7_cool_16 : decode cX7_cool 16 = .ok (.bipush 20, 2) := by decide +kernel
theorem dX7_cool_18 : decode cX7_cool 18 = .ok (.if_icmp .le 36, 3) := by decide +kernel
theorem dX7_cool_21 : decode cX7_cool 21 = .ok (.aload_n 0, 1) := by decide +kernel
theorem dX7_cool_22 : decode cX7_cool 22 = .ok (.getfield 9, 3) := by decide +kernel
theorem dX7_cool_25 : decode cX7_cool 25 = .ok (.iload_n 1, 1) := by decide +kernel
theorem dX7_cool_26 : decode cX7_cool 26 = .ok (.iaload, 1) := by decide +kernel
theorem dX7_cool_27 : decode cX7_cool 27 = .ok (.bipush 20, 2) := by decide +kernel
theorem dX7_cool_29 : decode cX7_cool 29 = .ok (.isub, 1) := by decide +kernel
theorem dX7_cool_30 : decode cX7_cool 30 = .ok (.bipush 20, 2) := by decide +kernel
theorem dX7_cool_32 : decode cX7_cool 32 = .ok (.idiv, 1) := by decide +kernel
theorem dX7_cool_33 : decode cX7_cool 33 = .ok (.istore_n 2, 1) := by decide +kernel
theorem dX7_cool_34 : decode cX7_cool 34 = .ok (.aload_n 0, 1) := by decide +kernel
theorem dX7_cool_35 : decode cX7_cool 35 = .ok (.getfield 9, 3) := by decide +kernel
theorem dX7_cool_38 : decode cX7_cool 38 = .ok (.iload_n 1, 1) := by decide +kernel
theorem dX7_cool_39 : decode cX7_cool 39 = .ok (.dup2, 1) := by decide +kernel
theorem dX7_cool_40 : decode cX7_cool 40 = .ok (.iaload, 1) := by decide +kernel
theorem dX7_cool_41 : decode cX7_cool 41 = .ok (.iload_n 2, 1) := by decide +kernel
theorem dX7_cool_42 : decode cX7_cool 42 = .ok (.isub, 1) := by decide +kernel
theorem dX7_cool_43 : decode cX7_cool 43 = .ok (.iastore, 1) := by decide +kernel
theorem dX7_cool_44 : decode cX7_cool 44 = .ok (.aload_n 0, 1) := by decide +kernel
theorem dX7_cool_45 : decode cX7_cool 45 = .ok (.dup, 1) := by decide +kernel
theorem dX7_cool_46 : decode cX7_cool 46 = .ok (.getfield 34, 3) := by decide +kernel
theorem dX7_cool_49 : decode cX7_cool 49 = .ok (.iload_n 2, 1) := by decide +kernel
theorem dX7_cool_50 : decode cX7_cool 50 = .ok (.iadd, 1) := by decide +kernel
theorem dX7_cool_51 : decode cX7_cool 51 = .ok (.putfield 34, 3) := by decide +kernel
theorem dX7_cool_54 : decode cX7_cool 54 = .ok (.iinc 1 1, 3) := by decide +kernel
theorem dX7_cool_57 : decode cX7_cool 57 = .ok (.goto (-55), 3) := by decide +kernel
theorem dX7_cool_60 : decode cX7_cool 60 = .ok (.return_, 1) := by decide +kernel
theorem dX7_putInOrder_0 : decode cX7_putInOrder 0 = .ok (.iconst 1, 1) := by decide +kernel
theorem dX7_putInOrder_1 : decode cX7_putInOrder 1 = .ok (.istore_n 1, 1) := by decide +kernel
theorem dX7_putInOrder_2 : decode cX7_putInOrder 2 = .ok (.iload_n 1, 1) := by decide +kernel
theorem dX7_putInOrder_3 : decode cX7_putInOrder 3 = .ok (.aload_n 0, 1) := by decide +kernel
theorem dX7_putInOrder_4 : decode cX7_putInOrder 4 = .ok (.getfield 21, 3) := by decide +kernel
theorem dX7_putInOrder_7 : decode cX7_putInOrder 7 = .ok (.if_icmp .ge 61, 3) := by decide +kernel
theorem dX7_putInOrder_10 : decode cX7_putInOrder 10 = .ok (.aload_n 0, 1) := by decide +kernel
theorem dX7_putInOrder_11 : decode cX7_putInOrder 11 = .ok (.getfield 9, 3) := by decide +kernel
theorem dX7_putInOrder_14 : decode cX7_putInOrder 14 = .ok (.iload_n 1, 1) := by decide +kernel
theorem dX7_putInOrder_15 : decode cX7_putInOrder 15 = .ok (.iaload, 1) := by decide +kernel
theorem dX7_putInOrder_16 : decode cX7_putInOrder 16 = .ok (.istore_n 2, 1) := by decide +kernel
theorem dX7_putInOrder_17 : decode cX7_putInOrder 17 = .ok (.iload_n 1, 1) := by decide +kernel
theorem dX7_putInOrder_18 : decode cX7_putInOrder 18 = .ok (.istore_n 3, 1) := by decide +kernel
theorem dX7_putInOrder_19 : decode cX7_putInOrder 19 = .ok (.iload_n 3, 1) := by decide +kernel
theorem dX7_putInOrder_20 : decode cX7_putInOrder 20 = .ok (.ifCond .le 35, 3) := by decide +kernel
theorem dX7_putInOrder_23 : decode cX7_putInOrder 23 = .ok (.aload_n 0, 1) := by decide +kernel
theorem dX7_putInOrder_24 : decode cX7_putInOrder 24 = .ok (.getfield 9, 3) := by decide +kernel
theorem dX7_putInOrder_27 : decode cX7_putInOrder 27 = .ok (.iload_n 3, 1) := by decide +kernel
theorem dX7_putInOrder_28 : decode cX7_putInOrder 28 = .ok (.iconst 1, 1) := by decide +kernel
theorem dX7_putInOrder_29 : decode cX7_putInOrder 29 = .ok (.isub, 1) := by decide +kernel
theorem dX7_putInOrder_30 : decode cX7_putInOrder 30 = .ok (.iaload, 1) := by decide +kernel
theorem dX7_putInOrder_31 : decode cX7_putInOrder 31 = .ok (.iload_n 2, 1) := by decide +kernel
theorem dX7_putInOrder_32 : decode cX7_putInOrder 32 = .ok (.if_icmp .le 23, 3) := by decide +kernel
theorem dX7_putInOrder_35 : decode cX7_putInOrder 35 = .ok (.aload_n 0, 1) := by decide +kernel
theorem dX7_putInOrder_36 : decode cX7_putInOrder 36 = .ok (.getfield 9, 3) := by decide +kernel
theorem dX7_putInOrder_39 : decode cX7_putInOrder 39 = .ok (.iload_n 3, 1) := by decide +kernel
theorem dX7_putInOrder_40 : decode cX7_putInOrder 40 = .ok (.aload_n 0, 1) := by decide +kernel
theorem dX7_putInOrder_41 : decode cX7_putInOrder 41 = .ok (.getfield 9, 3) := by decide +kernel
theorem dX7_putInOrder_44 : decode cX7_putInOrder 44 = .ok (.iload_n 3, 1) := by decide +kernel
theorem dX7_putInOrder_45 : decode cX7_putInOrder 45 = .ok (.iconst 1, 1) := by decide +kernel
theorem dX7_putInOrder_46 : decode cX7_putInOrder 46 = .ok (.isub, 1) := by decide +kernel
theorem dX7_putInOrder_47 : decode cX7_putInOrder 47 = .ok (.iaload, 1) := by decide +kernel
theorem dX7_putInOrder_48 : decode cX7_putInOrder 48 = .ok (.iastore, 1) := by decide +kernel
theorem dX7_putInOrder_49 : decode cX7_putInOrder 49 = .ok (.iinc 3 (-1), 3) := by decide +kernel
theorem dX7_putInOrder_52 : decode cX7_putInOrder 52 = .ok (.goto (-33), 3) := by decide +kernel
theorem dX7_putInOrder_55 : decode cX7_putInOrder 55 = .ok (.aload_n 0, 1) := by decide +kernel
theorem dX7_putInOrder_56 : decode cX7_putInOrder 56 = .ok (.getfield 9, 3) := by decide +kernel
theorem dX7_putInOrder_59 : decode cX7_putInOrder 59 = .ok (.iload_n 3, 1) := by decide +kernel
theorem dX7_putInOrder_60 : decode cX7_putInOrder 60 = .ok (.iload_n 2, 1) := by decide +kernel
theorem dX7_putInOrder_61 : decode cX7_putInOrder 61 = .ok (.iastore, 1) := by decide +kernel
theorem dX7_putInOrder_62 : decode cX7_putInOrder 62 = .ok (.iinc 1 1, 3) := by decide +kernel
theorem dX7_putInOrder_65 : decode cX7_putInOrder 65 = .ok (.goto (-63), 3) := by decide +kernel
theorem dX7_putInOrder_68 : decode cX7_putInOrder 68 = .ok (.return_, 1) := by decide +kernel
theorem dX8_init_0 : decode cX8_init 0 = .ok (.aload_n 0, 1) := by decide +kernel
theorem dX8_init_1 : decode cX8_init 1 = .ok (.invokespecial 1, 3) := by decide +kernel
theorem dX8_init_4 : decode cX8_init 4 = .ok (.aload_n 0, 1) := by decide +kernel
theorem dX8_init_5 : decode cX8_init 5 = .ok (.new 7, 3) := by decide +kernel
theorem dX8_init_8 : decode cX8_init 8 = .ok (.dup, 1) := by decide +kernel
theorem dX8_init_9 : decode cX8_init 9 = .ok (.invokespecial 9, 3) := by decide +kernel
theorem dX8_init_12 : decode cX8_init 12 = .ok (.putfield 10, 3) := by decide +kernel
theorem dX8_init_15 : decode cX8_init 15 = .ok (.aload_n 0, 1) := by decide +kernel
theorem dX8_init_16 : decode cX8_init 16 = .ok (.new 16, 3) := by decide +kernel
theorem dX8_init_19 : decode cX8_init 19 = .ok (.dup, 1) := by decide +kernel
theorem dX8_init_20 : decode cX8_init 20 = .ok (.invokespecial 18, 3) := by decide +kernel
theorem dX8_init_23 : decode cX8_init 23 = .ok (.putfield 19, 3) := by decide +kernel
theorem dX8_init_26 : decode cX8_init 26 = .ok (.aload_n 0, 1) := by decide +kernel
theorem dX8_init_27 : decode cX8_init 27 = .ok (.new 16, 3) := by decide +kernel
theorem dX8_init_30 : decode cX8_init 30 = .ok (.dup, 1) := by decide +kernel
theorem dX8_init_31 : decode cX8_init 31 = .ok (.invokespecial 18, 3) := by decide +kernel
theorem dX8_init_34 : decode cX8_init 34 = .ok (.putfield 23, 3) := by decide +kernel
theorem dX8_init_37 : decode cX8_init 37 = .ok (.aload_n 0, 1) := by decide +kernel
theorem dX8_init_38 : decode cX8_init 38 = .ok (.new 26, 3) := by decide +kernel
theorem dX8_init_41 : decode cX8_init 41 = .ok (.dup, 1) := by decide +kernel
theorem dX8_init_42 : decode cX8_init 42 = .ok (.invokespecial 28, 3) := by decide +kernel
theorem dX8_init_45 : decode cX8_init 45 = .ok (.putfield 29, 3) := by decide +kernel
theorem dX8_init_48 : decode cX8_init 48 = .ok (.aload_n 0, 1) := by decide +kernel
theorem dX8_init_49 : decode cX8_init 49 = .ok (.new 33, 3) := by decide +kernel
theorem dX8_init_52 : decode cX8_init 52 = .ok (.dup, 1) := by decide +kernel
theorem dX8_init_53 : decode cX8_init 53 = .ok (.invokespecial 35, 3) := by decide +kernel
theorem dX8_init_56 : decode cX8_init 56 = .ok (.putfield 36, 3) := by decide +kernel
theorem dX8_init_59 : decode cX8_init 59 = .ok (.aload_n 0, 1) := by decide +kernel
theorem dX8_init_60 : decode cX8_init 60 = .ok (.new 33, 3) := by decide +kernel
theorem dX8_init_63 : decode cX8_init 63 = .ok (.dup, 1) := by decide +kernel
theorem dX8_init_64 : decode cX8_init 64 = .ok (.invokespecial 35, 3) := by decide +kernel
theorem dX8_init_67 : decode cX8_init 67 = .ok (.putfield 40, 3) := by decide +kernel
theorem dX8_init_70 : decode cX8_init 70 = .ok (.aload_n 0, 1) := by decide +kernel
theorem dX8_init_71 : decode cX8_init 71 = .ok (.getfield 19, 3) := by decide +kernel
theorem dX8_init_74 : decode cX8_init 74 = .ok (.aload_n 0, 1) := by decide +kernel
theorem dX8_init_75 : decode cX8_init 75 = .ok (.getfield 10, 3) := by decide +kernel
theorem dX8_init_78 : decode cX8_init 78 = .ok (.invokevirtual 43, 3) := by decide +kernel
theorem dX8_init_81 : decode cX8_init 81 = .ok (.return_, 1) := by decide +kernel
theorem dX8_append_0 : decode cX8_append 0 = .ok (.iload_n 1, 1) := by decide +kernel
theorem dX8_append_1 : decode cX8_append 1 = .ok (.iconst 0, 1) := by decide +kernel
theorem dX8_append_2 : decode cX8_append 2 = .ok (.sipush 255, 3) := by decide +kernel
theorem dX8_append_5 : decode cX8_append 5 = .ok (.invokestatic 47, 3) := by decide +kernel
theorem dX8_append_8 : decode cX8_append 8 = .ok (.aload_n 0, 1) := by decide +kernel
theorem dX8_append_9 : decode cX8_append 9 = .ok (.getfield 10, 3) := by decide +kernel
theorem dX8_append_12 : decode cX8_append 12 = .ok (.iload_n 1, 1) := by decide +kernel
theorem dX8_append_13 : decode cX8_append 13 = .ok (.invokevirtual 51, 3) := by decide +kernel
theorem dX8_append_16 : decode cX8_append 16 = .ok (.ifCond .ne 13, 3) := by decide +kernel
theorem dX8_append_19 : decode cX8_append 19 = .ok (.new 55, 3) := by decide +kernel
theorem dX8_append_22 : decode cX8_append 22 = .ok (.dup, 1) := by decide +kernel
theorem dX8_append_23 : decode cX8_append 23 = .ok (.ldc 57, 2) := by decide +kernel
theorem dX8_append_25 : decode cX8_append 25 = .ok (.invokespecial 59, 3) := by decide +kernel
theorem dX8_append_28 : decode cX8_append 28 = .ok (.athrow, 1) := by decide +kernel
theorem dX8_append_29 : decode cX8_append 29 = .ok (.aload_n 0, 1) := by decide +kernel
theorem dX8_append_30 : decode cX8_append 30 = .ok (.getfield 10, 3) := by decide +kernel
theorem dX8_append_33 : decode cX8_append 33 = .ok (.getfield 62, 3) := by decide +kernel
theorem dX8_append_36 : decode cX8_append 36 = .ok (.ireturn, 1) := by decide +kernel
theorem dX8_clearText_0 : decode cX8_clearText 0 = .ok (.aload_n 0, 1) := by decide +kernel
theorem dX8_clearText_1 : decode cX8_clearText 1 = .ok (.getfield 10, 3) := by decide +kernel
theorem dX8_clearText_4 : decode cX8_clearText 4 = .ok (.getfield 62, 3) := by decide +kernel
theorem dX8_clearText_7 : decode cX8_clearText 7 = .ok (.istore_n 1, 1) := by decide +kernel
theorem dX8_clearText_8 : decode cX8_clearText 8 = .ok (.aload_n 0, 1) := by decide +kernel
theorem dX8_clearText_9 : decode cX8_clearText 9 = .ok (.getfield 10, 3) := by decide +kernel
theorem dX8_clearText_12 : decode cX8_clearText 12 = .ok (.iconst 0, 1) := by decide +kernel
theorem dX8_clearText_13 : decode cX8_clearText 13 = .ok (.putfield 62, 3) := by decide +kernel
theorem dX8_clearText_16 : decode cX8_clearText 16 = .ok (.iload_n 1, 1) := by decide +kernel
theorem dX8_clearText_17 : decode cX8_clearText 17 = .ok (.ireturn, 1) := by decide +kernel
theorem dX8_errorPosition_0 : decode cX8_errorPosition 0 = .ok (.aload_n 0, 1) := by decide +kernel
theorem dX8_errorPosition_1 : decode cX8_errorPosition 1 = .ok (.getfield 10, 3) := by decide +kernel
theorem dX8_errorPosition_4 : decode cX8_errorPosition 4 = .ok (.invokevirtual 66, 3) := by decide +kernel
theorem dX8_errorPosition_7 : decode cX8_errorPosition 7 = .ok (.ireturn, 1) := by decide +kernel
theorem dX8_load_0 : decode cX8_load 0 = .ok (.aload_n 0, 1) := by decide +kernel
theorem dX8_load_1 : decode cX8_load 1 = .ok (.getfield 10, 3) := by decide +kernel
theorem dX8_load_4 : decode cX8_load 4 = .ok (.invokevirtual 66, 3) := by decide +kernel
theorem dX8_load_7 : decode cX8_load 7 = .ok (.bipush (-9), 2) := by decide +kernel
theorem dX8_load_9 : decode cX8_load 9 = .ok (.if_icmp .eq 13, 3) := by decide +kernel
theorem dX8_load_12 : decode cX8_load 12 = .ok (.new 55, 3) := by decide +kernel
theorem dX8_load_15 : decode cX8_load 15 = .ok (.dup, 1) := by decide +kernel
theorem dX8_load_16 : decode cX8_load 16 = .ok (.ldc 70, 2) := by decide +kernel
theorem dX8_load_18 : decode cX8_load 18 = .ok (.invokespecial 59, 3) := by decide +kernel
theorem dX8_load_21 : decode cX8_load 21 = .ok (.athrow, 1) := by decide +kernel
theorem dX8_load_22 : decode cX8_load 22 = .ok (.aload_n 0, 1) := by decide +kernel
theorem dX8_load_23 : decode cX8_load 23 = .ok (.getfield 19, 3) := by decide +kernel
theorem dX8_load_26 : decode cX8_load 26 = .ok (.aload_n 0, 1) := by decide +kernel
theorem dX8_load_27 : decode cX8_load 27 = .ok (.getfield 10, 3) := by decide +kernel
theorem dX8_load_30 : decode cX8_load 30 = .ok (.invokevirtual 43, 3) := by decide +kernel
theorem dX8_load_33 : decode cX8_load 33 = .ok (.aload_n 0, 1) := by decide +kernel
theorem dX8_load_34 : decode cX8_load 34 = .ok (.getfield 29, 3) := by decide +kernel
theorem dX8_load_37 : decode cX8_load 37 = .ok (.invokevirtual 72, 3) := by decide +kernel
theorem dX8_load_40 : decode cX8_load 40 = .ok (.aload_n 0, 1) := by decide +kernel
theorem dX8_load_41 : decode cX8_load 41 = .ok (.getfield 36, 3) := by decide +kernel
theorem dX8_load_44 : decode cX8_load 44 = .ok (.iconst 0, 1) := by decide +kernel
theorem dX8_load_45 : decode cX8_load 45 = .ok (.putfield 75, 3) := by decide +kernel
theorem dX8_load_48 : decode cX8_load 48 = .ok (.aload_n 0, 1) := by decide +kernel
theorem dX8_load_49 : decode cX8_load 49 = .ok (.getfield 40, 3) := by decide +kernel
theorem dX8_load_52 : decode cX8_load 52 = .ok (.iconst 0, 1) := by decide +kernel
theorem dX8_load_53 : decode cX8_load 53 = .ok (.putfield 75, 3) := by decide +kernel
theorem dX8_load_56 : decode cX8_load 56 = .ok (.aload_n 0, 1) := by decide +kernel
theorem dX8_load_57 : decode cX8_load 57 = .ok (.getfield 19, 3) := by decide +kernel
theorem dX8_load_60 : decode cX8_load 60 = .ok (.getfield 79, 3) := by decide +kernel
theorem dX8_load_63 : decode cX8_load 63 = .ok (.ireturn, 1) := by decide +kernel
theorem dX8_about_0 : decode cX8_about 0 = .ok (.iload_n 1, 1) := by decide +kernel
theorem dX8_about_1 : decode cX8_about 1 = .ok (.iconst 0, 1) := by decide +kernel
theorem dX8_about_2 : decode cX8_about 2 = .ok (.bipush 16, 2) := by decide +kernel
theorem dX8_about_4 : decode cX8_about 4 = .ok (.invokestatic 47, 3) := by decide +kernel
theorem dX8_about_7 : decode cX8_about 7 = .ok (.iload_n 1, 1) := by decide +kernel
theorem dX8_about_8 : decode cX8_about 8 = .ok (.bipush 6, 2) := by decide +kernel
theorem dX8_about_10 : decode cX8_about 10 = .ok (.if_icmp .ge 13, 3) := by decide +kernel
theorem dX8_about_13 : decode cX8_about 13 = .ok (.aload_n 0, 1) := by decide +kernel
theorem dX8_about_14 : decode cX8_about 14 = .ok (.getfield 19, 3) := by decide +kernel
theorem dX8_about_17 : decode cX8_about 17 = .ok (.getfield 82, 3) := by decide +kernel
theorem dX8_about_20 : decode cX8_about 20 = .ok (.iload_n 1, 1) := by decide +kernel
theorem dX8_about_21 : decode cX8_about 21 = .ok (.iaload, 1) := by decide +kernel
theorem dX8_about_22 : decode cX8_about 22 = .ok (.ireturn, 1) := by decide +kernel
theorem dX8_about_23 : decode cX8_about 23 = .ok (.iload_n 1, 1) := by decide +kernel
theorem dX8_about_24 : decode cX8_about 24 = .ok (.tableswitch 165 6 15 #[56, 64, 75, 83, 94, 102, 121, 132, 143, 154], 56) := by decide +kernel
theorem dX8_about_80 : decode cX8_about 80 = .ok (.aload_n 0, 1) := by decide +kernel
theorem dX8_about_81 : decode cX8_about 81 = .ok (.getfield 19, 3) := by decide +kernel
theorem dX8_about_84 : decode cX8_about 84 = .ok (.getfield 79, 3) := by decide +kernel
theorem dX8_about_87 : decode cX8_about 87 = .ok (.ireturn, 1) := by decide +kernel
theorem dX8_about_88 : decode cX8_about 88 = .ok (.aload_n 0, 1) := by decide +kernel
theorem dX8_about_89 : decode cX8_about 89 = .ok (.getfield 19, 3) := by decide +kernel
theorem dX8_about_92 : decode cX8_about 92 = .ok (.getfield 86, 3) := by decide +kernel
theorem dX8_about_95 : decode cX8_about 95 = .ok (.getfield 90, 3) := by decide +kernel
theorem dX8_about_98 : decode cX8_about 98 = .ok (.ireturn, 1) := by decide +kernel
theorem dX8_about_99 : decode cX8_about 99 = .ok (.aload_n 0, 1) := by decide +kernel
theorem dX8_about_100 : decode cX8_about 100 = .ok (.getfield 19, 3) := by decide +kernel
theorem dX8_about_103 : decode cX8_about 103 = .ok (.getfield 95, 3) := by decide +kernel
theorem dX8_about_106 : decode cX8_about 106 = .ok (.ireturn, 1) := by decide +kernel
theorem dX8_about_107 : decode cX8_about 107 = .ok (.aload_n 0, 1) := by decide +kernel
theorem dX8_about_108 : decode cX8_about 108 = .ok (.getfield 19, 3) := by decide +kernel
theorem dX8_about_111 : decode cX8_about 111 = .ok (.getfield 86, 3) := by decide +kernel
theorem dX8_about_114 : decode cX8_about 114 = .ok (.invokevirtual 98, 3) := by decide +kernel
theorem dX8_about_117 : decode cX8_about 117 = .ok (.ireturn, 1) := by decide +kernel
theorem dX8_about_118 : decode cX8_about 118 = .ok (.aload_n 0, 1) := by decide +kernel
theorem dX8_about_119 : decode cX8_about 119 = .ok (.getfield 19, 3) := by decide +kernel
theorem dX8_about_122 : decode cX8_about 122 = .ok (.getfield 101, 3) := by decide +kernel
theorem dX8_about_125 : decode cX8_about 125 = .ok (.ireturn, 1) := by decide +kernel
theorem dX8_about_126 : decode cX8_about 126 = .ok (.aload_n 0, 1) := by decide +kernel
theorem dX8_about_127 : decode cX8_about 127 = .ok (.getfield 19, 3) := by decide +kernel
theorem dX8_about_130 : decode cX8_about 130 = .ok (.getfield 104, 3) := by decide +kernel
theorem dX8_about_133 : decode cX8_about 133 = .ok (.getfield 108, 3) := by decide +kernel
theorem dX8_about_136 : decode cX8_about 136 = .ok (.ifCond .eq 7, 3) := by decide +kernel
theorem dX8_about_139 : decode cX8_about 139 = .ok (.iconst 1, 1) := by decide +kernel
theorem dX8_about_140 : decode cX8_about 140 = .ok (.goto 4, 3) := by decide +kernel
theorem dX8_about_143 : decode cX8_about 143 = .ok (.iconst 0, 1) := by decide +kernel
theorem dX8_about_144 : decode cX8_about 144 = .ok (.ireturn, 1) := by decide +kernel
theorem dX8_about_145 : decode cX8_about 145 = .ok (.aload_n 0, 1) := by decide +kernel
theorem dX8_about_146 : decode cX8_about 146 = .ok (.getfield 19, 3) := by decide +kernel
theorem dX8_about_149 : decode cX8_about 149 = .ok (.getfield 104, 3) := by decide +kernel
theorem dX8_about_152 : decode cX8_about 152 = .ok (.getfield 113, 3) := by decide +kernel
theorem dX8_about_155 : decode cX8_about 155 = .ok (.ireturn, 1) := by decide +kernel
theorem dX8_about_156 : decode cX8_about 156 = .ok (.aload_n 0, 1) := by decide +kernel
theorem dX8_about_157 : decode cX8_about 157 = .ok (.getfield 19, 3) := by decide +kernel
theorem dX8_about_160 : decode cX8_about 160 = .ok (.getfield 104, 3) := by decide +kernel
theorem dX8_about_163 : decode cX8_about 163 = .ok (.getfield 116, 3) := by decide +kernel
theorem dX8_about_166 : decode cX8_about 166 = .ok (.ireturn, 1) := by decide +kernel
theorem dX8_about_167 : decode cX8_about 167 = .ok (.aload_n 0, 1) := by decide +kernel
theorem dX8_about_168 : decode cX8_about 168 = .ok (.getfield 19, 3) := by decide +kernel
theorem dX8_about_171 : decode cX8_about 171 = .ok (.getfield 104, 3) := by decide +kernel
theorem dX8_about_174 : decode cX8_about 174 = .ok (.getfield 119, 3) := by decide +kernel
theorem dX8_about_177 : decode cX8_about 177 = .ok (.ireturn, 1) := by decide +kernel
theorem dX8_about_178 : decode cX8_about 178 = .ok (.aload_n 0, 1) := by decide +kernel
theorem dX8_about_179 : decode cX8_about 179 = .ok (.getfield 19, 3) := by decide +kernel
theorem dX8_about_182 : decode cX8_about 182 = .ok (.getfield 104, 3) := by decide +kernel
theorem dX8_about_185 : decode cX8_about 185 = .ok (.getfield 122, 3) := by decide +kernel
theorem dX8_about_188 : decode cX8_about 188 = .ok (.ireturn, 1) := by decide +kernel
theorem dX8_about_189 : decode cX8_about 189 = .ok (.aload_n 0, 1) := by decide +kernel
theorem dX8_about_190 : decode cX8_about 190 = .ok (.getfield 19, 3) := by decide +kernel
theorem dX8_about_193 : decode cX8_about 193 = .ok (.iconst 2, 1) := by decide +kernel
theorem dX8_about_194 : decode cX8_about 194 = .ok (.invokevirtual 125, 3) := by decide +kernel
theorem dX8_about_197 : decode cX8_about 197 = .ok (.ireturn, 1) := by decide +kernel
theorem dX8_boiler_0 : decode cX8_boiler 0 = .ok (.aload_n 0, 1) := by decide +kernel
theorem dX8_boiler_1 : decode cX8_boiler 1 = .ok (.iload_n 1, 1) := by decide +kernel
theorem dX8_boiler_2 : decode cX8_boiler 2 = .ok (.invokevirtual 129, 3) := by decide +kernel
theorem dX8_boiler_5 : decode cX8_boiler 5 = .ok (.iload_n 2, 1) := by decide +kernel
theorem dX8_boiler_6 : decode cX8_boiler 6 = .ok (.iconst 0, 1) := by decide +kernel
theorem dX8_boiler_7 : decode cX8_boiler 7 = .ok (.bipush 7, 2) := by decide +kernel
theorem dX8_boiler_9 : decode cX8_boiler 9 = .ok (.invokestatic 47, 3) := by decide +kernel
theorem dX8_boiler_12 : decode cX8_boiler 12 = .ok (.aload_n 0, 1) := by decide +kernel
theorem dX8_boiler_13 : decode cX8_boiler 13 = .ok (.getfield 19, 3) := by decide +kernel
theorem dX8_boiler_16 : decode cX8_boiler 16 = .ok (.getfield 133, 3) := by decide +kernel
theorem dX8_boiler_19 : decode cX8_boiler 19 = .ok (.iload_n 1, 1) := by decide +kernel
theorem dX8_boiler_20 : decode cX8_boiler 20 = .ok (.aaload, 1) := by decide +kernel
theorem dX8_boiler_21 : decode cX8_boiler 21 = .ok (.astore_n 3, 1) := by decide +kernel
theorem dX8_boiler_22 : decode cX8_boiler 22 = .ok (.iload_n 2, 1) := by decide +kernel
theorem dX8_boiler_23 : decode cX8_boiler 23 = .ok (.tableswitch 76 0 6 #[41, 46, 51, 56, 61, 66, 71], 41) := by decide +kernel
theorem dX8_boiler_64 : decode cX8_boiler 64 = .ok (.aload_n 3, 1) := by decide +kernel
theorem dX8_boiler_65 : decode cX8_boiler 65 = .ok (.getfield 137, 3) := by decide +kernel
theorem dX8_boiler_68 : decode cX8_boiler 68 = .ok (.ireturn, 1) := by decide +kernel
theorem dX8_boiler_69 : decode cX8_boiler 69 = .ok (.aload_n 3, 1) := by decide +kernel
theorem dX8_boiler_70 : decode cX8_boiler 70 = .ok (.getfield 142, 3) := by decide +kernel
theorem dX8_boiler_73 : decode cX8_boiler 73 = .ok (.ireturn, 1) := by decide +kernel
theorem dX8_boiler_74 : decode cX8_boiler 74 = .ok (.aload_n 3, 1) := by decide +kernel
theorem dX8_boiler_75 : decode cX8_boiler 75 = .ok (.getfield 145, 3) := by decide +kernel
theorem dX8_boiler_78 : decode cX8_boiler 78 = .ok (.ireturn, 1) := by decide +kernel
theorem dX8_boiler_79 : decode cX8_boiler 79 = .ok (.aload_n 3, 1) := by decide +kernel
theorem dX8_boiler_80 : decode cX8_boiler 80 = .ok (.getfield 148, 3) := by decide +kernel
theorem dX8_boiler_83 : decode cX8_boiler 83 = .ok (.ireturn, 1) := by decide +kernel
theorem dX8_boiler_84 : decode cX8_boiler 84 = .ok (.aload_n 3, 1) := by decide +kernel
theorem dX8_boiler_85 : decode cX8_boiler 85 = .ok (.getfield 151, 3) := by decide +kernel
theorem dX8_boiler_88 : decode cX8_boiler 88 = .ok (.ireturn, 1) := by decide +kernel
theorem dX8_boiler_89 : decode cX8_boiler 89 = .ok (.aload_n 3, 1) := by decide +kernel
theorem dX8_boiler_90 : decode cX8_boiler 90 = .ok (.getfield 154, 3) := by decide +kernel
theorem dX8_boiler_93 : decode cX8_boiler 93 = .ok (.ireturn, 1) := by decide +kernel
theorem dX8_boiler_94 : decode cX8_boiler 94 = .ok (.aload_n 3, 1) := by decide +kernel
theorem dX8_boiler_95 : decode cX8_boiler 95 = .ok (.getfield 157, 3) := by decide +kernel
theorem dX8_boiler_98 : decode cX8_boiler 98 = .ok (.ireturn, 1) := by decide +kernel
theorem dX8_boiler_99 : decode cX8_boiler 99 = .ok (.aload_n 0, 1) := by decide +kernel
theorem dX8_boiler_100 : decode cX8_boiler 100 = .ok (.getfield 19, 3) := by decide +kernel
theorem dX8_boiler_103 : decode cX8_boiler 103 = .ok (.aload_n 3, 1) := by decide +kernel
theorem dX8_boiler_104 : decode cX8_boiler 104 = .ok (.invokevirtual 160, 3) := by decide +kernel
theorem dX8_boiler_107 : decode cX8_boiler 107 = .ok (.ifCond .eq 7, 3) := by decide +kernel
theorem dX8_boiler_110 : decode cX8_boiler 110 = .ok (.iconst 1, 1) := by decide +kernel
theorem dX8_boiler_111 : decode cX8_boiler 111 = .ok (.goto 4, 3) := by decide +kernel
theorem dX8_boiler_114 : decode cX8_boiler 114 = .ok (.iconst 0, 1) := by decide +kernel
theorem dX8_boiler_115 : decode cX8_boiler 115 = .ok (.ireturn, 1) := by decide +kernel
theorem dX8_flue_0 : decode cX8_flue 0 = .ok (.iload_n 1, 1) := by decide +kernel
theorem dX8_flue_1 : decode cX8_flue 1 = .ok (.invokestatic 164, 3) := by decide +kernel
theorem dX8_flue_4 : decode cX8_flue 4 = .ok (.iload_n 2, 1) := by decide +kernel
theorem dX8_flue_5 : decode cX8_flue 5 = .ok (.iconst 0, 1) := by decide +kernel
theorem dX8_flue_6 : decode cX8_flue 6 = .ok (.iconst 3, 1) := by decide +kernel
theorem dX8_flue_7 : decode cX8_flue 7 = .ok (.invokestatic 47, 3) := by decide +kernel
theorem dX8_flue_10 : decode cX8_flue 10 = .ok (.aload_n 0, 1) := by decide +kernel
theorem dX8_flue_11 : decode cX8_flue 11 = .ok (.getfield 19, 3) := by decide +kernel
theorem dX8_flue_14 : decode cX8_flue 14 = .ok (.iload_n 1, 1) := by decide +kernel
theorem dX8_flue_15 : decode cX8_flue 15 = .ok (.invokevirtual 167, 3) := by decide +kernel
theorem dX8_flue_18 : decode cX8_flue 18 = .ok (.astore_n 3, 1) := by decide +kernel
theorem dX8_flue_19 : decode cX8_flue 19 = .ok (.iload_n 2, 1) := by decide +kernel
theorem dX8_flue_20 : decode cX8_flue 20 = .ok (.tableswitch 55 0 2 #[28, 33, 42], 28) := by decide +kernel
theorem dX8_flue_48 : decode cX8_flue 48 = .ok (.aload_n 3, 1) := by decide +kernel
theorem dX8_flue_49 : decode cX8_flue 49 = .ok (.getfield 171, 3) := by decide +kernel
theorem dX8_flue_52 : decode cX8_flue 52 = .ok (.ireturn, 1) := by decide +kernel
theorem dX8_flue_53 : decode cX8_flue 53 = .ok (.aload_n 0, 1) := by decide +kernel
theorem dX8_flue_54 : decode cX8_flue 54 = .ok (.getfield 19, 3) := by decide +kernel
theorem dX8_flue_57 : decode cX8_flue 57 = .ok (.iload_n 1, 1) := by decide +kernel
theorem dX8_flue_58 : decode cX8_flue 58 = .ok (.invokevirtual 176, 3) := by decide +kernel
theorem dX8_flue_61 : decode cX8_flue 61 = .ok (.ireturn, 1) := by decide +kernel
theorem dX8_flue_62 : decode cX8_flue 62 = .ok (.aload_n 3, 1) := by decide +kernel
theorem dX8_flue_63 : decode cX8_flue 63 = .ok (.getfield 179, 3) := by decide +kernel
theorem dX8_flue_66 : decode cX8_flue 66 = .ok (.ifCond .eq 7, 3) := by decide +kernel
theorem dX8_flue_69 : decode cX8_flue 69 = .ok (.iconst 1, 1) := by decide +kernel
theorem dX8_flue_70 : decode cX8_flue 70 = .ok (.goto 4, 3) := by decide +kernel
theorem dX8_flue_73 : decode cX8_flue 73 = .ok (.iconst 0, 1) := by decide +kernel
theorem dX8_flue_74 : decode cX8_flue 74 = .ok (.ireturn, 1) := by decide +kernel
theorem dX8_flue_75 : decode cX8_flue 75 = .ok (.aload_n 0, 1) := by decide +kernel
theorem dX8_flue_76 : decode cX8_flue 76 = .ok (.getfield 19, 3) := by decide +kernel
theorem dX8_flue_79 : decode cX8_flue 79 = .ok (.iload_n 1, 1) := by decide +kernel
theorem dX8_flue_80 : decode cX8_flue 80 = .ok (.invokevirtual 182, 3) := by decide +kernel
theorem dX8_flue_83 : decode cX8_flue 83 = .ok (.ireturn, 1) := by decide +kernel
theorem dX8_layer_0 : decode cX8_layer 0 = .ok (.iload_n 1, 1) := by decide +kernel
theorem dX8_layer_1 : decode cX8_layer 1 = .ok (.ifCond .lt 17, 3) := by decide +kernel
theorem dX8_layer_4 : decode cX8_layer 4 = .ok (.iload_n 1, 1) := by decide +kernel
theorem dX8_layer_5 : decode cX8_layer 5 = .ok (.aload_n 0, 1) := by decide +kernel
theorem dX8_layer_6 : decode cX8_layer 6 = .ok (.getfield 19, 3) := by decide +kernel
theorem dX8_layer_9 : decode cX8_layer 9 = .ok (.getfield 86, 3) := by decide +kernel
theorem dX8_layer_12 : decode cX8_layer 12 = .ok (.getfield 90, 3) := by decide +kernel
theorem dX8_layer_15 : decode cX8_layer 15 = .ok (.if_icmp .lt 13, 3) := by decide +kernel
theorem dX8_layer_18 : decode cX8_layer 18 = .ok (.new 185, 3) := by decide +kernel
theorem dX8_layer_21 : decode cX8_layer 21 = .ok (.dup, 1) := by decide +kernel
theorem dX8_layer_22 : decode cX8_layer 22 = .ok (.ldc 187, 2) := by decide +kernel
theorem dX8_layer_24 : decode cX8_layer 24 = .ok (.invokespecial 189, 3) := by decide +kernel
theorem dX8_layer_27 : decode cX8_layer 27 = .ok (.athrow, 1) := by decide +kernel
theorem dX8_layer_28 : decode cX8_layer 28 = .ok (.aload_n 0, 1) := by decide +kernel
theorem dX8_layer_29 : decode cX8_layer 29 = .ok (.getfield 19, 3) := by decide +kernel
theorem dX8_layer_32 : decode cX8_layer 32 = .ok (.getfield 86, 3) := by decide +kernel
theorem dX8_layer_35 : decode cX8_layer 35 = .ok (.getfield 190, 3) := by decide +kernel
theorem dX8_layer_38 : decode cX8_layer 38 = .ok (.iload_n 1, 1) := by decide +kernel
theorem dX8_layer_39 : decode cX8_layer 39 = .ok (.iaload, 1) := by decide +kernel
theorem dX8_layer_40 : decode cX8_layer 40 = .ok (.ireturn, 1) := by decide +kernel
theorem dX8_account_0 : decode cX8_account 0 = .ok (.iload_n 1, 1) := by decide +kernel
theorem dX8_account_1 : decode cX8_account 1 = .ok (.iconst 0, 1) := by decide +kernel
theorem dX8_account_2 : decode cX8_account 2 = .ok (.iconst 5, 1) := by decide +kernel
theorem dX8_account_3 : decode cX8_account 3 = .ok (.invokestatic 47, 3) := by decide +kernel
theorem dX8_account_6 : decode cX8_account 6 = .ok (.iload_n 1, 1) := by decide +kernel
theorem dX8_account_7 : decode cX8_account 7 = .ok (.tableswitch 85 0 4 #[33, 44, 55, 66, 77], 33) := by decide +kernel
theorem dX8_account_40 : decode cX8_account 40 = .ok (.aload_n 0, 1) := by decide +kernel
theorem dX8_account_41 : decode cX8_account 41 = .ok (.getfield 19, 3) := by decide +kernel
theorem dX8_account_44 : decode cX8_account 44 = .ok (.getfield 86, 3) := by decide +kernel
theorem dX8_account_47 : decode cX8_account 47 = .ok (.getfield 193, 3) := by decide +kernel
theorem dX8_account_50 : decode cX8_account 50 = .ok (.ireturn, 1) := by decide +kernel
theorem dX8_account_51 : decode cX8_account 51 = .ok (.aload_n 0, 1) := by decide +kernel
theorem dX8_account_52 : decode cX8_account 52 = .ok (.getfield 19, 3) := by decide +kernel
theorem dX8_account_55 : decode cX8_account 55 = .ok (.getfield 86, 3) := by decide +kernel
theorem dX8_account_58 : decode cX8_account 58 = .ok (.getfield 196, 3) := by decide +kernel
theorem dX8_account_61 : decode cX8_account 61 = .ok (.ireturn, 1) := by decide +kernel
theorem dX8_account_62 : decode cX8_account 62 = .ok (.aload_n 0, 1) := by decide +kernel
theorem dX8_account_63 : decode cX8_account 63 = .ok (.getfield 19, 3) := by decide +kernel
theorem dX8_account_66 : decode cX8_account 66 = .ok (.getfield 86, 3) := by decide +kernel
theorem dX8_account_69 : decode cX8_account 69 = .ok (.getfield 199, 3) := by decide +kernel
theorem dX8_account_72 : decode cX8_account 72 = .ok (.ireturn, 1) := by decide +kernel
theorem dX8_account_73 : decode cX8_account 73 = .ok (.aload_n 0, 1) := by decide +kernel
theorem dX8_account_74 : decode cX8_account 74 = .ok (.getfield 19, 3) := by decide +kernel
theorem dX8_account_77 : decode cX8_account 77 = .ok (.getfield 86, 3) := by decide +kernel
theorem dX8_account_80 : decode cX8_account 80 = .ok (.getfield 202, 3) := by decide +kernel
theorem dX8_account_83 : decode cX8_account 83 = .ok (.ireturn, 1) := by decide +kernel
theorem dX8_account_84 : decode cX8_account 84 = .ok (.aload_n 0, 1) := by decide +kernel
theorem dX8_account_85 : decode cX8_account 85 = .ok (.getfield 19, 3) := by decide +kernel
theorem dX8_account_88 : decode cX8_account 88 = .ok (.invokevirtual 205, 3) := by decide +kernel
theorem dX8_account_91 : decode cX8_account 91 = .ok (.ireturn, 1) := by decide +kernel
theorem dX8_account_92 : decode cX8_account 92 = .ok (.aload_n 0, 1) := by decide +kernel
theorem dX8_account_93 : decode cX8_account 93 = .ok (.getfield 19, 3) := by decide +kernel
theorem dX8_account_96 : decode cX8_account 96 = .ok (.getfield 86, 3) := by decide +kernel
theorem dX8_account_99 : decode cX8_account 99 = .ok (.getfield 207, 3) := by decide +kernel
theorem dX8_account_102 : decode cX8_account 102 = .ok (.ireturn, 1) := by decide +kernel
theorem dX8_tick_0 : decode cX8_tick 0 = .ok (.iload_n 1, 1) := by decide +kernel
theorem dX8_tick_1 : decode cX8_tick 1 = .ok (.iload_n 2, 1) := by decide +kernel
theorem dX8_tick_2 : decode cX8_tick 2 = .ok (.invokestatic 210, 3) := by decide +kernel
theorem dX8_tick_5 : decode cX8_tick 5 = .ok (.aload_n 0, 1) := by decide +kernel
theorem dX8_tick_6 : decode cX8_tick 6 = .ok (.getfield 29, 3) := by decide +kernel
theorem dX8_tick_9 : decode cX8_tick 9 = .ok (.aload_n 0, 1) := by decide +kernel
theorem dX8_tick_10 : decode cX8_tick 10 = .ok (.getfield 19, 3) := by decide +kernel
theorem dX8_tick_13 : decode cX8_tick 13 = .ok (.invokevirtual 214, 3) := by decide +kernel
theorem dX8_tick_16 : decode cX8_tick 16 = .ok (.aload_n 0, 1) := by decide +kernel
theorem dX8_tick_17 : decode cX8_tick 17 = .ok (.getfield 19, 3) := by decide +kernel
theorem dX8_tick_20 : decode cX8_tick 20 = .ok (.iload_n 1, 1) := by decide +kernel
theorem dX8_tick_21 : decode cX8_tick 21 = .ok (.iload_n 2, 1) := by decide +kernel
theorem dX8_tick_22 : decode cX8_tick 22 = .ok (.invokevirtual 218, 3) := by decide +kernel
theorem dX8_tick_25 : decode cX8_tick 25 = .ok (.aload_n 0, 1) := by decide +kernel
theorem dX8_tick_26 : decode cX8_tick 26 = .ok (.getfield 19, 3) := by decide +kernel
theorem dX8_tick_29 : decode cX8_tick 29 = .ok (.getfield 86, 3) := by decide +kernel
theorem dX8_tick_32 : decode cX8_tick 32 = .ok (.invokevirtual 98, 3) := by decide +kernel
theorem dX8_tick_35 : decode cX8_tick 35 = .ok (.ireturn, 1) := by decide +kernel
theorem dX8_draw_0 : decode cX8_draw 0 = .ok (.iload_n 1, 1) := by decide +kernel
theorem dX8_draw_1 : decode cX8_draw 1 = .ok (.iconst 1, 1) := by decide +kernel
theorem dX8_draw_2 : decode cX8_draw 2 = .ok (.bipush 20, 2) := by decide +kernel
theorem dX8_draw_4 : decode cX8_draw 4 = .ok (.invokestatic 47, 3) := by decide +kernel
theorem dX8_draw_7 : decode cX8_draw 7 = .ok (.aload_n 0, 1) := by decide +kernel
theorem dX8_draw_8 : decode cX8_draw 8 = .ok (.getfield 29, 3) := by decide +kernel
theorem dX8_draw_11 : decode cX8_draw 11 = .ok (.aload_n 0, 1) := by decide +kernel
theorem dX8_draw_12 : decode cX8_draw 12 = .ok (.getfield 19, 3) := by decide +kernel
theorem dX8_draw_15 : decode cX8_draw 15 = .ok (.invokevirtual 214, 3) := by decide +kernel
theorem dX8_draw_18 : decode cX8_draw 18 = .ok (.aload_n 0, 1) := by decide +kernel
theorem dX8_draw_19 : decode cX8_draw 19 = .ok (.getfield 19, 3) := by decide +kernel
theorem dX8_draw_22 : decode cX8_draw 22 = .ok (.getfield 86, 3) := by decide +kernel
theorem dX8_draw_25 : decode cX8_draw 25 = .ok (.iload_n 1, 1) := by decide +kernel
theorem dX8_draw_26 : decode cX8_draw 26 = .ok (.invokevirtual 221, 3) := by decide +kernel
theorem dX8_draw_29 : decode cX8_draw 29 = .ok (.ireturn, 1) := by decide +kernel
theorem dX8_set_0 : decode cX8_set 0 = .ok (.iload_n 1, 1) := by decide +kernel
theorem dX8_set_1 : decode cX8_set 1 = .ok (.iload_n 2, 1) := by decide +kernel
theorem dX8_set_2 : decode cX8_set 2 = .ok (.invokestatic 224, 3) := by decide +kernel
theorem dX8_set_5 : decode cX8_set 5 = .ok (.ifCond .ne 13, 3) := by decide +kernel
theorem dX8_set_8 : decode cX8_set 8 = .ok (.new 228, 3) := by decide +kernel
theorem dX8_set_11 : decode cX8_set 11 = .ok (.dup, 1) := by decide +kernel
theorem dX8_set_12 : decode cX8_set 12 = .ok (.ldc 230, 2) := by decide +kernel
theorem dX8_set_14 : decode cX8_set 14 = .ok (.invokespecial 232, 3) := by decide +kernel
theorem dX8_set_17 : decode cX8_set 17 = .ok (.athrow, 1) := by decide +kernel
theorem dX8_set_18 : decode cX8_set 18 = .ok (.aload_n 0, 1) := by decide +kernel
theorem dX8_set_19 : decode cX8_set 19 = .ok (.getfield 29, 3) := by decide +kernel
theorem dX8_set_22 : decode cX8_set 22 = .ok (.aload_n 0, 1) := by decide +kernel
theorem dX8_set_23 : decode cX8_set 23 = .ok (.getfield 19, 3) := by decide +kernel
theorem dX8_set_26 : decode cX8_set 26 = .ok (.invokevirtual 214, 3) := by decide +kernel
theorem dX8_set_29 : decode cX8_set 29 = .ok (.aload_n 0, 1) := by decide +kernel
theorem dX8_set_30 : decode cX8_set 30 = .ok (.getfield 19, 3) := by decide +kernel
theorem dX8_set_33 : decode cX8_set 33 = .ok (.getfield 82, 3) := by decide +kernel
theorem dX8_set_36 : decode cX8_set 36 = .ok (.iload_n 1, 1) := by decide +kernel
theorem dX8_set_37 : decode cX8_set 37 = .ok (.iaload, 1) := by decide +kernel
theorem dX8_set_38 : decode cX8_set 38 = .ok (.istore_n 3, 1) := by decide +kernel
theorem dX8_set_39 : decode cX8_set 39 = .ok (.aload_n 0, 1) := by decide +kernel
theorem dX8_set_40 : decode cX8_set 40 = .ok (.getfield 19, 3) := by decide +kernel
theorem dX8_set_43 : decode cX8_set 43 = .ok (.getfield 82, 3) := by decide +kernel
theorem dX8_set_46 : decode cX8_set 46 = .ok (.iload_n 1, 1) := by decide +kernel
theorem dX8_set_47 : decode cX8_set 47 = .ok (.iload_n 2, 1) := by decide +kernel
theorem dX8_set_48 : decode cX8_set 48 = .ok (.iastore, 1) := by decide +kernel
theorem dX8_set_49 : decode cX8_set 49 = .ok (.iload_n 3, 1) := by decide +kernel
theorem dX8_set_50 : decode cX8_set 50 = .ok (.ireturn, 1) := by decide +kernel
theorem dX8_setFlue_0 : decode cX8_setFlue 0 = .ok (.iload_n 1, 1) := by decide +kernel
theorem dX8_setFlue_1 : decode cX8_setFlue 1 = .ok (.invokestatic 164, 3) := by decide +kernel
theorem dX8_setFlue_4 : decode cX8_setFlue 4 = .ok (.aload_n 0, 1) := by decide +kernel
theorem dX8_setFlue_5 : decode cX8_setFlue 5 = .ok (.getfield 29, 3) := by decide +kernel
theorem dX8_setFlue_8 : decode cX8_setFlue 8 = .ok (.aload_n 0, 1) := by decide +kernel
theorem dX8_setFlue_9 : decode cX8_setFlue 9 = .ok (.getfield 19, 3) := by decide +kernel
theorem dX8_setFlue_12 : decode cX8_setFlue 12 = .ok (.invokevirtual 214, 3) := by decide +kernel
theorem dX8_setFlue_15 : decode cX8_setFlue 15 = .ok (.aload_n 0, 1) := by decide +kernel
theorem dX8_setFlue_16 : decode cX8_setFlue 16 = .ok (.getfield 19, 3) := by decide +kernel
theorem dX8_setFlue_19 : decode cX8_setFlue 19 = .ok (.iload_n 1, 1) := by decide +kernel
theorem dX8_setFlue_20 : decode cX8_setFlue 20 = .ok (.iload_n 2, 1) := by decide +kernel
theorem dX8_setFlue_21 : decode cX8_setFlue 21 = .ok (.invokevirtual 233, 3) := by decide +kernel
theorem dX8_setFlue_24 : decode cX8_setFlue 24 = .ok (.ireturn, 1) := by decide +kernel
theorem dX8_setDraft_0 : decode cX8_setDraft 0 = .ok (.iload_n 1, 1) := by decide +kernel
theorem dX8_setDraft_1 : decode cX8_setDraft 1 = .ok (.invokestatic 164, 3) := by decide +kernel
theorem dX8_setDraft_4 : decode cX8_setDraft 4 = .ok (.iload_n 2, 1) := by decide +kernel
theorem dX8_setDraft_5 : decode cX8_setDraft 5 = .ok (.iconst 0, 1) := by decide +kernel
theorem dX8_setDraft_6 : decode cX8_setDraft 6 = .ok (.bipush 99, 2) := by decide +kernel
theorem dX8_setDraft_8 : decode cX8_setDraft 8 = .ok (.invokestatic 47, 3) := by decide +kernel
theorem dX8_setDraft_11 : decode cX8_setDraft 11 = .ok (.aload_n 0, 1) := by decide +kernel
theorem dX8_setDraft_12 : decode cX8_setDraft 12 = .ok (.getfield 29, 3) := by decide +kernel
theorem dX8_setDraft_15 : decode cX8_setDraft 15 = .ok (.aload_n 0, 1) := by decide +kernel
theorem dX8_setDraft_16 : decode cX8_setDraft 16 = .ok (.getfield 19, 3) := by decide +kernel
theorem dX8_setDraft_19 : decode cX8_setDraft 19 = .ok (.invokevirtual 214, 3) := by decide +kernel
theorem dX8_setDraft_22 : decode cX8_setDraft 22 = .ok (.aload_n 0, 1) := by decide +kernel
theorem dX8_setDraft_23 : decode cX8_setDraft 23 = .ok (.getfield 19, 3) := by decide +kernel
theorem dX8_setDraft_26 : decode cX8_setDraft 26 = .ok (.iload_n 1, 1) := by decide +kernel
theorem dX8_setDraft_27 : decode cX8_setDraft 27 = .ok (.invokevirtual 167, 3) := by decide +kernel
theorem dX8_setDraft_30 : decode cX8_setDraft 30 = .ok (.astore_n 3, 1) := by decide +kernel
theorem dX8_setDraft_31 : decode cX8_setDraft 31 = .ok (.aload_n 3, 1) := by decide +kernel
theorem dX8_setDraft_32 : decode cX8_setDraft 32 = .ok (.getfield 171, 3) := by decide +kernel
theorem dX8_setDraft_35 : decode cX8_setDraft 35 = .ok (.istore 4, 2) := by decide +kernel
theorem dX8_setDraft_37 : decode cX8_setDraft 37 = .ok (.aload_n 3, 1) := by decide +kernel
theorem dX8_setDraft_38 : decode cX8_setDraft 38 = .ok (.iload_n 2, 1) := by decide +kernel
theorem dX8_setDraft_39 : decode cX8_setDraft 39 = .ok (.putfield 171, 3) := by decide +kernel
theorem dX8_setDraft_42 : decode cX8_setDraft 42 = .ok (.iload 4, 2) := by decide +kernel
theorem dX8_setDraft_44 : decode cX8_setDraft 44 = .ok (.ireturn, 1) := by decide +kernel
theorem dX8_lock_0 : decode cX8_lock 0 = .ok (.aload_n 0, 1) := by decide +kernel
theorem dX8_lock_1 : decode cX8_lock 1 = .ok (.iload_n 1, 1) := by decide +kernel
theorem dX8_lock_2 : decode cX8_lock 2 = .ok (.invokevirtual 129, 3) := by decide +kernel
theorem dX8_lock_5 : decode cX8_lock 5 = .ok (.aload_n 0, 1) := by decide +kernel
theorem dX8_lock_6 : decode cX8_lock 6 = .ok (.getfield 19, 3) := by decide +kernel
theorem dX8_lock_9 : decode cX8_lock 9 = .ok (.getfield 133, 3) := by decide +kernel
theorem dX8_lock_12 : decode cX8_lock 12 = .ok (.iload_n 1, 1) := by decide +kernel
theorem dX8_lock_13 : decode cX8_lock 13 = .ok (.aaload, 1) := by decide +kernel
theorem dX8_lock_14 : decode cX8_lock 14 = .ok (.getfield 145, 3) := by decide +kernel
theorem dX8_lock_17 : decode cX8_lock 17 = .ok (.istore_n 2, 1) := by decide +kernel
theorem dX8_lock_18 : decode cX8_lock 18 = .ok (.iload_n 2, 1) := by decide +kernel
theorem dX8_lock_19 : decode cX8_lock 19 = .ok (.iconst 4, 1) := by decide +kernel
theorem dX8_lock_20 : decode cX8_lock 20 = .ok (.if_icmp .ne 13, 3) := by decide +kernel
theorem dX8_lock_23 : decode cX8_lock 23 = .ok (.new 55, 3) := by decide +kernel
theorem dX8_lock_26 : decode cX8_lock 26 = .ok (.dup, 1) := by decide +kernel
theorem dX8_lock_27 : decode cX8_lock 27 = .ok (.ldc 237, 2) := by decide +kernel
theorem dX8_lock_29 : decode cX8_lock 29 = .ok (.invokespecial 59, 3) := by decide +kernel
theorem dX8_lock_32 : decode cX8_lock 32 = .ok (.athrow, 1) := by decide +kernel
theorem dX8_lock_33 : decode cX8_lock 33 = .ok (.aload_n 0, 1) := by decide +kernel
theorem dX8_lock_34 : decode cX8_lock 34 = .ok (.getfield 29, 3) := by decide +kernel
theorem dX8_lock_37 : decode cX8_lock 37 = .ok (.aload_n 0, 1) := by decide +kernel
theorem dX8_lock_38 : decode cX8_lock 38 = .ok (.getfield 19, 3) := by decide +kernel
theorem dX8_lock_41 : decode cX8_lock 41 = .ok (.invokevirtual 214, 3) := by decide +kernel
theorem dX8_lock_44 : decode cX8_lock 44 = .ok (.aload_n 0, 1) := by decide +kernel
theorem dX8_lock_45 : decode cX8_lock 45 = .ok (.getfield 19, 3) := by decide +kernel
theorem dX8_lock_48 : decode cX8_lock 48 = .ok (.getfield 133, 3) := by decide +kernel
theorem dX8_lock_51 : decode cX8_lock 51 = .ok (.iload_n 1, 1) := by decide +kernel
theorem dX8_lock_52 : decode cX8_lock 52 = .ok (.aaload, 1) := by decide +kernel
theorem dX8_lock_53 : decode cX8_lock 53 = .ok (.iconst 4, 1) := by decide +kernel
theorem dX8_lock_54 : decode cX8_lock 54 = .ok (.invokevirtual 239, 3) := by decide +kernel
theorem dX8_lock_57 : decode cX8_lock 57 = .ok (.iload_n 2, 1) := by decide +kernel
theorem dX8_lock_58 : decode cX8_lock 58 = .ok (.ireturn, 1) := by decide +kernel
theorem dX8_unlock_0 : decode cX8_unlock 0 = .ok (.aload_n 0, 1) := by decide +kernel
theorem dX8_unlock_1 : decode cX8_unlock 1 = .ok (.iload_n 1, 1) := by decide +kernel
theorem dX8_unlock_2 : decode cX8_unlock 2 = .ok (.invokevirtual 129, 3) := by decide +kernel
theorem dX8_unlock_5 : decode cX8_unlock 5 = .ok (.aload_n 0, 1) := by decide +kernel
theorem dX8_unlock_6 : decode cX8_unlock 6 = .ok (.getfield 19, 3) := by decide +kernel
theorem dX8_unlock_9 : decode cX8_unlock 9 = .ok (.getfield 133, 3) := by decide +kernel
theorem dX8_unlock_12 : decode cX8_unlock 12 = .ok (.iload_n 1, 1) := by decide +kernel
theorem dX8_unlock_13 : decode cX8_unlock 13 = .ok (.aaload, 1) := by decide +kernel
theorem dX8_unlock_14 : decode cX8_unlock 14 = .ok (.getfield 145, 3) := by decide +kernel
theorem dX8_unlock_17 : decode cX8_unlock 17 = .ok (.iconst 4, 1) := by decide +kernel
theorem dX8_unlock_18 : decode cX8_unlock 18 = .ok (.if_icmp .eq 13, 3) := by decide +kernel
theorem dX8_unlock_21 : decode cX8_unlock 21 = .ok (.new 55, 3) := by decide +kernel
theorem dX8_unlock_24 : decode cX8_unlock 24 = .ok (.dup, 1) := by decide +kernel
theorem dX8_unlock_25 : decode cX8_unlock 25 = .ok (.ldc 242, 2) := by decide +kernel
theorem dX8_unlock_27 : decode cX8_unlock 27 = .ok (.invokespecial 59, 3) := by decide +kernel
theorem dX8_unlock_30 : decode cX8_unlock 30 = .ok (.athrow, 1) := by decide +kernel
theorem dX8_unlock_31 : decode cX8_unlock 31 = .ok (.aload_n 0, 1) := by decide +kernel
theorem dX8_unlock_32 : decode cX8_unlock 32 = .ok (.getfield 29, 3) := by decide +kernel
theorem dX8_unlock_35 : decode cX8_unlock 35 = .ok (.aload_n 0, 1) := by decide +kernel
theorem dX8_unlock_36 : decode cX8_unlock 36 = .ok (.getfield 19, 3) := by decide +kernel
theorem dX8_unlock_39 : decode cX8_unlock 39 = .ok (.invokevirtual 214, 3) := by decide +kernel
theorem dX8_unlock_42 : decode cX8_unlock 42 = .ok (.aload_n 0, 1) := by decide +kernel
theorem dX8_unlock_43 : decode cX8_unlock 43 = .ok (.getfield 19, 3) := by decide +kernel
theorem dX8_unlock_46 : decode cX8_unlock 46 = .ok (.getfield 133, 3) := by decide +kernel
theorem dX8_unlock_49 : decode cX8_unlock 49 = .ok (.iload_n 1, 1) := by decide +kernel
theorem dX8_unlock_50 : decode cX8_unlock 50 = .ok (.aaload, 1) := by decide +kernel
theorem dX8_unlock_51 : decode cX8_unlock 51 = .ok (.iconst 0, 1) := by decide +kernel
theorem dX8_unlock_52 : decode cX8_unlock 52 = .ok (.invokevirtual 239, 3) := by decide +kernel
theorem dX8_unlock_55 : decode cX8_unlock 55 = .ok (.aload_n 0, 1) := by decide +kernel
theorem dX8_unlock_56 : decode cX8_unlock 56 = .ok (.getfield 19, 3) := by decide +kernel
theorem dX8_unlock_59 : decode cX8_unlock 59 = .ok (.iconst 4, 1) := by decide +kernel
theorem dX8_unlock_60 : decode cX8_unlock 60 = .ok (.invokevirtual 125, 3) := by decide +kernel
theorem dX8_unlock_63 : decode cX8_unlock 63 = .ok (.ireturn, 1) := by decide +kernel
theorem dX8_putOff_0 : decode cX8_putOff 0 = .ok (.aload_n 0, 1) := by decide +kernel
theorem dX8_putOff_1 : decode cX8_putOff 1 = .ok (.iload_n 1, 1) := by decide +kernel
theorem dX8_putOff_2 : decode cX8_putOff 2 = .ok (.invokevirtual 129, 3) := by decide +kernel
theorem dX8_putOff_5 : decode cX8_putOff 5 = .ok (.aload_n 0, 1) := by decide +kernel
theorem dX8_putOff_6 : decode cX8_putOff 6 = .ok (.getfield 19, 3) := by decide +kernel
theorem dX8_putOff_9 : decode cX8_putOff 9 = .ok (.getfield 133, 3) := by decide +kernel
theorem dX8_putOff_12 : decode cX8_putOff 12 = .ok (.iload_n 1, 1) := by decide +kernel
theorem dX8_putOff_13 : decode cX8_putOff 13 = .ok (.aaload, 1) := by decide +kernel
theorem dX8_putOff_14 : decode cX8_putOff 14 = .ok (.getfield 145, 3) := by decide +kernel
theorem dX8_putOff_17 : decode cX8_putOff 17 = .ok (.iconst 3, 1) := by decide +kernel
theorem dX8_putOff_18 : decode cX8_putOff 18 = .ok (.if_icmp .eq 13, 3) := by decide +kernel
theorem dX8_putOff_21 : decode cX8_putOff 21 = .ok (.new 55, 3) := by decide +kernel
theorem dX8_putOff_24 : decode cX8_putOff 24 = .ok (.dup, 1) := by decide +kernel
theorem dX8_putOff_25 : decode cX8_putOff 25 = .ok (.ldc 244, 2) := by decide +kernel
theorem dX8_putOff_27 : decode cX8_putOff 27 = .ok (.invokespecial 59, 3) := by decide +kernel
theorem dX8_putOff_30 : decode cX8_putOff 30 = .ok (.athrow, 1) := by decide +kernel
theorem dX8_putOff_31 : decode cX8_putOff 31 = .ok (.aload_n 0, 1) := by decide +kernel
theorem dX8_putOff_32 : decode cX8_putOff 32 = .ok (.getfield 29, 3) := by decide +kernel
theorem dX8_putOff_35 : decode cX8_putOff 35 = .ok (.aload_n 0, 1) := by decide +kernel
theorem dX8_putOff_36 : decode cX8_putOff 36 = .ok (.getfield 19, 3) := by decide +kernel
theorem dX8_putOff_39 : decode cX8_putOff 39 = .ok (.invokevirtual 214, 3) := by decide +kernel
theorem dX8_putOff_42 : decode cX8_putOff 42 = .ok (.aload_n 0, 1) := by decide +kernel
theorem dX8_putOff_43 : decode cX8_putOff 43 = .ok (.getfield 19, 3) := by decide +kernel
theorem dX8_putOff_46 : decode cX8_putOff 46 = .ok (.getfield 133, 3) := by decide +kernel
theorem dX8_putOff_49 : decode cX8_putOff 49 = .ok (.iload_n 1, 1) := by decide +kernel
theorem dX8_putOff_50 : decode cX8_putOff 50 = .ok (.aaload, 1) := by decide +kernel
theorem dX8_putOff_51 : decode cX8_putOff 51 = .ok (.iconst 0, 1) := by decide +kernel
theorem dX8_putOff_52 : decode cX8_putOff 52 = .ok (.invokevirtual 239, 3) := by decide +kernel
theorem dX8_putOff_55 : decode cX8_putOff 55 = .ok (.aload_n 0, 1) := by decide +kernel
theorem dX8_putOff_56 : decode cX8_putOff 56 = .ok (.getfield 19, 3) := by decide +kernel
theorem dX8_putOff_59 : decode cX8_putOff 59 = .ok (.getfield 133, 3) := by decide +kernel
theorem dX8_putOff_62 : decode cX8_putOff 62 = .ok (.iload_n 1, 1) := by decide +kernel
theorem dX8_putOff_63 : decode cX8_putOff 63 = .ok (.aaload, 1) := by decide +kernel
theorem dX8_putOff_64 : decode cX8_putOff 64 = .ok (.getfield 157, 3) := by decide +kernel
theorem dX8_putOff_67 : decode cX8_putOff 67 = .ok (.ireturn, 1) := by decide +kernel
theorem dX8_undo_0 : decode cX8_undo 0 = .ok (.aload_n 0, 1) := by decide +kernel
theorem dX8_undo_1 : decode cX8_undo 1 = .ok (.getfield 29, 3) := by decide +kernel
theorem dX8_undo_4 : decode cX8_undo 4 = .ok (.aload_n 0, 1) := by decide +kernel
theorem dX8_undo_5 : decode cX8_undo 5 = .ok (.getfield 19, 3) := by decide +kernel
theorem dX8_undo_8 : decode cX8_undo 8 = .ok (.invokevirtual 246, 3) := by decide +kernel
theorem dX8_undo_11 : decode cX8_undo 11 = .ok (.ifCond .ne 13, 3) := by decide +kernel
theorem dX8_undo_14 : decode cX8_undo 14 = .ok (.new 55, 3) := by decide +kernel
theorem dX8_undo_17 : decode cX8_undo 17 = .ok (.dup, 1) := by decide +kernel
theorem dX8_undo_18 : decode cX8_undo 18 = .ok (.ldc 250, 2) := by decide +kernel
theorem dX8_undo_20 : decode cX8_undo 20 = .ok (.invokespecial 59, 3) := by decide +kernel
theorem dX8_undo_23 : decode cX8_undo 23 = .ok (.athrow, 1) := by decide +kernel
theorem dX8_undo_24 : decode cX8_undo 24 = .ok (.aload_n 0, 1) := by decide +kernel
theorem dX8_undo_25 : decode cX8_undo 25 = .ok (.getfield 29, 3) := by decide +kernel
theorem dX8_undo_28 : decode cX8_undo 28 = .ok (.getfield 252, 3) := by decide +kernel
theorem dX8_undo_31 : decode cX8_undo 31 = .ok (.ireturn, 1) := by decide +kernel
theorem dX8_next_0 : decode cX8_next 0 = .ok (.aload_n 0, 1) := by decide +kernel
theorem dX8_next_1 : decode cX8_next 1 = .ok (.getfield 19, 3) := by decide +kernel
theorem dX8_next_4 : decode cX8_next 4 = .ok (.invokevirtual 253, 3) := by decide +kernel
theorem dX8_next_7 : decode cX8_next 7 = .ok (.ireturn, 1) := by decide +kernel
theorem dX8_whyNot_0 : decode cX8_whyNot 0 = .ok (.aload_n 0, 1) := by decide +kernel
theorem dX8_whyNot_1 : decode cX8_whyNot 1 = .ok (.iload_n 1, 1) := by decide +kernel
theorem dX8_whyNot_2 : decode cX8_whyNot 2 = .ok (.invokevirtual 129, 3) := by decide +kernel
theorem dX8_whyNot_5 : decode cX8_whyNot 5 = .ok (.aload_n 0, 1) := by decide +kernel
theorem dX8_whyNot_6 : decode cX8_whyNot 6 = .ok (.getfield 19, 3) := by decide +kernel
theorem dX8_whyNot_9 : decode cX8_whyNot 9 = .ok (.getfield 133, 3) := by decide +kernel
theorem dX8_whyNot_12 : decode cX8_whyNot 12 = .ok (.iload_n 1, 1) := by decide +kernel
theorem dX8_whyNot_13 : decode cX8_whyNot 13 = .ok (.aaload, 1) := by decide +kernel
theorem dX8_whyNot_14 : decode cX8_whyNot 14 = .ok (.astore_n 2, 1) := by decide +kernel
theorem dX8_whyNot_15 : decode cX8_whyNot 15 = .ok (.aload_n 2, 1) := by decide +kernel
theorem dX8_whyNot_16 : decode cX8_whyNot 16 = .ok (.getfield 145, 3) := by decide +kernel
theorem dX8_whyNot_19 : decode cX8_whyNot 19 = .ok (.iconst 4, 1) := by decide +kernel
theorem dX8_whyNot_20 : decode cX8_whyNot 20 = .ok (.if_icmp .ne 5, 3) := by decide +kernel
theorem dX8_whyNot_23 : decode cX8_whyNot 23 = .ok (.iconst 2, 1) := by decide +kernel
theorem dX8_whyNot_24 : decode cX8_whyNot 24 = .ok (.ireturn, 1) := by decide +kernel
theorem dX8_whyNot_25 : decode cX8_whyNot 25 = .ok (.aload_n 2, 1) := by decide +kernel
theorem dX8_whyNot_26 : decode cX8_whyNot 26 = .ok (.invokevirtual 256, 3) := by decide +kernel
theorem dX8_whyNot_29 : decode cX8_whyNot 29 = .ok (.ifCond .ne 5, 3) := by decide +kernel
theorem dX8_whyNot_32 : decode cX8_whyNot 32 = .ok (.iconst 1, 1) := by decide +kernel
theorem dX8_whyNot_33 : decode cX8_whyNot 33 = .ok (.ireturn, 1) := by decide +kernel
theorem dX8_whyNot_34 : decode cX8_whyNot 34 = .ok (.aload_n 0, 1) := by decide +kernel
theorem dX8_whyNot_35 : decode cX8_whyNot 35 = .ok (.getfield 19, 3) := by decide +kernel
theorem dX8_whyNot_38 : decode cX8_whyNot 38 = .ok (.aload_n 2, 1) := by decide +kernel
theorem dX8_whyNot_39 : decode cX8_whyNot 39 = .ok (.getfield 142, 3) := by decide +kernel
theorem dX8_whyNot_42 : decode cX8_whyNot 42 = .ok (.invokevirtual 167, 3) := by decide +kernel
theorem dX8_whyNot_45 : decode cX8_whyNot 45 = .ok (.getfield 179, 3) := by decide +kernel
theorem dX8_whyNot_48 : decode cX8_whyNot 48 = .ok (.ifCond .ne 5, 3) := by decide +kernel
theorem dX8_whyNot_51 : decode cX8_whyNot 51 = .ok (.iconst 3, 1) := by decide +kernel
theorem dX8_whyNot_52 : decode cX8_whyNot 52 = .ok (.ireturn, 1) := by decide +kernel
theorem dX8_whyNot_53 : decode cX8_whyNot 53 = .ok (.aload_n 0, 1) := by decide +kernel
theorem dX8_whyNot_54 : decode cX8_whyNot 54 = .ok (.getfield 19, 3) := by decide +kernel
theorem dX8_whyNot_57 : decode cX8_whyNot 57 = .ok (.aload_n 2, 1) := by decide +kernel
theorem dX8_whyNot_58 : decode cX8_whyNot 58 = .ok (.invokevirtual 160, 3) := by decide +kernel
theorem dX8_whyNot_61 : decode cX8_whyNot 61 = .ok (.ifCond .eq 7, 3) := by decide +kernel
theorem dX8_whyNot_64 : decode cX8_whyNot 64 = .ok (.iconst 0, 1) := by decide +kernel
theorem dX8_whyNot_65 : decode cX8_whyNot 65 = .ok (.goto 4, 3) := by decide +kernel
theorem dX8_whyNot_68 : decode cX8_whyNot 68 = .ok (.iconst 4, 1) := by decide +kernel
theorem dX8_whyNot_69 : decode cX8_whyNot 69 = .ok (.ireturn, 1) := by decide +kernel
theorem dX8_smallestSet_0 : decode cX8_smallestSet 0 = .ok (.iload_n 1, 1) := by decide +kernel
theorem dX8_smallestSet_1 : decode cX8_smallestSet 1 = .ok (.iconst 1, 1) := by decide +kernel
theorem dX8_smallestSet_2 : decode cX8_smallestSet 2 = .ok (.sipush 150, 3) := by decide +kernel
theorem dX8_smallestSet_5 : decode cX8_smallestSet 5 = .ok (.invokestatic 47, 3) := by decide +kernel
theorem dX8_smallestSet_8 : decode cX8_smallestSet 8 = .ok (.iconst 0, 1) := by decide +kernel
theorem dX8_smallestSet_9 : decode cX8_smallestSet 9 = .ok (.istore_n 3, 1) := by decide +kernel
theorem dX8_smallestSet_10 : decode cX8_smallestSet 10 = .ok (.iconst 1, 1) := by decide +kernel
theorem dX8_smallestSet_11 : decode cX8_smallestSet 11 = .ok (.istore 4, 2) := by decide +kernel
theorem dX8_smallestSet_13 : decode cX8_smallestSet 13 = .ok (.iload 4, 2) := by decide +kernel
theorem dX8_smallestSet_15 : decode cX8_smallestSet 15 = .ok (.iconst 1, 1) := by decide +kernel
theorem dX8_smallestSet_16 : decode cX8_smallestSet 16 = .ok (.aload_n 0, 1) := by decide +kernel
theorem dX8_smallestSet_17 : decode cX8_smallestSet 17 = .ok (.getfield 19, 3) := by decide +kernel
theorem dX8_smallestSet_20 : decode cX8_smallestSet 20 = .ok (.getfield 79, 3) := by decide +kernel
theorem dX8_smallestSet_23 : decode cX8_smallestSet 23 = .ok (.ishl, 1) := by decide +kernel
theorem dX8_smallestSet_24 : decode cX8_smallestSet 24 = .ok (.if_icmp .ge 66, 3) := by decide +kernel
theorem dX8_smallestSet_27 : decode cX8_smallestSet 27 = .ok (.aload_n 0, 1) := by decide +kernel
theorem dX8_smallestSet_28 : decode cX8_smallestSet 28 = .ok (.getfield 19, 3) := by decide +kernel
theorem dX8_smallestSet_31 : decode cX8_smallestSet 31 = .ok (.iload 4, 2) := by decide +kernel
theorem dX8_smallestSet_33 : decode cX8_smallestSet 33 = .ok (.invokevirtual 260, 3) := by decide +kernel
theorem dX8_smallestSet_36 : decode cX8_smallestSet 36 = .ok (.iload_n 1, 1) := by decide +kernel
theorem dX8_smallestSet_37 : decode cX8_smallestSet 37 = .ok (.if_icmp .lt 19, 3) := by decide +kernel
theorem dX8_smallestSet_40 : decode cX8_smallestSet 40 = .ok (.aload_n 0, 1) := by decide +kernel
theorem dX8_smallestSet_41 : decode cX8_smallestSet 41 = .ok (.getfield 19, 3) := by decide +kernel
theorem dX8_smallestSet_44 : decode cX8_smallestSet 44 = .ok (.iload 4, 2) := by decide +kernel
theorem dX8_smallestSet_46 : decode cX8_smallestSet 46 = .ok (.invokevirtual 263, 3) := by decide +kernel
theorem dX8_smallestSet_49 : decode cX8_smallestSet 49 = .ok (.ifCond .eq 7, 3) := by decide +kernel
theorem dX8_smallestSet_52 : decode cX8_smallestSet 52 = .ok (.iconst 1, 1) := by decide +kernel
theorem dX8_smallestSet_53 : decode cX8_smallestSet 53 = .ok (.goto 4, 3) := by decide +kernel
theorem dX8_smallestSet_56 : decode cX8_smallestSet 56 = .ok (.iconst 0, 1) := by decide +kernel
theorem dX8_smallestSet_57 : decode cX8_smallestSet 57 = .ok (.istore 5, 2) := by decide +kernel
theorem dX8_smallestSet_59 : decode cX8_smallestSet 59 = .ok (.iload 5, 2) := by decide +kernel
theorem dX8_smallestSet_61 : decode cX8_smallestSet 61 = .ok (.ifCond .eq 23, 3) := by decide +kernel
theorem dX8_smallestSet_64 : decode cX8_smallestSet 64 = .ok (.iload_n 3, 1) := by decide +kernel
theorem dX8_smallestSet_65 : decode cX8_smallestSet 65 = .ok (.ifCond .eq 16, 3) := by decide +kernel
theorem dX8_smallestSet_68 : decode cX8_smallestSet 68 = .ok (.aload_n 0, 1) := by decide +kernel
theorem dX8_smallestSet_69 : decode cX8_smallestSet 69 = .ok (.getfield 19, 3) := by decide +kernel
theorem dX8_smallestSet_72 : decode cX8_smallestSet 72 = .ok (.iload 4, 2) := by decide +kernel
theorem dX8_smallestSet_74 : decode cX8_smallestSet 74 = .ok (.iload_n 3, 1) := by decide +kernel
theorem dX8_smallestSet_75 : decode cX8_smallestSet 75 = .ok (.invokevirtual 266, 3) := by decide +kernel
theorem dX8_smallestSet_78 : decode cX8_smallestSet 78 = .ok (.ifCond .eq 6, 3) := by decide +kernel
theorem dX8_smallestSet_81 : decode cX8_smallestSet 81 = .ok (.iload 4, 2) := by decide +kernel
theorem dX8_smallestSet_83 : decode cX8_smallestSet 83 = .ok (.istore_n 3, 1) := by decide +kernel
theorem dX8_smallestSet_84 : decode cX8_smallestSet 84 = .ok (.iinc 4 1, 3) := by decide +kernel
theorem dX8_smallestSet_87 : decode cX8_smallestSet 87 = .ok (.goto (-74), 3) := by decide +kernel
theorem dX8_smallestSet_90 : decode cX8_smallestSet 90 = .ok (.iload_n 3, 1) := by decide +kernel
theorem dX8_smallestSet_91 : decode cX8_smallestSet 91 = .ok (.ifCond .ne 6, 3) := by decide +kernel
theorem dX8_smallestSet_94 : decode cX8_smallestSet 94 = .ok (.bipush (-9), 2) := by decide +kernel
theorem dX8_smallestSet_96 : decode cX8_smallestSet 96 = .ok (.ireturn, 1) := by decide +kernel
theorem dX8_smallestSet_97 : decode cX8_smallestSet 97 = .ok (.iload_n 2, 1) := by decide +kernel
theorem dX8_smallestSet_98 : decode cX8_smallestSet 98 = .ok (.ifCond .eq 7, 3) := by decide +kernel
theorem dX8_smallestSet_101 : decode cX8_smallestSet 101 = .ok (.iload_n 3, 1) := by decide +kernel
theorem dX8_smallestSet_102 : decode cX8_smallestSet 102 = .ok (.goto 11, 3) := by decide +kernel
theorem dX8_smallestSet_105 : decode cX8_smallestSet 105 = .ok (.aload_n 0, 1) := by decide +kernel
theorem dX8_smallestSet_106 : decode cX8_smallestSet 106 = .ok (.getfield 19, 3) := by decide +kernel
theorem dX8_smallestSet_109 : decode cX8_smallestSet 109 = .ok (.iload_n 3, 1) := by decide +kernel
theorem dX8_smallestSet_110 : decode cX8_smallestSet 110 = .ok (.invokevirtual 260, 3) := by decide +kernel
theorem dX8_smallestSet_113 : decode cX8_smallestSet 113 = .ok (.ireturn, 1) := by decide +kernel
theorem dX8_ahead_0 : decode cX8_ahead 0 = .ok (.iload_n 1, 1) := by decide +kernel
theorem dX8_ahead_1 : decode cX8_ahead 1 = .ok (.iload_n 2, 1) := by decide +kernel
theorem dX8_ahead_2 : decode cX8_ahead 2 = .ok (.invokestatic 210, 3) := by decide +kernel
theorem dX8_ahead_5 : decode cX8_ahead 5 = .ok (.iload_n 3, 1) := by decide +kernel
theorem dX8_ahead_6 : decode cX8_ahead 6 = .ok (.iconst 0, 1) := by decide +kernel
theorem dX8_ahead_7 : decode cX8_ahead 7 = .ok (.bipush 6, 2) := by decide +kernel
theorem dX8_ahead_9 : decode cX8_ahead 9 = .ok (.invokestatic 47, 3) := by decide +kernel
theorem dX8_ahead_12 : decode cX8_ahead 12 = .ok (.aload_n 0, 1) := by decide +kernel
theorem dX8_ahead_13 : decode cX8_ahead 13 = .ok (.getfield 23, 3) := by decide +kernel
theorem dX8_ahead_16 : decode cX8_ahead 16 = .ok (.aload_n 0, 1) := by decide +kernel
theorem dX8_ahead_17 : decode cX8_ahead 17 = .ok (.getfield 19, 3) := by decide +kernel
theorem dX8_ahead_20 : decode cX8_ahead 20 = .ok (.invokevirtual 269, 3) := by decide +kernel
theorem dX8_ahead_23 : decode cX8_ahead 23 = .ok (.bipush 99, 2) := by decide +kernel
theorem dX8_ahead_25 : decode cX8_ahead 25 = .ok (.istore 4, 2) := by decide +kernel
theorem dX8_ahead_27 : decode cX8_ahead 27 = .ok (.iconst 0, 1) := by decide +kernel
theorem dX8_ahead_28 : decode cX8_ahead 28 = .ok (.istore 5, 2) := by decide +kernel
theorem dX8_ahead_30 : decode cX8_ahead 30 = .ok (.iload 5, 2) := by decide +kernel
theorem dX8_ahead_32 : decode cX8_ahead 32 = .ok (.iload_n 1, 1) := by decide +kernel
theorem dX8_ahead_33 : decode cX8_ahead 33 = .ok (.if_icmp .ge 35, 3) := by decide +kernel
theorem dX8_ahead_36 : decode cX8_ahead 36 = .ok (.aload_n 0, 1) := by decide +kernel
theorem dX8_ahead_37 : decode cX8_ahead 37 = .ok (.getfield 23, 3) := by decide +kernel
theorem dX8_ahead_40 : decode cX8_ahead 40 = .ok (.iconst 1, 1) := by decide +kernel
theorem dX8_ahead_41 : decode cX8_ahead 41 = .ok (.iload_n 2, 1) := by decide +kernel
theorem dX8_ahead_42 : decode cX8_ahead 42 = .ok (.invokevirtual 218, 3) := by decide +kernel
theorem dX8_ahead_45 : decode cX8_ahead 45 = .ok (.iload 4, 2) := by decide +kernel
theorem dX8_ahead_47 : decode cX8_ahead 47 = .ok (.aload_n 0, 1) := by decide +kernel
theorem dX8_ahead_48 : decode cX8_ahead 48 = .ok (.getfield 23, 3) := by decide +kernel
theorem dX8_ahead_51 : decode cX8_ahead 51 = .ok (.getfield 86, 3) := by decide +kernel
theorem dX8_ahead_54 : decode cX8_ahead 54 = .ok (.invokevirtual 98, 3) := by decide +kernel
theorem dX8_ahead_57 : decode cX8_ahead 57 = .ok (.invokestatic 272, 3) := by decide +kernel
theorem dX8_ahead_60 : decode cX8_ahead 60 = .ok (.istore 4, 2) := by decide +kernel
theorem dX8_ahead_62 : decode cX8_ahead 62 = .ok (.iinc 5 1, 3) := by decide +kernel
theorem dX8_ahead_65 : decode cX8_ahead 65 = .ok (.goto (-35), 3) := by decide +kernel
theorem dX8_ahead_68 : decode cX8_ahead 68 = .ok (.iload_n 3, 1) := by decide +kernel
theorem dX8_ahead_69 : decode cX8_ahead 69 = .ok (.tableswitch 137 0 5 #[39, 50, 61, 83, 99, 115], 39) := by decide +kernel
theorem dX8_ahead_108 : decode cX8_ahead 108 = .ok (.aload_n 0, 1) := by decide +kernel
theorem dX8_ahead_109 : decode cX8_ahead 109 = .ok (.getfield 23, 3) := by decide +kernel
theorem dX8_ahead_112 : decode cX8_ahead 112 = .ok (.getfield 86, 3) := by decide +kernel
theorem dX8_ahead_115 : decode cX8_ahead 115 = .ok (.invokevirtual 98, 3) := by decide +kernel
theorem dX8_ahead_118 : decode cX8_ahead 118 = .ok (.ireturn, 1) := by decide +kernel
theorem dX8_ahead_119 : decode cX8_ahead 119 = .ok (.aload_n 0, 1) := by decide +kernel
theorem dX8_ahead_120 : decode cX8_ahead 120 = .ok (.getfield 23, 3) := by decide +kernel
theorem dX8_ahead_123 : decode cX8_ahead 123 = .ok (.getfield 86, 3) := by decide +kernel
theorem dX8_ahead_126 : decode cX8_ahead 126 = .ok (.invokevirtual 278, 3) := by decide +kernel
theorem dX8_ahead_129 : decode cX8_ahead 129 = .ok (.ireturn, 1) := by decide +kernel
theorem dX8_ahead_130 : decode cX8_ahead 130 = .ok (.aload_n 0, 1) := by decide +kernel
theorem dX8_ahead_131 : decode cX8_ahead 131 = .ok (.getfield 23, 3) := by decide +kernel
theorem dX8_ahead_134 : decode cX8_ahead 134 = .ok (.getfield 86, 3) := by decide +kernel
theorem dX8_ahead_137 : decode cX8_ahead 137 = .ok (.getfield 199, 3) := by decide +kernel
theorem dX8_ahead_140 : decode cX8_ahead 140 = .ok (.aload_n 0, 1) := by decide +kernel
theorem dX8_ahead_141 : decode cX8_ahead 141 = .ok (.getfield 19, 3) := by decide +kernel
theorem dX8_ahead_144 : decode cX8_ahead 144 = .ok (.getfield 86, 3) := by decide +kernel
theorem dX8_ahead_147 : decode cX8_ahead 147 = .ok (.getfield 199, 3) := by decide +kernel
theorem dX8_ahead_150 : decode cX8_ahead 150 = .ok (.isub, 1) := by decide +kernel
theorem dX8_ahead_151 : decode cX8_ahead 151 = .ok (.ireturn, 1) := by decide +kernel
theorem dX8_ahead_152 : decode cX8_ahead 152 = .ok (.aload_n 0, 1) := by decide +kernel
theorem dX8_ahead_153 : decode cX8_ahead 153 = .ok (.getfield 23, 3) := by decide +kernel
theorem dX8_ahead_156 : decode cX8_ahead 156 = .ok (.invokevirtual 205, 3) := by decide +kernel
theorem dX8_ahead_159 : decode cX8_ahead 159 = .ok (.aload_n 0, 1) := by decide +kernel
theorem dX8_ahead_160 : decode cX8_ahead 160 = .ok (.getfield 19, 3) := by decide +kernel
theorem dX8_ahead_163 : decode cX8_ahead 163 = .ok (.invokevirtual 205, 3) := by decide +kernel
theorem dX8_ahead_166 : decode cX8_ahead 166 = .ok (.isub, 1) := by decide +kernel
theorem dX8_ahead_167 : decode cX8_ahead 167 = .ok (.ireturn, 1) := by decide +kernel
theorem dX8_ahead_168 : decode cX8_ahead 168 = .ok (.aload_n 0, 1) := by decide +kernel
theorem dX8_ahead_169 : decode cX8_ahead 169 = .ok (.getfield 23, 3) := by decide +kernel
theorem dX8_ahead_172 : decode cX8_ahead 172 = .ok (.invokevirtual 281, 3) := by decide +kernel
theorem dX8_ahead_175 : decode cX8_ahead 175 = .ok (.aload_n 0, 1) := by decide +kernel
theorem dX8_ahead_176 : decode cX8_ahead 176 = .ok (.getfield 19, 3) := by decide +kernel
theorem dX8_ahead_179 : decode cX8_ahead 179 = .ok (.invokevirtual 281, 3) := by decide +kernel
theorem dX8_ahead_182 : decode cX8_ahead 182 = .ok (.isub, 1) := by decide +kernel
theorem dX8_ahead_183 : decode cX8_ahead 183 = .ok (.ireturn, 1) := by decide +kernel
theorem dX8_ahead_184 : decode cX8_ahead 184 = .ok (.aload_n 0, 1) := by decide +kernel
theorem dX8_ahead_185 : decode cX8_ahead 185 = .ok (.getfield 23, 3) := by decide +kernel
theorem dX8_ahead_188 : decode cX8_ahead 188 = .ok (.getfield 104, 3) := by decide +kernel
theorem dX8_ahead_191 : decode cX8_ahead 191 = .ok (.getfield 119, 3) := by decide +kernel
theorem dX8_ahead_194 : decode cX8_ahead 194 = .ok (.aload_n 0, 1) := by decide +kernel
theorem dX8_ahead_195 : decode cX8_ahead 195 = .ok (.getfield 19, 3) := by decide +kernel
theorem dX8_ahead_198 : decode cX8_ahead 198 = .ok (.getfield 104, 3) := by decide +kernel
theorem dX8_ahead_201 : decode cX8_ahead 201 = .ok (.getfield 119, 3) := by decide +kernel
theorem dX8_ahead_204 : decode cX8_ahead 204 = .ok (.isub, 1) := by decide +kernel
theorem dX8_ahead_205 : decode cX8_ahead 205 = .ok (.ireturn, 1) := by decide +kernel
theorem dX8_ahead_206 : decode cX8_ahead 206 = .ok (.iload 4, 2) := by decide +kernel
theorem dX8_ahead_208 : decode cX8_ahead 208 = .ok (.ireturn, 1) := by decide +kernel
theorem dX8_warmAfter_0 : decode cX8_warmAfter 0 = .ok (.iload_n 1, 1) := by decide +kernel
theorem dX8_warmAfter_1 : decode cX8_warmAfter 1 = .ok (.iconst 0, 1) := by decide +kernel
theorem dX8_warmAfter_2 : decode cX8_warmAfter 2 = .ok (.bipush 99, 2) := by decide +kernel
theorem dX8_warmAfter_4 : decode cX8_warmAfter 4 = .ok (.invokestatic 47, 3) := by decide +kernel
theorem dX8_warmAfter_7 : decode cX8_warmAfter 7 = .ok (.iload_n 2, 1) := by decide +kernel
theorem dX8_warmAfter_8 : decode cX8_warmAfter 8 = .ok (.iconst 0, 1) := by decide +kernel
theorem dX8_warmAfter_9 : decode cX8_warmAfter 9 = .ok (.iconst 5, 1) := by decide +kernel
theorem dX8_warmAfter_10 : decode cX8_warmAfter 10 = .ok (.invokestatic 47, 3) := by decide +kernel
theorem dX8_warmAfter_13 : decode cX8_warmAfter 13 = .ok (.aload_n 0, 1) := by decide +kernel
theorem dX8_warmAfter_14 : decode cX8_warmAfter 14 = .ok (.getfield 23, 3) := by decide +kernel
theorem dX8_warmAfter_17 : decode cX8_warmAfter 17 = .ok (.aload_n 0, 1) := by decide +kernel
theorem dX8_warmAfter_18 : decode cX8_warmAfter 18 = .ok (.getfield 19, 3) := by decide +kernel
theorem dX8_warmAfter_21 : decode cX8_warmAfter 21 = .ok (.invokevirtual 269, 3) := by decide +kernel
theorem dX8_warmAfter_24 : decode cX8_warmAfter 24 = .ok (.iconst 0, 1) := by decide +kernel
theorem dX8_warmAfter_25 : decode cX8_warmAfter 25 = .ok (.istore_n 3, 1) := by decide +kernel
theorem dX8_warmAfter_26 : decode cX8_warmAfter 26 = .ok (.iload_n 3, 1) := by decide +kernel
theorem dX8_warmAfter_27 : decode cX8_warmAfter 27 = .ok (.sipush 200, 3) := by decide +kernel
theorem dX8_warmAfter_30 : decode cX8_warmAfter 30 = .ok (.if_icmp .ge 34, 3) := by decide +kernel
theorem dX8_warmAfter_33 : decode cX8_warmAfter 33 = .ok (.aload_n 0, 1) := by decide +kernel
theorem dX8_warmAfter_34 : decode cX8_warmAfter 34 = .ok (.getfield 23, 3) := by decide +kernel
theorem dX8_warmAfter_37 : decode cX8_warmAfter 37 = .ok (.getfield 86, 3) := by decide +kernel
theorem dX8_warmAfter_40 : decode cX8_warmAfter 40 = .ok (.invokevirtual 98, 3) := by decide +kernel
theorem dX8_warmAfter_43 : decode cX8_warmAfter 43 = .ok (.iload_n 1, 1) := by decide +kernel
theorem dX8_warmAfter_44 : decode cX8_warmAfter 44 = .ok (.if_icmp .lt 5, 3) := by decide +kernel
theorem dX8_warmAfter_47 : decode cX8_warmAfter 47 = .ok (.iload_n 3, 1) := by decide +kernel
theorem dX8_warmAfter_48 : decode cX8_warmAfter 48 = .ok (.ireturn, 1) := by decide +kernel
theorem dX8_warmAfter_49 : decode cX8_warmAfter 49 = .ok (.aload_n 0, 1) := by decide +kernel
theorem dX8_warmAfter_50 : decode cX8_warmAfter 50 = .ok (.getfield 23, 3) := by decide +kernel
theorem dX8_warmAfter_53 : decode cX8_warmAfter 53 = .ok (.iconst 1, 1) := by decide +kernel
theorem dX8_warmAfter_54 : decode cX8_warmAfter 54 = .ok (.iload_n 2, 1) := by decide +kernel
theorem dX8_warmAfter_55 : decode cX8_warmAfter 55 = .ok (.invokevirtual 218, 3) := by decide +kernel
theorem dX8_warmAfter_58 : decode cX8_warmAfter 58 = .ok (.iinc 3 1, 3) := by decide +kernel
theorem dX8_warmAfter_61 : decode cX8_warmAfter 61 = .ok (.goto (-35), 3) := by decide +kernel
theorem dX8_warmAfter_64 : decode cX8_warmAfter 64 = .ok (.aload_n 0, 1) := by decide +kernel
theorem dX8_warmAfter_65 : decode cX8_warmAfter 65 = .ok (.getfield 23, 3) := by decide +kernel
theorem dX8_warmAfter_68 : decode cX8_warmAfter 68 = .ok (.getfield 86, 3) := by decide +kernel
theorem dX8_warmAfter_71 : decode cX8_warmAfter 71 = .ok (.invokevirtual 98, 3) := by decide +kernel
theorem dX8_warmAfter_74 : decode cX8_warmAfter 74 = .ok (.iload_n 1, 1) := by decide +kernel
theorem dX8_warmAfter_75 : decode cX8_warmAfter 75 = .ok (.if_icmp .lt 9, 3) := by decide +kernel
theorem dX8_warmAfter_78 : decode cX8_warmAfter 78 = .ok (.sipush 200, 3) := by decide +kernel
theorem dX8_warmAfter_81 : decode cX8_warmAfter 81 = .ok (.goto 5, 3) := by decide +kernel
theorem dX8_warmAfter_84 : decode cX8_warmAfter 84 = .ok (.bipush (-9), 2) := by decide +kernel
theorem dX8_warmAfter_86 : decode cX8_warmAfter 86 = .ok (.ireturn, 1) := by decide +kernel
theorem dX8_bearable_0 : decode cX8_bearable 0 = .ok (.iload_n 1, 1) := by decide +kernel
theorem dX8_bearable_1 : decode cX8_bearable 1 = .ok (.iconst 1, 1) := by decide +kernel
theorem dX8_bearable_2 : decode cX8_bearable 2 = .ok (.bipush 96, 2) := by decide +kernel
theorem dX8_bearable_4 : decode cX8_bearable 4 = .ok (.invokestatic 47, 3) := by decide +kernel
theorem dX8_bearable_7 : decode cX8_bearable 7 = .ok (.iload_n 2, 1) := by decide +kernel
theorem dX8_bearable_8 : decode cX8_bearable 8 = .ok (.bipush 10, 2) := by decide +kernel
theorem dX8_bearable_10 : decode cX8_bearable 10 = .ok (.bipush 80, 2) := by decide +kernel
theorem dX8_bearable_12 : decode cX8_bearable 12 = .ok (.invokestatic 47, 3) := by decide +kernel
theorem dX8_bearable_15 : decode cX8_bearable 15 = .ok (.iconst 5, 1) := by decide +kernel
theorem dX8_bearable_16 : decode cX8_bearable 16 = .ok (.istore_n 3, 1) := by decide +kernel
theorem dX8_bearable_17 : decode cX8_bearable 17 = .ok (.iload_n 3, 1) := by decide +kernel
theorem dX8_bearable_18 : decode cX8_bearable 18 = .ok (.ifCond .lt 21, 3) := by decide +kernel
theorem dX8_bearable_21 : decode cX8_bearable 21 = .ok (.aload_n 0, 1) := by decide +kernel
theorem dX8_bearable_22 : decode cX8_bearable 22 = .ok (.iload_n 1, 1) := by decide +kernel
theorem dX8_bearable_23 : decode cX8_bearable 23 = .ok (.iload_n 3, 1) := by decide +kernel
theorem dX8_bearable_24 : decode cX8_bearable 24 = .ok (.iload_n 2, 1) := by decide +kernel
theorem dX8_bearable_25 : decode cX8_bearable 25 = .ok (.invokevirtual 283, 3) := by decide +kernel
theorem dX8_bearable_28 : decode cX8_bearable 28 = .ok (.ifCond .eq 5, 3) := by decide +kernel
theorem dX8_bearable_31 : decode cX8_bearable 31 = .ok (.iload_n 3, 1) := by decide +kernel
theorem dX8_bearable_32 : decode cX8_bearable 32 = .ok (.ireturn, 1) := by decide +kernel
theorem dX8_bearable_33 : decode cX8_bearable 33 = .ok (.iinc 3 (-1), 3) := by decide +kernel
theorem dX8_bearable_36 : decode cX8_bearable 36 = .ok (.goto (-19), 3) := by decide +kernel
theorem dX8_bearable_39 : decode cX8_bearable 39 = .ok (.bipush (-9), 2) := by decide +kernel
theorem dX8_bearable_41 : decode cX8_bearable 41 = .ok (.ireturn, 1) := by decide +kernel
theorem dX8_cheapestPurge_0 : decode cX8_cheapestPurge 0 = .ok (.iload_n 1, 1) := by decide +kernel
theorem dX8_cheapestPurge_1 : decode cX8_cheapestPurge 1 = .ok (.iload_n 2, 1) := by decide +kernel
theorem dX8_cheapestPurge_2 : decode cX8_cheapestPurge 2 = .ok (.invokestatic 210, 3) := by decide +kernel
theorem dX8_cheapestPurge_5 : decode cX8_cheapestPurge 5 = .ok (.getstatic 287, 3) := by decide +kernel
theorem dX8_cheapestPurge_8 : decode cX8_cheapestPurge 8 = .ok (.iconst 2, 1) := by decide +kernel
theorem dX8_cheapestPurge_9 : decode cX8_cheapestPurge 9 = .ok (.iaload, 1) := by decide +kernel
theorem dX8_cheapestPurge_10 : decode cX8_cheapestPurge 10 = .ok (.istore_n 3, 1) := by decide +kernel
theorem dX8_cheapestPurge_11 : decode cX8_cheapestPurge 11 = .ok (.ldc_w 292, 3) := by decide +kernel
theorem dX8_cheapestPurge_14 : decode cX8_cheapestPurge 14 = .ok (.istore 4, 2) := by decide +kernel
theorem dX8_cheapestPurge_16 : decode cX8_cheapestPurge 16 = .ok (.getstatic 287, 3) := by decide +kernel
theorem dX8_cheapestPurge_19 : decode cX8_cheapestPurge 19 = .ok (.iconst 2, 1) := by decide +kernel
theorem dX8_cheapestPurge_20 : decode cX8_cheapestPurge 20 = .ok (.iaload, 1) := by decide +kernel
theorem dX8_cheapestPurge_21 : decode cX8_cheapestPurge 21 = .ok (.istore 5, 2) := by decide +kernel
theorem dX8_cheapestPurge_23 : decode cX8_cheapestPurge 23 = .ok (.iload 5, 2) := by decide +kernel
theorem dX8_cheapestPurge_25 : decode cX8_cheapestPurge 25 = .ok (.getstatic 293, 3) := by decide +kernel
theorem dX8_cheapestPurge_28 : decode cX8_cheapestPurge 28 = .ok (.iconst 2, 1) := by decide +kernel
theorem dX8_cheapestPurge_29 : decode cX8_cheapestPurge 29 = .ok (.iaload, 1) := by decide +kernel
theorem dX8_cheapestPurge_30 : decode cX8_cheapestPurge 30 = .ok (.if_icmp .gt 63, 3) := by decide +kernel
theorem dX8_cheapestPurge_33 : decode cX8_cheapestPurge 33 = .ok (.aload_n 0, 1) := by decide +kernel
theorem dX8_cheapestPurge_34 : decode cX8_cheapestPurge 34 = .ok (.getfield 23, 3) := by decide +kernel
theorem dX8_cheapestPurge_37 : decode cX8_cheapestPurge 37 = .ok (.aload_n 0, 1) := by decide +kernel
theorem dX8_cheapestPurge_38 : decode cX8_cheapestPurge 38 = .ok (.getfield 19, 3) := by decide +kernel
theorem dX8_cheapestPurge_41 : decode cX8_cheapestPurge 41 = .ok (.invokevirtual 269, 3) := by decide +kernel
theorem dX8_cheapestPurge_44 : decode cX8_cheapestPurge 44 = .ok (.aload_n 0, 1) := by decide +kernel
theorem dX8_cheapestPurge_45 : decode cX8_cheapestPurge 45 = .ok (.getfield 23, 3) := by decide +kernel
theorem dX8_cheapestPurge_48 : decode cX8_cheapestPurge 48 = .ok (.getfield 82, 3) := by decide +kernel
theorem dX8_cheapestPurge_51 : decode cX8_cheapestPurge 51 = .ok (.iconst 2, 1) := by decide +kernel
theorem dX8_cheapestPurge_52 : decode cX8_cheapestPurge 52 = .ok (.iload 5, 2) := by decide +kernel
theorem dX8_cheapestPurge_54 : decode cX8_cheapestPurge 54 = .ok (.iastore, 1) := by decide +kernel
theorem dX8_cheapestPurge_55 : decode cX8_cheapestPurge 55 = .ok (.aload_n 0, 1) := by decide +kernel
theorem dX8_cheapestPurge_56 : decode cX8_cheapestPurge 56 = .ok (.getfield 23, 3) := by decide +kernel
theorem dX8_cheapestPurge_59 : decode cX8_cheapestPurge 59 = .ok (.iload_n 1, 1) := by decide +kernel
theorem dX8_cheapestPurge_60 : decode cX8_cheapestPurge 60 = .ok (.iload_n 2, 1) := by decide +kernel
theorem dX8_cheapestPurge_61 : decode cX8_cheapestPurge 61 = .ok (.invokevirtual 218, 3) := by decide +kernel
theorem dX8_cheapestPurge_64 : decode cX8_cheapestPurge 64 = .ok (.aload_n 0, 1) := by decide +kernel
theorem dX8_cheapestPurge_65 : decode cX8_cheapestPurge 65 = .ok (.getfield 23, 3) := by decide +kernel
theorem dX8_cheapestPurge_68 : decode cX8_cheapestPurge 68 = .ok (.invokevirtual 205, 3) := by decide +kernel
theorem dX8_cheapestPurge_71 : decode cX8_cheapestPurge 71 = .ok (.istore 6, 2) := by decide +kernel
theorem dX8_cheapestPurge_73 : decode cX8_cheapestPurge 73 = .ok (.iload 6, 2) := by decide +kernel
theorem dX8_cheapestPurge_75 : decode cX8_cheapestPurge 75 = .ok (.iload 4, 2) := by decide +kernel
theorem dX8_cheapestPurge_77 : decode cX8_cheapestPurge 77 = .ok (.if_icmp .ge 10, 3) := by decide +kernel
theorem dX8_cheapestPurge_80 : decode cX8_cheapestPurge 80 = .ok (.iload 6, 2) := by decide +kernel
theorem dX8_cheapestPurge_82 : decode cX8_cheapestPurge 82 = .ok (.istore 4, 2) := by decide +kernel
theorem dX8_cheapestPurge_84 : decode cX8_cheapestPurge 84 = .ok (.iload 5, 2) := by decide +kernel
theorem dX8_cheapestPurge_86 : decode cX8_cheapestPurge 86 = .ok (.istore_n 3, 1) := by decide +kernel
theorem dX8_cheapestPurge_87 : decode cX8_cheapestPurge 87 = .ok (.iinc 5 1, 3) := by decide +kernel
theorem dX8_cheapestPurge_90 : decode cX8_cheapestPurge 90 = .ok (.goto (-67), 3) := by decide +kernel
theorem dX8_cheapestPurge_93 : decode cX8_cheapestPurge 93 = .ok (.iload_n 3, 1) := by decide +kernel
theorem dX8_cheapestPurge_94 : decode cX8_cheapestPurge 94 = .ok (.ireturn, 1) := by decide +kernel
theorem dX8_runScript_0 : decode cX8_runScript 0 = .ok (.iload_n 1, 1) := by decide +kernel
theorem dX8_runScript_1 : decode cX8_runScript 1 = .ok (.iconst 1, 1) := by decide +kernel
theorem dX8_runScript_2 : decode cX8_runScript 2 = .ok (.iconst 3, 1) := by decide +kernel
theorem dX8_runScript_3 : decode cX8_runScript 3 = .ok (.invokestatic 47, 3) := by decide +kernel
theorem dX8_runScript_6 : decode cX8_runScript 6 = .ok (.lconst 1, 1) := by decide +kernel
theorem dX8_runScript_7 : decode cX8_runScript 7 = .ok (.lstore 4, 2) := by decide +kernel
theorem dX8_runScript_9 : decode cX8_runScript 9 = .ok (.iconst 1, 1) := by decide +kernel
theorem dX8_runScript_10 : decode cX8_runScript 10 = .ok (.istore 6, 2) := by decide +kernel
theorem dX8_runScript_12 : decode cX8_runScript 12 = .ok (.iload 6, 2) := by decide +kernel
theorem dX8_runScript_14 : decode cX8_runScript 14 = .ok (.iload_n 1, 1) := by decide +kernel
theorem dX8_runScript_15 : decode cX8_runScript 15 = .ok (.if_icmp .ge 17, 3) := by decide +kernel
theorem dX8_runScript_18 : decode cX8_runScript 18 = .ok (.lload 4, 2) := by decide +kernel
theorem dX8_runScript_20 : decode cX8_runScript 20 = .ok (.ldc2_w 296, 3) := by decide +kernel
theorem dX8_runScript_23 : decode cX8_runScript 23 = .ok (.lmul, 1) := by decide +kernel
theorem dX8_runScript_24 : decode cX8_runScript 24 = .ok (.lstore 4, 2) := by decide +kernel
theorem dX8_runScript_26 : decode cX8_runScript 26 = .ok (.iinc 6 1, 3) := by decide +kernel
theorem dX8_runScript_29 : decode cX8_runScript 29 = .ok (.goto (-17), 3) := by decide +kernel
theorem dX8_runScript_32 : decode cX8_runScript 32 = .ok (.lload_n 2, 1) := by decide +kernel
theorem dX8_runScript_33 : decode cX8_runScript 33 = .ok (.lconst 0, 1) := by decide +kernel
theorem dX8_runScript_34 : decode cX8_runScript 34 = .ok (.lcmp, 1) := by decide +kernel
theorem dX8_runScript_35 : decode cX8_runScript 35 = .ok (.ifCond .lt 14, 3) := by decide +kernel
theorem dX8_runScript_38 : decode cX8_runScript 38 = .ok (.lload_n 2, 1) := by decide +kernel
theorem dX8_runScript_39 : decode cX8_runScript 39 = .ok (.lload 4, 2) := by decide +kernel
theorem dX8_runScript_41 : decode cX8_runScript 41 = .ok (.ldc2_w 296, 3) := by decide +kernel
theorem dX8_runScript_44 : decode cX8_runScript 44 = .ok (.lmul, 1) := by decide +kernel
theorem dX8_runScript_45 : decode cX8_runScript 45 = .ok (.lcmp, 1) := by decide +kernel
theorem dX8_runScript_46 : decode cX8_runScript 46 = .ok (.ifCond .lt 14, 3) := by decide +kernel
theorem dX8_runScript_49 : decode cX8_runScript 49 = .ok (.new 228, 3) := by decide +kernel
theorem dX8_runScript_52 : decode cX8_runScript 52 = .ok (.dup, 1) := by decide +kernel
theorem dX8_runScript_53 : decode cX8_runScript 53 = .ok (.ldc_w 298, 3) := by decide +kernel
theorem dX8_runScript_56 : decode cX8_runScript 56 = .ok (.invokespecial 232, 3) := by decide +kernel
theorem dX8_runScript_59 : decode cX8_runScript 59 = .ok (.athrow, 1) := by decide +kernel
theorem dX8_runScript_60 : decode cX8_runScript 60 = .ok (.aload_n 0, 1) := by decide +kernel
theorem dX8_runScript_61 : decode cX8_runScript 61 = .ok (.getfield 23, 3) := by decide +kernel
theorem dX8_runScript_64 : decode cX8_runScript 64 = .ok (.aload_n 0, 1) := by decide +kernel
theorem dX8_runScript_65 : decode cX8_runScript 65 = .ok (.getfield 19, 3) := by decide +kernel
theorem dX8_runScript_68 : decode cX8_runScript 68 = .ok (.invokevirtual 269, 3) := by decide +kernel
theorem dX8_runScript_71 : decode cX8_runScript 71 = .ok (.iconst 0, 1) := by decide +kernel
theorem dX8_runScript_72 : decode cX8_runScript 72 = .ok (.istore 6, 2) := by decide +kernel
theorem dX8_runScript_74 : decode cX8_runScript 74 = .ok (.iload 6, 2) := by decide +kernel
theorem dX8_runScript_76 : decode cX8_runScript 76 = .ok (.iload_n 1, 1) := by decide +kernel
theorem dX8_runScript_77 : decode cX8_runScript 77 = .ok (.if_icmp .ge 88, 3) := by decide +kernel
theorem dX8_runScript_80 : decode cX8_runScript 80 = .ok (.lload 4, 2) := by decide +kernel
theorem dX8_runScript_82 : decode cX8_runScript 82 = .ok (.lconst 0, 1) := by decide +kernel
theorem dX8_runScript_83 : decode cX8_runScript 83 = .ok (.lcmp, 1) := by decide +kernel
theorem dX8_runScript_84 : decode cX8_runScript 84 = .ok (.ifCond .le 81, 3) := by decide +kernel
theorem dX8_runScript_87 : decode cX8_runScript 87 = .ok (.lload_n 2, 1) := by decide +kernel
theorem dX8_runScript_88 : decode cX8_runScript 88 = .ok (.lload 4, 2) := by decide +kernel
theorem dX8_runScript_90 : decode cX8_runScript 90 = .ok (.ldiv, 1) := by decide +kernel
theorem dX8_runScript_91 : decode cX8_runScript 91 = .ok (.ldc2_w 296, 3) := by decide +kernel
theorem dX8_runScript_94 : decode cX8_runScript 94 = .ok (.lrem, 1) := by decide +kernel
theorem dX8_runScript_95 : decode cX8_runScript 95 = .ok (.l2i, 1) := by decide +kernel
theorem dX8_runScript_96 : decode cX8_runScript 96 = .ok (.istore 7, 2) := by decide +kernel
theorem dX8_runScript_98 : decode cX8_runScript 98 = .ok (.iload 7, 2) := by decide +kernel
theorem dX8_runScript_100 : decode cX8_runScript 100 = .ok (.sipush 10000, 3) := by decide +kernel
theorem dX8_runScript_103 : decode cX8_runScript 103 = .ok (.idiv, 1) := by decide +kernel
theorem dX8_runScript_104 : decode cX8_runScript 104 = .ok (.istore 8, 2) := by decide +kernel
theorem dX8_runScript_106 : decode cX8_runScript 106 = .ok (.iload 7, 2) := by decide +kernel
theorem dX8_runScript_108 : decode cX8_runScript 108 = .ok (.sipush 1000, 3) := by decide +kernel
theorem dX8_runScript_111 : decode cX8_runScript 111 = .ok (.idiv, 1) := by decide +kernel
theorem dX8_runScript_112 : decode cX8_runScript 112 = .ok (.bipush 10, 2) := by decide +kernel
theorem dX8_runScript_114 : decode cX8_runScript 114 = .ok (.irem, 1) := by decide +kernel
theorem dX8_runScript_115 : decode cX8_runScript 115 = .ok (.istore 9, 2) := by decide +kernel
theorem dX8_runScript_117 : decode cX8_runScript 117 = .ok (.iload 7, 2) := by decide +kernel
theorem dX8_runScript_119 : decode cX8_runScript 119 = .ok (.sipush 1000, 3) := by decide +kernel
theorem dX8_runScript_122 : decode cX8_runScript 122 = .ok (.irem, 1) := by decide +kernel
theorem dX8_runScript_123 : decode cX8_runScript 123 = .ok (.istore 10, 2) := by decide +kernel
theorem dX8_runScript_125 : decode cX8_runScript 125 = .ok (.aload_n 0, 1) := by decide +kernel
theorem dX8_runScript_126 : decode cX8_runScript 126 = .ok (.iload 8, 2) := by decide +kernel
theorem dX8_runScript_128 : decode cX8_runScript 128 = .ok (.iload 9, 2) := by decide +kernel
theorem dX8_runScript_130 : decode cX8_runScript 130 = .ok (.iload 10, 2) := by decide +kernel
theorem dX8_runScript_132 : decode cX8_runScript 132 = .ok (.invokevirtual 300, 3) := by decide +kernel
theorem dX8_runScript_135 : decode cX8_runScript 135 = .ok (.ifCond .ne 6, 3) := by decide +kernel
theorem dX8_runScript_138 : decode cX8_runScript 138 = .ok (.iload 6, 2) := by decide +kernel
theorem dX8_runScript_140 : decode cX8_runScript 140 = .ok (.ireturn, 1) := by decide +kernel
theorem dX8_runScript_141 : decode cX8_runScript 141 = .ok (.aload_n 0, 1) := by decide +kernel
theorem dX8_runScript_142 : decode cX8_runScript 142 = .ok (.iload 8, 2) := by decide +kernel
theorem dX8_runScript_144 : decode cX8_runScript 144 = .ok (.iload 9, 2) := by decide +kernel
theorem dX8_runScript_146 : decode cX8_runScript 146 = .ok (.iload 10, 2) := by decide +kernel
theorem dX8_runScript_148 : decode cX8_runScript 148 = .ok (.invokevirtual 303, 3) := by decide +kernel
theorem dX8_runScript_151 : decode cX8_runScript 151 = .ok (.lload 4, 2) := by decide +kernel
theorem dX8_runScript_153 : decode cX8_runScript 153 = .ok (.ldc2_w 296, 3) := by decide +kernel
theorem dX8_runScript_156 : decode cX8_runScript 156 = .ok (.ldiv, 1) := by decide +kernel
theorem dX8_runScript_157 : decode cX8_runScript 157 = .ok (.lstore 4, 2) := by decide +kernel
theorem dX8_runScript_159 : decode cX8_runScript 159 = .ok (.iinc 6 1, 3) := by decide +kernel
theorem dX8_runScript_162 : decode cX8_runScript 162 = .ok (.goto (-88), 3) := by decide +kernel
theorem dX8_runScript_165 : decode cX8_runScript 165 = .ok (.bipush (-9), 2) := by decide +kernel
theorem dX8_runScript_167 : decode cX8_runScript 167 = .ok (.ireturn, 1) := by decide +kernel
theorem dX8_simulate_0 : decode cX8_simulate 0 = .ok (.iload_n 3, 1) := by decide +kernel
theorem dX8_simulate_1 : decode cX8_simulate 1 = .ok (.iconst 1, 1) := by decide +kernel
theorem dX8_simulate_2 : decode cX8_simulate 2 = .ok (.bipush 96, 2) := by decide +kernel
theorem dX8_simulate_4 : decode cX8_simulate 4 = .ok (.invokestatic 47, 3) := by decide +kernel
theorem dX8_simulate_7 : decode cX8_simulate 7 = .ok (.aload_n 0, 1) := by decide +kernel
theorem dX8_simulate_8 : decode cX8_simulate 8 = .ok (.getfield 23, 3) := by decide +kernel
theorem dX8_simulate_11 : decode cX8_simulate 11 = .ok (.aload_n 0, 1) := by decide +kernel
theorem dX8_simulate_12 : decode cX8_simulate 12 = .ok (.getfield 19, 3) := by decide +kernel
theorem dX8_simulate_15 : decode cX8_simulate 15 = .ok (.invokevirtual 269, 3) := by decide +kernel
theorem dX8_simulate_18 : decode cX8_simulate 18 = .ok (.lload_n 1, 1) := by decide +kernel
theorem dX8_simulate_19 : decode cX8_simulate 19 = .ok (.lstore 4, 2) := by decide +kernel
theorem dX8_simulate_21 : decode cX8_simulate 21 = .ok (.iconst 0, 1) := by decide +kernel
theorem dX8_simulate_22 : decode cX8_simulate 22 = .ok (.istore 6, 2) := by decide +kernel
theorem dX8_simulate_24 : decode cX8_simulate 24 = .ok (.iload 6, 2) := by decide +kernel
theorem dX8_simulate_26 : decode cX8_simulate 26 = .ok (.iload_n 3, 1) := by decide +kernel
theorem dX8_simulate_27 : decode cX8_simulate 27 = .ok (.if_icmp .ge 91, 3) := by decide +kernel
theorem dX8_simulate_30 : decode cX8_simulate 30 = .ok (.lload 4, 2) := by decide +kernel
theorem dX8_simulate_32 : decode cX8_simulate 32 = .ok (.ldc2_w 306, 3) := by decide +kernel
theorem dX8_simulate_35 : decode cX8_simulate 35 = .ok (.lmul, 1) := by decide +kernel
theorem dX8_simulate_36 : decode cX8_simulate 36 = .ok (.ldc2_w 308, 3) := by decide +kernel
theorem dX8_simulate_39 : decode cX8_simulate 39 = .ok (.ladd, 1) := by decide +kernel
theorem dX8_simulate_40 : decode cX8_simulate 40 = .ok (.lstore 4, 2) := by decide +kernel
theorem dX8_simulate_42 : decode cX8_simulate 42 = .ok (.lload 4, 2) := by decide +kernel
theorem dX8_simulate_44 : decode cX8_simulate 44 = .ok (.bipush 33, 2) := by decide +kernel
theorem dX8_simulate_46 : decode cX8_simulate 46 = .ok (.lushr, 1) := by decide +kernel
theorem dX8_simulate_47 : decode cX8_simulate 47 = .ok (.l2i, 1) := by decide +kernel
theorem dX8_simulate_48 : decode cX8_simulate 48 = .ok (.istore 7, 2) := by decide +kernel
theorem dX8_simulate_50 : decode cX8_simulate 50 = .ok (.iload 7, 2) := by decide +kernel
theorem dX8_simulate_52 : decode cX8_simulate 52 = .ok (.bipush 16, 2) := by decide +kernel
theorem dX8_simulate_54 : decode cX8_simulate 54 = .ok (.irem, 1) := by decide +kernel
theorem dX8_simulate_55 : decode cX8_simulate 55 = .ok (.ifCond .ne 42, 3) := by decide +kernel
theorem dX8_simulate_58 : decode cX8_simulate 58 = .ok (.iload 7, 2) := by decide +kernel
theorem dX8_simulate_60 : decode cX8_simulate 60 = .ok (.bipush 16, 2) := by decide +kernel
theorem dX8_simulate_62 : decode cX8_simulate 62 = .ok (.idiv, 1) := by decide +kernel
theorem dX8_simulate_63 : decode cX8_simulate 63 = .ok (.iconst 2, 1) := by decide +kernel
theorem dX8_simulate_64 : decode cX8_simulate 64 = .ok (.irem, 1) := by decide +kernel
theorem dX8_simulate_65 : decode cX8_simulate 65 = .ok (.istore 8, 2) := by decide +kernel
theorem dX8_simulate_67 : decode cX8_simulate 67 = .ok (.aload_n 0, 1) := by decide +kernel
theorem dX8_simulate_68 : decode cX8_simulate 68 = .ok (.getfield 23, 3) := by decide +kernel
theorem dX8_simulate_71 : decode cX8_simulate 71 = .ok (.iload 8, 2) := by decide +kernel
theorem dX8_simulate_73 : decode cX8_simulate 73 = .ok (.aload_n 0, 1) := by decide +kernel
theorem dX8_simulate_74 : decode cX8_simulate 74 = .ok (.getfield 23, 3) := by decide +kernel
theorem dX8_simulate_77 : decode cX8_simulate 77 = .ok (.iload 8, 2) := by decide +kernel
theorem dX8_simulate_79 : decode cX8_simulate 79 = .ok (.invokevirtual 167, 3) := by decide +kernel
theorem dX8_simulate_82 : decode cX8_simulate 82 = .ok (.getfield 179, 3) := by decide +kernel
theorem dX8_simulate_85 : decode cX8_simulate 85 = .ok (.ifCond .ne 7, 3) := by decide +kernel
theorem dX8_simulate_88 : decode cX8_simulate 88 = .ok (.iconst 1, 1) := by decide +kernel
theorem dX8_simulate_89 : decode cX8_simulate 89 = .ok (.goto 4, 3) := by decide +kernel
theorem dX8_simulate_92 : decode cX8_simulate 92 = .ok (.iconst 0, 1) := by decide +kernel
theorem dX8_simulate_93 : decode cX8_simulate 93 = .ok (.invokevirtual 233, 3) := by decide +kernel
theorem dX8_simulate_96 : decode cX8_simulate 96 = .ok (.pop, 1) := by decide +kernel
theorem dX8_simulate_97 : decode cX8_simulate 97 = .ok (.aload_n 0, 1) := by decide +kernel
theorem dX8_simulate_98 : decode cX8_simulate 98 = .ok (.getfield 23, 3) := by decide +kernel
theorem dX8_simulate_101 : decode cX8_simulate 101 = .ok (.iconst 1, 1) := by decide +kernel
theorem dX8_simulate_102 : decode cX8_simulate 102 = .ok (.iload 7, 2) := by decide +kernel
theorem dX8_simulate_104 : decode cX8_simulate 104 = .ok (.bipush 64, 2) := by decide +kernel
theorem dX8_simulate_106 : decode cX8_simulate 106 = .ok (.idiv, 1) := by decide +kernel
theorem dX8_simulate_107 : decode cX8_simulate 107 = .ok (.iconst 4, 1) := by decide +kernel
theorem dX8_simulate_108 : decode cX8_simulate 108 = .ok (.irem, 1) := by decide +kernel
theorem dX8_simulate_109 : decode cX8_simulate 109 = .ok (.invokevirtual 218, 3) := by decide +kernel
theorem dX8_simulate_112 : decode cX8_simulate 112 = .ok (.iinc 6 1, 3) := by decide +kernel
theorem dX8_simulate_115 : decode cX8_simulate 115 = .ok (.goto (-91), 3) := by decide +kernel
theorem dX8_simulate_118 : decode cX8_simulate 118 = .ok (.sipush 1000, 3) := by decide +kernel
theorem dX8_simulate_121 : decode cX8_simulate 121 = .ok (.aload_n 0, 1) := by decide +kernel
theorem dX8_simulate_122 : decode cX8_simulate 122 = .ok (.getfield 23, 3) := by decide +kernel
theorem dX8_simulate_125 : decode cX8_simulate 125 = .ok (.invokevirtual 205, 3) := by decide +kernel
theorem dX8_simulate_128 : decode cX8_simulate 128 = .ok (.aload_n 0, 1) := by decide +kernel
theorem dX8_simulate_129 : decode cX8_simulate 129 = .ok (.getfield 19, 3) := by decide +kernel
theorem dX8_simulate_132 : decode cX8_simulate 132 = .ok (.invokevirtual 205, 3) := by decide +kernel
theorem dX8_simulate_135 : decode cX8_simulate 135 = .ok (.isub, 1) := by decide +kernel
theorem dX8_simulate_136 : decode cX8_simulate 136 = .ok (.imul, 1) := by decide +kernel
theorem dX8_simulate_137 : decode cX8_simulate 137 = .ok (.aload_n 0, 1) := by decide +kernel
theorem dX8_simulate_138 : decode cX8_simulate 138 = .ok (.getfield 23, 3) := by decide +kernel
theorem dX8_simulate_141 : decode cX8_simulate 141 = .ok (.getfield 86, 3) := by decide +kernel
theorem dX8_simulate_144 : decode cX8_simulate 144 = .ok (.invokevirtual 98, 3) := by decide +kernel
theorem dX8_simulate_147 : decode cX8_simulate 147 = .ok (.iadd, 1) := by decide +kernel
theorem dX8_simulate_148 : decode cX8_simulate 148 = .ok (.ireturn, 1) := by decide +kernel
theorem dX8_save_0 : decode cX8_save 0 = .ok (.iload_n 1, 1) := by decide +kernel
theorem dX8_save_1 : decode cX8_save 1 = .ok (.invokestatic 310, 3) := by decide +kernel
theorem dX8_save_4 : decode cX8_save 4 = .ok (.iload_n 1, 1) := by decide +kernel
theorem dX8_save_5 : decode cX8_save 5 = .ok (.ifCond .ne 10, 3) := by decide +kernel
theorem dX8_save_8 : decode cX8_save 8 = .ok (.aload_n 0, 1) := by decide +kernel
theorem dX8_save_9 : decode cX8_save 9 = .ok (.getfield 36, 3) := by decide +kernel
theorem dX8_save_12 : decode cX8_save 12 = .ok (.goto 7, 3) := by decide +kernel
theorem dX8_save_15 : decode cX8_save 15 = .ok (.aload_n 0, 1) := by decide +kernel
theorem dX8_save_16 : decode cX8_save 16 = .ok (.getfield 40, 3) := by decide +kernel
theorem dX8_save_19 : decode cX8_save 19 = .ok (.astore_n 2, 1) := by decide +kernel
theorem dX8_save_20 : decode cX8_save 20 = .ok (.aload_n 2, 1) := by decide +kernel
theorem dX8_save_21 : decode cX8_save 21 = .ok (.getfield 313, 3) := by decide +kernel
theorem dX8_save_24 : decode cX8_save 24 = .ok (.aload_n 0, 1) := by decide +kernel
theorem dX8_save_25 : decode cX8_save 25 = .ok (.getfield 19, 3) := by decide +kernel
theorem dX8_save_28 : decode cX8_save 28 = .ok (.invokevirtual 269, 3) := by decide +kernel
theorem dX8_save_31 : decode cX8_save 31 = .ok (.aload_n 2, 1) := by decide +kernel
theorem dX8_save_32 : decode cX8_save 32 = .ok (.iconst 1, 1) := by decide +kernel
theorem dX8_save_33 : decode cX8_save 33 = .ok (.putfield 75, 3) := by decide +kernel
theorem dX8_save_36 : decode cX8_save 36 = .ok (.aload_n 0, 1) := by decide +kernel
theorem dX8_save_37 : decode cX8_save 37 = .ok (.getfield 19, 3) := by decide +kernel
theorem dX8_save_40 : decode cX8_save 40 = .ok (.getfield 95, 3) := by decide +kernel
theorem dX8_save_43 : decode cX8_save 43 = .ok (.ireturn, 1) := by decide +kernel
theorem dX8_restore_0 : decode cX8_restore 0 = .ok (.iload_n 1, 1) := by decide +kernel
theorem dX8_restore_1 : decode cX8_restore 1 = .ok (.invokestatic 310, 3) := by decide +kernel
theorem dX8_restore_4 : decode cX8_restore 4 = .ok (.iload_n 1, 1) := by decide +kernel
theorem dX8_restore_5 : decode cX8_restore 5 = .ok (.ifCond .ne 10, 3) := by decide +kernel
theorem dX8_restore_8 : decode cX8_restore 8 = .ok (.aload_n 0, 1) := by decide +kernel
theorem dX8_restore_9 : decode cX8_restore 9 = .ok (.getfield 36, 3) := by decide +kernel
theorem dX8_restore_12 : decode cX8_restore 12 = .ok (.goto 7, 3) := by decide +kernel
theorem dX8_restore_15 : decode cX8_restore 15 = .ok (.aload_n 0, 1) := by decide +kernel
theorem dX8_restore_16 : decode cX8_restore 16 = .ok (.getfield 40, 3) := by decide +kernel
theorem dX8_restore_19 : decode cX8_restore 19 = .ok (.astore_n 2, 1) := by decide +kernel
theorem dX8_restore_20 : decode cX8_restore 20 = .ok (.aload_n 2, 1) := by decide +kernel
theorem dX8_restore_21 : decode cX8_restore 21 = .ok (.getfield 75, 3) := by decide +kernel
theorem dX8_restore_24 : decode cX8_restore 24 = .ok (.ifCond .ne 14, 3) := by decide +kernel
theorem dX8_restore_27 : decode cX8_restore 27 = .ok (.new 55, 3) := by decide +kernel
theorem dX8_restore_30 : decode cX8_restore 30 = .ok (.dup, 1) := by decide +kernel
theorem dX8_restore_31 : decode cX8_restore 31 = .ok (.ldc_w 316, 3) := by decide +kernel
theorem dX8_restore_34 : decode cX8_restore 34 = .ok (.invokespecial 59, 3) := by decide +kernel
theorem dX8_restore_37 : decode cX8_restore 37 = .ok (.athrow, 1) := by decide +kernel
theorem dX8_restore_38 : decode cX8_restore 38 = .ok (.aload_n 0, 1) := by decide +kernel
theorem dX8_restore_39 : decode cX8_restore 39 = .ok (.getfield 19, 3) := by decide +kernel
theorem dX8_restore_42 : decode cX8_restore 42 = .ok (.aload_n 2, 1) := by decide +kernel
theorem dX8_restore_43 : decode cX8_restore 43 = .ok (.getfield 313, 3) := by decide +kernel
theorem dX8_restore_46 : decode cX8_restore 46 = .ok (.invokevirtual 269, 3) := by decide +kernel
theorem dX8_restore_49 : decode cX8_restore 49 = .ok (.aload_n 0, 1) := by decide +kernel
theorem dX8_restore_50 : decode cX8_restore 50 = .ok (.getfield 29, 3) := by decide +kernel
theorem dX8_restore_53 : decode cX8_restore 53 = .ok (.invokevirtual 72, 3) := by decide +kernel
theorem dX8_restore_56 : decode cX8_restore 56 = .ok (.aload_n 0, 1) := by decide +kernel
theorem dX8_restore_57 : decode cX8_restore 57 = .ok (.getfield 19, 3) := by decide +kernel
theorem dX8_restore_60 : decode cX8_restore 60 = .ok (.getfield 95, 3) := by decide +kernel
theorem dX8_restore_63 : decode cX8_restore 63 = .ok (.ireturn, 1) := by decide +kernel
theorem dX8_requireWithin_0 : decode cX8_requireWithin 0 = .ok (.iload_n 0, 1) := by decide +kernel
theorem dX8_requireWithin_1 : decode cX8_requireWithin 1 = .ok (.iload_n 1, 1) := by decide +kernel
theorem dX8_requireWithin_2 : decode cX8_requireWithin 2 = .ok (.if_icmp .lt 8, 3) := by decide +kernel
theorem dX8_requireWithin_5 : decode cX8_requireWithin 5 = .ok (.iload_n 0, 1) := by decide +kernel
theorem dX8_requireWithin_6 : decode cX8_requireWithin 6 = .ok (.iload_n 2, 1) := by decide +kernel
theorem dX8_requireWithin_7 : decode cX8_requireWithin 7 = .ok (.if_icmp .le 14, 3) := by decide +kernel
theorem dX8_requireWithin_10 : decode cX8_requireWithin 10 = .ok (.new 228, 3) := by decide +kernel
theorem dX8_requireWithin_13 : decode cX8_requireWithin 13 = .ok (.dup, 1) := by decide +kernel
theorem dX8_requireWithin_14 : decode cX8_requireWithin 14 = .ok (.ldc_w 318, 3) := by decide +kernel
theorem dX8_requireWithin_17 : decode cX8_requireWithin 17 = .ok (.invokespecial 232, 3) := by decide +kernel
theorem dX8_requireWithin_20 : decode cX8_requireWithin 20 = .ok (.athrow, 1) := by decide +kernel
theorem dX8_requireWithin_21 : decode cX8_requireWithin 21 = .ok (.return_, 1) := by decide +kernel
theorem dX8_requireTicks_0 : decode cX8_requireTicks 0 = .ok (.iload_n 0, 1) := by decide +kernel
theorem dX8_requireTicks_1 : decode cX8_requireTicks 1 = .ok (.iconst 1, 1) := by decide +kernel
theorem dX8_requireTicks_2 : decode cX8_requireTicks 2 = .ok (.bipush 96, 2) := by decide +kernel
theorem dX8_requireTicks_4 : decode cX8_requireTicks 4 = .ok (.invokestatic 47, 3) := by decide +kernel
theorem dX8_requireTicks_7 : decode cX8_requireTicks 7 = .ok (.iload_n 1, 1) := by decide +kernel
theorem dX8_requireTicks_8 : decode cX8_requireTicks 8 = .ok (.iconst 0, 1) := by decide +kernel
theorem dX8_requireTicks_9 : decode cX8_requireTicks 9 = .ok (.iconst 5, 1) := by decide +kernel
theorem dX8_requireTicks_10 : decode cX8_requireTicks 10 = .ok (.invokestatic 47, 3) := by decide +kernel
theorem dX8_requireTicks_13 : decode cX8_requireTicks 13 = .ok (.return_, 1) := by decide +kernel
theorem dX8_requireFlue_0 : decode cX8_requireFlue 0 = .ok (.iload_n 0, 1) := by decide +kernel
theorem dX8_requireFlue_1 : decode cX8_requireFlue 1 = .ok (.ifCond .lt 8, 3) := by decide +kernel
theorem dX8_requireFlue_4 : decode cX8_requireFlue 4 = .ok (.iload_n 0, 1) := by decide +kernel
theorem dX8_requireFlue_5 : decode cX8_requireFlue 5 = .ok (.iconst 2, 1) := by decide +kernel
theorem dX8_requireFlue_6 : decode cX8_requireFlue 6 = .ok (.if_icmp .lt 14, 3) := by decide +kernel
theorem dX8_requireFlue_9 : decode cX8_requireFlue 9 = .ok (.new 185, 3) := by decide +kernel
theorem dX8_requireFlue_12 : decode cX8_requireFlue 12 = .ok (.dup, 1) := by decide +kernel
theorem dX8_requireFlue_13 : decode cX8_requireFlue 13 = .ok (.ldc_w 320, 3) := by decide +kernel
theorem dX8_requireFlue_16 : decode cX8_requireFlue 16 = .ok (.invokespecial 189, 3) := by decide +kernel
theorem dX8_requireFlue_19 : decode cX8_requireFlue 19 = .ok (.athrow, 1) := by decide +kernel
theorem dX8_requireFlue_20 : decode cX8_requireFlue 20 = .ok (.return_, 1) := by decide +kernel
theorem dX8_requireSlot_0 : decode cX8_requireSlot 0 = .ok (.iload_n 0, 1) := by decide +kernel
theorem dX8_requireSlot_1 : decode cX8_requireSlot 1 = .ok (.ifCond .eq 19, 3) := by decide +kernel
theorem dX8_requireSlot_4 : decode cX8_requireSlot 4 = .ok (.iload_n 0, 1) := by decide +kernel
theorem dX8_requireSlot_5 : decode cX8_requireSlot 5 = .ok (.iconst 1, 1) := by decide +kernel
theorem dX8_requireSlot_6 : decode cX8_requireSlot 6 = .ok (.if_icmp .eq 14, 3) := by decide +kernel
theorem dX8_requireSlot_9 : decode cX8_requireSlot 9 = .ok (.new 185, 3) := by decide +kernel
theorem dX8_requireSlot_12 : decode cX8_requireSlot 12 = .ok (.dup, 1) := by decide +kernel
theorem dX8_requireSlot_13 : decode cX8_requireSlot 13 = .ok (.ldc_w 322, 3) := by decide +kernel
theorem dX8_requireSlot_16 : decode cX8_requireSlot 16 = .ok (.invokespecial 189, 3) := by decide +kernel
theorem dX8_requireSlot_19 : decode cX8_requireSlot 19 = .ok (.athrow, 1) := by decide +kernel
theorem dX8_requireSlot_20 : decode cX8_requireSlot 20 = .ok (.return_, 1) := by decide +kernel
theorem dX8_requireBoiler_0 : decode cX8_requireBoiler 0 = .ok (.aload_n 0, 1) := by decide +kernel
theorem dX8_requireBoiler_1 : decode cX8_requireBoiler 1 = .ok (.getfield 19, 3) := by decide +kernel
theorem dX8_requireBoiler_4 : decode cX8_requireBoiler 4 = .ok (.iload_n 1, 1) := by decide +kernel
theorem dX8_requireBoiler_5 : decode cX8_requireBoiler 5 = .ok (.invokevirtual 324, 3) := by decide +kernel
theorem dX8_requireBoiler_8 : decode cX8_requireBoiler 8 = .ok (.ifCond .ne 14, 3) := by decide +kernel
theorem dX8_requireBoiler_11 : decode cX8_requireBoiler 11 = .ok (.new 185, 3) := by decide +kernel
theorem dX8_requireBoiler_14 : decode cX8_requireBoiler 14 = .ok (.dup, 1) := by decide +kernel
theorem dX8_requireBoiler_15 : decode cX8_requireBoiler 15 = .ok (.ldc_w 327, 3) := by decide +kernel
theorem dX8_requireBoiler_18 : decode cX8_requireBoiler 18 = .ok (.invokespecial 189, 3) := by decide +kernel
theorem dX8_requireBoiler_21 : decode cX8_requireBoiler 21 = .ok (.athrow, 1) := by decide +kernel
theorem dX8_requireBoiler_22 : decode cX8_requireBoiler 22 = .ok (.return_, 1) := by decide +kernel
theorem dX8_isSetting_0 : decode cX8_isSetting 0 = .ok (.iload_n 0, 1) := by decide +kernel
theorem dX8_isSetting_1 : decode cX8_isSetting 1 = .ok (.ifCond .lt 31, 3) := by decide +kernel
theorem dX8_isSetting_4 : decode cX8_isSetting 4 = .ok (.iload_n 0, 1) := by decide +kernel
theorem dX8_isSetting_5 : decode cX8_isSetting 5 = .ok (.bipush 6, 2) := by decide +kernel
theorem dX8_isSetting_7 : decode cX8_isSetting 7 = .ok (.if_icmp .ge 25, 3) := by decide +kernel
theorem dX8_isSetting_10 : decode cX8_isSetting 10 = .ok (.iload_n 1, 1) := by decide +kernel
theorem dX8_isSetting_11 : decode cX8_isSetting 11 = .ok (.getstatic 287, 3) := by decide +kernel
theorem dX8_isSetting_14 : decode cX8_isSetting 14 = .ok (.iload_n 0, 1) := by decide +kernel
theorem dX8_isSetting_15 : decode cX8_isSetting 15 = .ok (.iaload, 1) := by decide +kernel
theorem dX8_isSetting_16 : decode cX8_isSetting 16 = .ok (.if_icmp .lt 16, 3) := by decide +kernel
theorem dX8_isSetting_19 : decode cX8_isSetting 19 = .ok (.iload_n 1, 1) := by decide +kernel
theorem dX8_isSetting_20 : decode cX8_isSetting 20 = .ok (.getstatic 293, 3) := by decide +kernel
theorem dX8_isSetting_23 : decode cX8_isSetting 23 = .ok (.iload_n 0, 1) := by decide +kernel
theorem dX8_isSetting_24 : decode cX8_isSetting 24 = .ok (.iaload, 1) := by decide +kernel
theorem dX8_isSetting_25 : decode cX8_isSetting 25 = .ok (.if_icmp .gt 7, 3) := by decide +kernel
theorem dX8_isSetting_28 : decode cX8_isSetting 28 = .ok (.iconst 1, 1) := by decide +kernel
theorem dX8_isSetting_29 : decode cX8_isSetting 29 = .ok (.goto 4, 3) := by decide +kernel
theorem dX8_isSetting_32 : decode cX8_isSetting 32 = .ok (.iconst 0, 1) := by decide +kernel
theorem dX8_isSetting_33 : decode cX8_isSetting 33 = .ok (.ireturn, 1) := by decide +kernel
theorem dX8_staysHot_0 : decode cX8_staysHot 0 = .ok (.aload_n 0, 1) := by decide +kernel
theorem dX8_staysHot_1 : decode cX8_staysHot 1 = .ok (.getfield 23, 3) := by decide +kernel
theorem dX8_staysHot_4 : decode cX8_staysHot 4 = .ok (.aload_n 0, 1) := by decide +kernel
theorem dX8_staysHot_5 : decode cX8_staysHot 5 = .ok (.getfield 19, 3) := by decide +kernel
theorem dX8_staysHot_8 : decode cX8_staysHot 8 = .ok (.invokevirtual 269, 3) := by decide +kernel
theorem dX8_staysHot_11 : decode cX8_staysHot 11 = .ok (.iconst 0, 1) := by decide +kernel
theorem dX8_staysHot_12 : decode cX8_staysHot 12 = .ok (.istore 4, 2) := by decide +kernel
theorem dX8_staysHot_14 : decode cX8_staysHot 14 = .ok (.iload 4, 2) := by decide +kernel
theorem dX8_staysHot_16 : decode cX8_staysHot 16 = .ok (.iload_n 1, 1) := by decide +kernel
theorem dX8_staysHot_17 : decode cX8_staysHot 17 = .ok (.if_icmp .ge 34, 3) := by decide +kernel
theorem dX8_staysHot_20 : decode cX8_staysHot 20 = .ok (.aload_n 0, 1) := by decide +kernel
theorem dX8_staysHot_21 : decode cX8_staysHot 21 = .ok (.getfield 23, 3) := by decide +kernel
theorem dX8_staysHot_24 : decode cX8_staysHot 24 = .ok (.iconst 1, 1) := by decide +kernel
theorem dX8_staysHot_25 : decode cX8_staysHot 25 = .ok (.iload_n 2, 1) := by decide +kernel
theorem dX8_staysHot_26 : decode cX8_staysHot 26 = .ok (.invokevirtual 218, 3) := by decide +kernel
theorem dX8_staysHot_29 : decode cX8_staysHot 29 = .ok (.aload_n 0, 1) := by decide +kernel
theorem dX8_staysHot_30 : decode cX8_staysHot 30 = .ok (.getfield 23, 3) := by decide +kernel
theorem dX8_staysHot_33 : decode cX8_staysHot 33 = .ok (.getfield 86, 3) := by decide +kernel
theorem dX8_staysHot_36 : decode cX8_staysHot 36 = .ok (.invokevirtual 278, 3) := by decide +kernel
theorem dX8_staysHot_39 : decode cX8_staysHot 39 = .ok (.iload_n 3, 1) := by decide +kernel
theorem dX8_staysHot_40 : decode cX8_staysHot 40 = .ok (.if_icmp .ge 5, 3) := by decide +kernel
theorem dX8_staysHot_43 : decode cX8_staysHot 43 = .ok (.iconst 0, 1) := by decide +kernel
theorem dX8_staysHot_44 : decode cX8_staysHot 44 = .ok (.ireturn, 1) := by decide +kernel
theorem dX8_staysHot_45 : decode cX8_staysHot 45 = .ok (.iinc 4 1, 3) := by decide +kernel
theorem dX8_staysHot_48 : decode cX8_staysHot 48 = .ok (.goto (-34), 3) := by decide +kernel
theorem dX8_staysHot_51 : decode cX8_staysHot 51 = .ok (.iconst 1, 1) := by decide +kernel
theorem dX8_staysHot_52 : decode cX8_staysHot 52 = .ok (.ireturn, 1) := by decide +kernel
theorem dX8_isAllowed_0 : decode cX8_isAllowed 0 = .ok (.iload_n 1, 1) := by decide +kernel
theorem dX8_isAllowed_1 : decode cX8_isAllowed 1 = .ok (.tableswitch 283 1 9 #[51, 73, 94, 100, 116, 153, 190, 220, 253], 51) := by decide +kernel
theorem dX8_isAllowed_52 : decode cX8_isAllowed 52 = .ok (.iload_n 2, 1) := by decide +kernel
theorem dX8_isAllowed_53 : decode cX8_isAllowed 53 = .ok (.iconst 5, 1) := by decide +kernel
theorem dX8_isAllowed_54 : decode cX8_isAllowed 54 = .ok (.if_icmp .gt 18, 3) := by decide +kernel
theorem dX8_isAllowed_57 : decode cX8_isAllowed 57 = .ok (.iload_n 3, 1) := by decide +kernel
theorem dX8_isAllowed_58 : decode cX8_isAllowed 58 = .ok (.iconst 1, 1) := by decide +kernel
theorem dX8_isAllowed_59 : decode cX8_isAllowed 59 = .ok (.if_icmp .lt 13, 3) := by decide +kernel
theorem dX8_isAllowed_62 : decode cX8_isAllowed 62 = .ok (.iload_n 3, 1) := by decide +kernel
theorem dX8_isAllowed_63 : decode cX8_isAllowed 63 = .ok (.bipush 96, 2) := by decide +kernel
theorem dX8_isAllowed_65 : decode cX8_isAllowed 65 = .ok (.if_icmp .gt 7, 3) := by decide +kernel
theorem dX8_isAllowed_68 : decode cX8_isAllowed 68 = .ok (.iconst 1, 1) := by decide +kernel
theorem dX8_isAllowed_69 : decode cX8_isAllowed 69 = .ok (.goto 4, 3) := by decide +kernel
theorem dX8_isAllowed_72 : decode cX8_isAllowed 72 = .ok (.iconst 0, 1) := by decide +kernel
theorem dX8_isAllowed_73 : decode cX8_isAllowed 73 = .ok (.ireturn, 1) := by decide +kernel
theorem dX8_isAllowed_74 : decode cX8_isAllowed 74 = .ok (.iload_n 2, 1) := by decide +kernel
theorem dX8_isAllowed_75 : decode cX8_isAllowed 75 = .ok (.ifCond .ne 18, 3) := by decide +kernel
theorem dX8_isAllowed_78 : decode cX8_isAllowed 78 = .ok (.iload_n 3, 1) := by decide +kernel
theorem dX8_isAllowed_79 : decode cX8_isAllowed 79 = .ok (.iconst 1, 1) := by decide +kernel
theorem dX8_isAllowed_80 : decode cX8_isAllowed 80 = .ok (.if_icmp .lt 13, 3) := by decide +kernel
theorem dX8_isAllowed_83 : decode cX8_isAllowed 83 = .ok (.iload_n 3, 1) := by decide +kernel
theorem dX8_isAllowed_84 : decode cX8_isAllowed 84 = .ok (.bipush 20, 2) := by decide +kernel
theorem dX8_isAllowed_86 : decode cX8_isAllowed 86 = .ok (.if_icmp .gt 7, 3) := by decide +kernel
theorem dX8_isAllowed_89 : decode cX8_isAllowed 89 = .ok (.iconst 1, 1) := by decide +kernel
theorem dX8_isAllowed_90 : decode cX8_isAllowed 90 = .ok (.goto 4, 3) := by decide +kernel
theorem dX8_isAllowed_93 : decode cX8_isAllowed 93 = .ok (.iconst 0, 1) := by decide +kernel
theorem dX8_isAllowed_94 : decode cX8_isAllowed 94 = .ok (.ireturn, 1) := by decide +kernel
theorem dX8_isAllowed_95 : decode cX8_isAllowed 95 = .ok (.iload_n 2, 1) := by decide +kernel
theorem dX8_isAllowed_96 : decode cX8_isAllowed 96 = .ok (.iload_n 3, 1) := by decide +kernel
theorem dX8_isAllowed_97 : decode cX8_isAllowed 97 = .ok (.invokestatic 224, 3) := by decide +kernel
theorem dX8_isAllowed_100 : decode cX8_isAllowed 100 = .ok (.ireturn, 1) := by decide +kernel
theorem dX8_isAllowed_101 : decode cX8_isAllowed 101 = .ok (.iload_n 2, 1) := by decide +kernel
theorem dX8_isAllowed_102 : decode cX8_isAllowed 102 = .ok (.iconst 2, 1) := by decide +kernel
theorem dX8_isAllowed_103 : decode cX8_isAllowed 103 = .ok (.if_icmp .ge 12, 3) := by decide +kernel
theorem dX8_isAllowed_106 : decode cX8_isAllowed 106 = .ok (.iload_n 3, 1) := by decide +kernel
theorem dX8_isAllowed_107 : decode cX8_isAllowed 107 = .ok (.iconst 1, 1) := by decide +kernel
theorem dX8_isAllowed_108 : decode cX8_isAllowed 108 = .ok (.if_icmp .gt 7, 3) := by decide +kernel
theorem dX8_isAllowed_111 : decode cX8_isAllowed 111 = .ok (.iconst 1, 1) := by decide +kernel
theorem dX8_isAllowed_112 : decode cX8_isAllowed 112 = .ok (.goto 4, 3) := by decide +kernel
theorem dX8_isAllowed_115 : decode cX8_isAllowed 115 = .ok (.iconst 0, 1) := by decide +kernel
theorem dX8_isAllowed_116 : decode cX8_isAllowed 116 = .ok (.ireturn, 1) := by decide +kernel
theorem dX8_isAllowed_117 : decode cX8_isAllowed 117 = .ok (.iload_n 3, 1) := by decide +kernel
theorem dX8_isAllowed_118 : decode cX8_isAllowed 118 = .ok (.ifCond .ne 34, 3) := by decide +kernel
theorem dX8_isAllowed_121 : decode cX8_isAllowed 121 = .ok (.aload_n 0, 1) := by decide +kernel
theorem dX8_isAllowed_122 : decode cX8_isAllowed 122 = .ok (.getfield 23, 3) := by decide +kernel
theorem dX8_isAllowed_125 : decode cX8_isAllowed 125 = .ok (.iload_n 2, 1) := by decide +kernel
theorem dX8_isAllowed_126 : decode cX8_isAllowed 126 = .ok (.invokevirtual 324, 3) := by decide +kernel
theorem dX8_isAllowed_129 : decode cX8_isAllowed 129 = .ok (.ifCond .eq 23, 3) := by decide +kernel
theorem dX8_isAllowed_132 : decode cX8_isAllowed 132 = .ok (.aload_n 0, 1) := by decide +kernel
theorem dX8_isAllowed_133 : decode cX8_isAllowed 133 = .ok (.getfield 23, 3) := by decide +kernel
theorem dX8_isAllowed_136 : decode cX8_isAllowed 136 = .ok (.getfield 133, 3) := by decide +kernel
theorem dX8_isAllowed_139 : decode cX8_isAllowed 139 = .ok (.iload_n 2, 1) := by decide +kernel
theorem dX8_isAllowed_140 : decode cX8_isAllowed 140 = .ok (.aaload, 1) := by decide +kernel
theorem dX8_isAllowed_141 : decode cX8_isAllowed 141 = .ok (.getfield 145, 3) := by decide +kernel
theorem dX8_isAllowed_144 : decode cX8_isAllowed 144 = .ok (.iconst 4, 1) := by decide +kernel
theorem dX8_isAllowed_145 : decode cX8_isAllowed 145 = .ok (.if_icmp .eq 7, 3) := by decide +kernel
theorem dX8_isAllowed_148 : decode cX8_isAllowed 148 = .ok (.iconst 1, 1) := by decide +kernel
theorem dX8_isAllowed_149 : decode cX8_isAllowed 149 = .ok (.goto 4, 3) := by decide +kernel
theorem dX8_isAllowed_152 : decode cX8_isAllowed 152 = .ok (.iconst 0, 1) := by decide +kernel
theorem dX8_isAllowed_153 : decode cX8_isAllowed 153 = .ok (.ireturn, 1) := by decide +kernel
theorem dX8_isAllowed_154 : decode cX8_isAllowed 154 = .ok (.iload_n 3, 1) := by decide +kernel
theorem dX8_isAllowed_155 : decode cX8_isAllowed 155 = .ok (.ifCond .ne 34, 3) := by decide +kernel
theorem dX8_isAllowed_158 : decode cX8_isAllowed 158 = .ok (.aload_n 0, 1) := by decide +kernel
theorem dX8_isAllowed_159 : decode cX8_isAllowed 159 = .ok (.getfield 23, 3) := by decide +kernel
theorem dX8_isAllowed_162 : decode cX8_isAllowed 162 = .ok (.iload_n 2, 1) := by decide +kernel
theorem dX8_isAllowed_163 : decode cX8_isAllowed 163 = .ok (.invokevirtual 324, 3) := by decide +kernel
theorem dX8_isAllowed_166 : decode cX8_isAllowed 166 = .ok (.ifCond .eq 23, 3) := by decide +kernel
theorem dX8_isAllowed_169 : decode cX8_isAllowed 169 = .ok (.aload_n 0, 1) := by decide +kernel
theorem dX8_isAllowed_170 : decode cX8_isAllowed 170 = .ok (.getfield 23, 3) := by decide +kernel
theorem dX8_isAllowed_173 : decode cX8_isAllowed 173 = .ok (.getfield 133, 3) := by decide +kernel
theorem dX8_isAllowed_176 : decode cX8_isAllowed 176 = .ok (.iload_n 2, 1) := by decide +kernel
theorem dX8_isAllowed_177 : decode cX8_isAllowed 177 = .ok (.aaload, 1) := by decide +kernel
theorem dX8_isAllowed_178 : decode cX8_isAllowed 178 = .ok (.getfield 145, 3) := by decide +kernel
theorem dX8_isAllowed_181 : decode cX8_isAllowed 181 = .ok (.iconst 4, 1) := by decide +kernel
theorem dX8_isAllowed_182 : decode cX8_isAllowed 182 = .ok (.if_icmp .ne 7, 3) := by decide +kernel
theorem dX8_isAllowed_185 : decode cX8_isAllowed 185 = .ok (.iconst 1, 1) := by decide +kernel
theorem dX8_isAllowed_186 : decode cX8_isAllowed 186 = .ok (.goto 4, 3) := by decide +kernel
theorem dX8_isAllowed_189 : decode cX8_isAllowed 189 = .ok (.iconst 0, 1) := by decide +kernel
theorem dX8_isAllowed_190 : decode cX8_isAllowed 190 = .ok (.ireturn, 1) := by decide +kernel
theorem dX8_isAllowed_191 : decode cX8_isAllowed 191 = .ok (.iload_n 2, 1) := by decide +kernel
theorem dX8_isAllowed_192 : decode cX8_isAllowed 192 = .ok (.ifCond .ne 27, 3) := by decide +kernel
theorem dX8_isAllowed_195 : decode cX8_isAllowed 195 = .ok (.iload_n 3, 1) := by decide +kernel
theorem dX8_isAllowed_196 : decode cX8_isAllowed 196 = .ok (.bipush 99, 2) := by decide +kernel
theorem dX8_isAllowed_198 : decode cX8_isAllowed 198 = .ok (.if_icmp .gt 21, 3) := by decide +kernel
theorem dX8_isAllowed_201 : decode cX8_isAllowed 201 = .ok (.aload_n 0, 1) := by decide +kernel
theorem dX8_isAllowed_202 : decode cX8_isAllowed 202 = .ok (.getfield 23, 3) := by decide +kernel
theorem dX8_isAllowed_205 : decode cX8_isAllowed 205 = .ok (.getfield 86, 3) := by decide +kernel
theorem dX8_isAllowed_208 : decode cX8_isAllowed 208 = .ok (.invokevirtual 98, 3) := by decide +kernel
theorem dX8_isAllowed_211 : decode cX8_isAllowed 211 = .ok (.iload_n 3, 1) := by decide +kernel
theorem dX8_isAllowed_212 : decode cX8_isAllowed 212 = .ok (.if_icmp .lt 7, 3) := by decide +kernel
theorem dX8_isAllowed_215 : decode cX8_isAllowed 215 = .ok (.iconst 1, 1) := by decide +kernel
theorem dX8_isAllowed_216 : decode cX8_isAllowed 216 = .ok (.goto 4, 3) := by decide +kernel
theorem dX8_isAllowed_219 : decode cX8_isAllowed 219 = .ok (.iconst 0, 1) := by decide +kernel
theorem dX8_isAllowed_220 : decode cX8_isAllowed 220 = .ok (.ireturn, 1) := by decide +kernel
theorem dX8_isAllowed_221 : decode cX8_isAllowed 221 = .ok (.aload_n 0, 1) := by decide +kernel
theorem dX8_isAllowed_222 : decode cX8_isAllowed 222 = .ok (.getfield 23, 3) := by decide +kernel
theorem dX8_isAllowed_225 : decode cX8_isAllowed 225 = .ok (.iload_n 2, 1) := by decide +kernel
theorem dX8_isAllowed_226 : decode cX8_isAllowed 226 = .ok (.invokevirtual 324, 3) := by decide +kernel
theorem dX8_isAllowed_229 : decode cX8_isAllowed 229 = .ok (.ifCond .eq 23, 3) := by decide +kernel
theorem dX8_isAllowed_232 : decode cX8_isAllowed 232 = .ok (.aload_n 0, 1) := by decide +kernel
theorem dX8_isAllowed_233 : decode cX8_isAllowed 233 = .ok (.getfield 23, 3) := by decide +kernel
theorem dX8_isAllowed_236 : decode cX8_isAllowed 236 = .ok (.getfield 133, 3) := by decide +kernel
theorem dX8_isAllowed_239 : decode cX8_isAllowed 239 = .ok (.iload_n 2, 1) := by decide +kernel
theorem dX8_isAllowed_240 : decode cX8_isAllowed 240 = .ok (.aaload, 1) := by decide +kernel
theorem dX8_isAllowed_241 : decode cX8_isAllowed 241 = .ok (.getfield 145, 3) := by decide +kernel
theorem dX8_isAllowed_244 : decode cX8_isAllowed 244 = .ok (.iload_n 3, 1) := by decide +kernel
theorem dX8_isAllowed_245 : decode cX8_isAllowed 245 = .ok (.if_icmp .ne 7, 3) := by decide +kernel
theorem dX8_isAllowed_248 : decode cX8_isAllowed 248 = .ok (.iconst 1, 1) := by decide +kernel
theorem dX8_isAllowed_249 : decode cX8_isAllowed 249 = .ok (.goto 4, 3) := by decide +kernel
theorem dX8_isAllowed_252 : decode cX8_isAllowed 252 = .ok (.iconst 0, 1) := by decide +kernel
theorem dX8_isAllowed_253 : decode cX8_isAllowed 253 = .ok (.ireturn, 1) := by decide +kernel
theorem dX8_isAllowed_254 : decode cX8_isAllowed 254 = .ok (.iload_n 2, 1) := by decide +kernel
theorem dX8_isAllowed_255 : decode cX8_isAllowed 255 = .ok (.ifCond .ne 27, 3) := by decide +kernel
theorem dX8_isAllowed_258 : decode cX8_isAllowed 258 = .ok (.iload_n 3, 1) := by decide +kernel
theorem dX8_isAllowed_259 : decode cX8_isAllowed 259 = .ok (.bipush 9, 2) := by decide +kernel
theorem dX8_isAllowed_261 : decode cX8_isAllowed 261 = .ok (.if_icmp .gt 21, 3) := by decide +kernel
theorem dX8_isAllowed_264 : decode cX8_isAllowed 264 = .ok (.aload_n 0, 1) := by decide +kernel
theorem dX8_isAllowed_265 : decode cX8_isAllowed 265 = .ok (.getfield 23, 3) := by decide +kernel
theorem dX8_isAllowed_268 : decode cX8_isAllowed 268 = .ok (.getfield 104, 3) := by decide +kernel
theorem dX8_isAllowed_271 : decode cX8_isAllowed 271 = .ok (.getfield 119, 3) := by decide +kernel
theorem dX8_isAllowed_274 : decode cX8_isAllowed 274 = .ok (.iload_n 3, 1) := by decide +kernel
theorem dX8_isAllowed_275 : decode cX8_isAllowed 275 = .ok (.if_icmp .ne 7, 3) := by decide +kernel
theorem dX8_isAllowed_278 : decode cX8_isAllowed 278 = .ok (.iconst 1, 1) := by decide +kernel
theorem dX8_isAllowed_279 : decode cX8_isAllowed 279 = .ok (.goto 4, 3) := by decide +kernel
theorem dX8_isAllowed_282 : decode cX8_isAllowed 282 = .ok (.iconst 0, 1) := by decide +kernel
theorem dX8_isAllowed_283 : decode cX8_isAllowed 283 = .ok (.ireturn, 1) := by decide +kernel
theorem dX8_isAllowed_284 : decode cX8_isAllowed 284 = .ok (.iconst 0, 1) := by decide +kernel
theorem dX8_isAllowed_285 : decode cX8_isAllowed 285 = .ok (.ireturn, 1) := by decide +kernel
theorem dX8_carryOut_0 : decode cX8_carryOut 0 = .ok (.iload_n 1, 1) := by decide +kernel
theorem dX8_carryOut_1 : decode cX8_carryOut 1 = .ok (.tableswitch 133 1 6 #[39, 51, 66, 79, 101, 117], 39) := by decide +kernel
theorem dX8_carryOut_40 : decode cX8_carryOut 40 = .ok (.aload_n 0, 1) := by decide +kernel
theorem dX8_carryOut_41 : decode cX8_carryOut 41 = .ok (.getfield 23, 3) := by decide +kernel
theorem dX8_carryOut_44 : decode cX8_carryOut 44 = .ok (.iload_n 3, 1) := by decide +kernel
theorem dX8_carryOut_45 : decode cX8_carryOut 45 = .ok (.iload_n 2, 1) := by decide +kernel
theorem dX8_carryOut_46 : decode cX8_carryOut 46 = .ok (.invokevirtual 218, 3) := by decide +kernel
theorem dX8_carryOut_49 : decode cX8_carryOut 49 = .ok (.goto 85, 3) := by decide +kernel
theorem dX8_carryOut_52 : decode cX8_carryOut 52 = .ok (.aload_n 0, 1) := by decide +kernel
theorem dX8_carryOut_53 : decode cX8_carryOut 53 = .ok (.getfield 23, 3) := by decide +kernel
theorem dX8_carryOut_56 : decode cX8_carryOut 56 = .ok (.getfield 86, 3) := by decide +kernel
theorem dX8_carryOut_59 : decode cX8_carryOut 59 = .ok (.iload_n 3, 1) := by decide +kernel
theorem dX8_carryOut_60 : decode cX8_carryOut 60 = .ok (.invokevirtual 221, 3) := by decide +kernel
theorem dX8_carryOut_63 : decode cX8_carryOut 63 = .ok (.pop, 1) := by decide +kernel
theorem dX8_carryOut_64 : decode cX8_carryOut 64 = .ok (.goto 70, 3) := by decide +kernel
theorem dX8_carryOut_67 : decode cX8_carryOut 67 = .ok (.aload_n 0, 1) := by decide +kernel
theorem dX8_carryOut_68 : decode cX8_carryOut 68 = .ok (.getfield 23, 3) := by decide +kernel
theorem dX8_carryOut_71 : decode cX8_carryOut 71 = .ok (.getfield 82, 3) := by decide +kernel
theorem dX8_carryOut_74 : decode cX8_carryOut 74 = .ok (.iload_n 2, 1) := by decide +kernel
theorem dX8_carryOut_75 : decode cX8_carryOut 75 = .ok (.iload_n 3, 1) := by decide +kernel
theorem dX8_carryOut_76 : decode cX8_carryOut 76 = .ok (.iastore, 1) := by decide +kernel
theorem dX8_carryOut_77 : decode cX8_carryOut 77 = .ok (.goto 57, 3) := by decide +kernel
theorem dX8_carryOut_80 : decode cX8_carryOut 80 = .ok (.aload_n 0, 1) := by decide +kernel
theorem dX8_carryOut_81 : decode cX8_carryOut 81 = .ok (.getfield 23, 3) := by decide +kernel
theorem dX8_carryOut_84 : decode cX8_carryOut 84 = .ok (.iload_n 2, 1) := by decide +kernel
theorem dX8_carryOut_85 : decode cX8_carryOut 85 = .ok (.iload_n 3, 1) := by decide +kernel
theorem dX8_carryOut_86 : decode cX8_carryOut 86 = .ok (.iconst 1, 1) := by decide +kernel
theorem dX8_carryOut_87 : decode cX8_carryOut 87 = .ok (.if_icmp .ne 7, 3) := by decide +kernel
theorem dX8_carryOut_90 : decode cX8_carryOut 90 = .ok (.iconst 1, 1) := by decide +kernel
theorem dX8_carryOut_91 : decode cX8_carryOut 91 = .ok (.goto 4, 3) := by decide +kernel
theorem dX8_carryOut_94 : decode cX8_carryOut 94 = .ok (.iconst 0, 1) := by decide +kernel
theorem dX8_carryOut_95 : decode cX8_carryOut 95 = .ok (.invokevirtual 233, 3) := by decide +kernel
theorem dX8_carryOut_98 : decode cX8_carryOut 98 = .ok (.pop, 1) := by decide +kernel
theorem dX8_carryOut_99 : decode cX8_carryOut 99 = .ok (.goto 35, 3) := by decide +kernel
theorem dX8_carryOut_102 : decode cX8_carryOut 102 = .ok (.aload_n 0, 1) := by decide +kernel
theorem dX8_carryOut_103 : decode cX8_carryOut 103 = .ok (.getfield 23, 3) := by decide +kernel
theorem dX8_carryOut_106 : decode cX8_carryOut 106 = .ok (.getfield 133, 3) := by decide +kernel
theorem dX8_carryOut_109 : decode cX8_carryOut 109 = .ok (.iload_n 2, 1) := by decide +kernel
theorem dX8_carryOut_110 : decode cX8_carryOut 110 = .ok (.aaload, 1) := by decide +kernel
theorem dX8_carryOut_111 : decode cX8_carryOut 111 = .ok (.iconst 4, 1) := by decide +kernel
theorem dX8_carryOut_112 : decode cX8_carryOut 112 = .ok (.invokevirtual 239, 3) := by decide +kernel
theorem dX8_carryOut_115 : decode cX8_carryOut 115 = .ok (.goto 19, 3) := by decide +kernel
theorem dX8_carryOut_118 : decode cX8_carryOut 118 = .ok (.aload_n 0, 1) := by decide +kernel
theorem dX8_carryOut_119 : decode cX8_carryOut 119 = .ok (.getfield 23, 3) := by decide +kernel
theorem dX8_carryOut_122 : decode cX8_carryOut 122 = .ok (.getfield 133, 3) := by decide +kernel
theorem dX8_carryOut_125 : decode cX8_carryOut 125 = .ok (.iload_n 2, 1) := by decide +kernel
theorem dX8_carryOut_126 : decode cX8_carryOut 126 = .ok (.aaload, 1) := by decide +kernel
theorem dX8_carryOut_127 : decode cX8_carryOut 127 = .ok (.iconst 0, 1) := by decide +kernel
theorem dX8_carryOut_128 : decode cX8_carryOut 128 = .ok (.invokevirtual 239, 3) := by decide +kernel
theorem dX8_carryOut_131 : decode cX8_carryOut 131 = .ok (.goto 3, 3) := by decide +kernel
theorem dX8_carryOut_134 : decode cX8_carryOut 134 = .ok (.return_, 1) := by decide +kernel
theorem dX9_init_0 : decode cX9_init 0 = .ok (.aload_n 0, 1) := by decide +kernel
theorem dX9_init_1 : decode cX9_init 1 = .ok (.invokespecial 1, 3) := by decide +kernel
theorem dX9_init_4 : decode cX9_init 4 = .ok (.aload_n 0, 1) := by decide +kernel
theorem dX9_init_5 : decode cX9_init 5 = .ok (.bipush 60, 2) := by decide +kernel
theorem dX9_init_7 : decode cX9_init 7 = .ok (.newarray .int, 2) := by decide +kernel
theorem dX9_init_9 : decode cX9_init 9 = .ok (.putfield 7, 3) := by decide +kernel
theorem dX9_init_12 : decode cX9_init 12 = .ok (.aload_n 0, 1) := by decide +kernel
theorem dX9_init_13 : decode cX9_init 13 = .ok (.iconst 1, 1) := by decide +kernel
theorem dX9_init_14 : decode cX9_init 14 = .ok (.putfield 13, 3) := by decide +kernel
theorem dX9_init_17 : decode cX9_init 17 = .ok (.aload_n 0, 1) := by decide +kernel
theorem dX9_init_18 : decode cX9_init 18 = .ok (.iconst 4, 1) := by decide +kernel
theorem dX9_init_19 : decode cX9_init 19 = .ok (.putfield 17, 3) := by decide +kernel
theorem dX9_init_22 : decode cX9_init 22 = .ok (.aload_n 0, 1) := by decide +kernel
theorem dX9_init_23 : decode cX9_init 23 = .ok (.bipush 65, 2) := by decide +kernel
theorem dX9_init_25 : decode cX9_init 25 = .ok (.newarray .int, 2) := by decide +kernel
theorem dX9_init_27 : decode cX9_init 27 = .ok (.putfield 20, 3) := by decide +kernel
theorem dX9_init_30 : decode cX9_init 30 = .ok (.aload_n 0, 1) := by decide +kernel
theorem dX9_init_31 : decode cX9_init 31 = .ok (.bipush 65, 2) := by decide +kernel
theorem dX9_init_33 : decode cX9_init 33 = .ok (.newarray .int, 2) := by decide +kernel
theorem dX9_init_35 : decode cX9_init 35 = .ok (.putfield 23, 3) := by decide +kernel
theorem dX9_init_38 : decode cX9_init 38 = .ok (.aload_n 0, 1) := by decide +kernel
theorem dX9_init_39 : decode cX9_init 39 = .ok (.bipush 65, 2) := by decide +kernel
theorem dX9_init_41 : decode cX9_init 41 = .ok (.newarray .int, 2) := by decide +kernel
theorem dX9_init_43 : decode cX9_init 43 = .ok (.putfield 26, 3) := by decide +kernel
theorem dX9_init_46 : decode cX9_init 46 = .ok (.aload_n 0, 1) := by decide +kernel
theorem dX9_init_47 : decode cX9_init 47 = .ok (.sipush 910, 3) := by decide +kernel
theorem dX9_init_50 : decode cX9_init 50 = .ok (.newarray .int, 2) := by decide +kernel
theorem dX9_init_52 : decode cX9_init 52 = .ok (.putfield 29, 3) := by decide +kernel
theorem dX9_init_55 : decode cX9_init 55 = .ok (.aload_n 0, 1) := by decide +kernel
theorem dX9_init_56 : decode cX9_init 56 = .ok (.sipush 130, 3) := by decide +kernel
theorem dX9_init_59 : decode cX9_init 59 = .ok (.newarray .int, 2) := by decide +kernel
theorem dX9_init_61 : decode cX9_init 61 = .ok (.putfield 32, 3) := by decide +kernel
theorem dX9_init_64 : decode cX9_init 64 = .ok (.aload_n 0, 1) := by decide +kernel
theorem dX9_init_65 : decode cX9_init 65 = .ok (.iconst 2, 1) := by decide +kernel
theorem dX9_init_66 : decode cX9_init 66 = .ok (.newarray .boolean, 2) := by decide +kernel
theorem dX9_init_68 : decode cX9_init 68 = .ok (.putfield 35, 3) := by decide +kernel
theorem dX9_init_71 : decode cX9_init 71 = .ok (.aload_n 0, 1) := by decide +kernel
theorem dX9_init_72 : decode cX9_init 72 = .ok (.getfield 23, 3) := by decide +kernel
theorem dX9_init_75 : decode cX9_init 75 = .ok (.invokestatic 39, 3) := by decide +kernel
theorem dX9_init_78 : decode cX9_init 78 = .ok (.aload_n 0, 1) := by decide +kernel
theorem dX9_init_79 : decode cX9_init 79 = .ok (.getfield 23, 3) := by decide +kernel
theorem dX9_init_82 : decode cX9_init 82 = .ok (.bipush 18, 2) := by decide +kernel
theorem dX9_init_84 : decode cX9_init 84 = .ok (.bipush 50, 2) := by decide +kernel
theorem dX9_init_86 : decode cX9_init 86 = .ok (.iastore, 1) := by decide +kernel
theorem dX9_init_87 : decode cX9_init 87 = .ok (.aload_n 0, 1) := by decide +kernel
theorem dX9_init_88 : decode cX9_init 88 = .ok (.getfield 23, 3) := by decide +kernel
theorem dX9_init_91 : decode cX9_init 91 = .ok (.bipush 19, 2) := by decide +kernel
theorem dX9_init_93 : decode cX9_init 93 = .ok (.bipush 50, 2) := by decide +kernel
theorem dX9_init_95 : decode cX9_init 95 = .ok (.iastore, 1) := by decide +kernel
theorem dX9_init_96 : decode cX9_init 96 = .ok (.aload_n 0, 1) := by decide +kernel
theorem dX9_init_97 : decode cX9_init 97 = .ok (.getfield 23, 3) := by decide +kernel
theorem dX9_init_100 : decode cX9_init 100 = .ok (.bipush 30, 2) := by decide +kernel
theorem dX9_init_102 : decode cX9_init 102 = .ok (.bipush 10, 2) := by decide +kernel
theorem dX9_init_104 : decode cX9_init 104 = .ok (.iastore, 1) := by decide +kernel
theorem dX9_init_105 : decode cX9_init 105 = .ok (.return_, 1) := by decide +kernel
theorem dX9_thrown_0 : decode cX9_thrown 0 = .ok (.aload_n 0, 1) := by decide +kernel
theorem dX9_thrown_1 : decode cX9_thrown 1 = .ok (.getfield 43, 3) := by decide +kernel
theorem dX9_thrown_4 : decode cX9_thrown 4 = .ok (.ireturn, 1) := by decide +kernel
theorem dX9_refused_0 : decode cX9_refused 0 = .ok (.aload_n 0, 1) := by decide +kernel
theorem dX9_refused_1 : decode cX9_refused 1 = .ok (.iload_n 1, 1) := by decide +kernel
theorem dX9_refused_2 : decode cX9_refused 2 = .ok (.putfield 43, 3) := by decide +kernel
theorem dX9_refused_5 : decode cX9_refused 5 = .ok (.iload_n 1, 1) := by decide +kernel
theorem dX9_refused_6 : decode cX9_refused 6 = .ok (.ifCond .le 7, 3) := by decide +kernel
theorem dX9_refused_9 : decode cX9_refused 9 = .ok (.iconst 1, 1) := by decide +kernel
theorem dX9_refused_10 : decode cX9_refused 10 = .ok (.goto 4, 3) := by decide +kernel
theorem dX9_refused_13 : decode cX9_refused 13 = .ok (.iconst 0, 1) := by decide +kernel
theorem dX9_refused_14 : decode cX9_refused 14 = .ok (.ireturn, 1) := by decide +kernel
theorem dX9_in_0 : decode cX9_in 0 = .ok (.lload_n 0, 1) := by decide +kernel
theorem dX9_in_1 : decode cX9_in 1 = .ok (.lload_n 2, 1) := by decide +kernel
theorem dX9_in_2 : decode cX9_in 2 = .ok (.lcmp, 1) := by decide +kernel
theorem dX9_in_3 : decode cX9_in 3 = .ok (.ifCond .lt 14, 3) := by decide +kernel
theorem dX9_in_6 : decode cX9_in 6 = .ok (.lload_n 0, 1) := by decide +kernel
theorem dX9_in_7 : decode cX9_in 7 = .ok (.lload 4, 2) := by decide +kernel
theorem dX9_in_9 : decode cX9_in 9 = .ok (.lcmp, 1) := by decide +kernel
theorem dX9_in_10 : decode cX9_in 10 = .ok (.ifCond .gt 7, 3) := by decide +kernel
theorem dX9_in_13 : decode cX9_in 13 = .ok (.iconst 1, 1) := by decide +kernel
theorem dX9_in_14 : decode cX9_in 14 = .ok (.goto 4, 3) := by decide +kernel
theorem dX9_in_17 : decode cX9_in 17 = .ok (.iconst 0, 1) := by decide +kernel
theorem dX9_in_18 : decode cX9_in 18 = .ok (.ireturn, 1) := by decide +kernel
theorem dX9_copyPage_0 : decode cX9_copyPage 0 = .ok (.iconst 0, 1) := by decide +kernel
theorem dX9_copyPage_1 : decode cX9_copyPage 1 = .ok (.istore 4, 2) := by decide +kernel
theorem dX9_copyPage_3 : decode cX9_copyPage 3 = .ok (.iload 4, 2) := by decide +kernel
theorem dX9_copyPage_5 : decode cX9_copyPage 5 = .ok (.bipush 65, 2) := by decide +kernel
theorem dX9_copyPage_7 : decode cX9_copyPage 7 = .ok (.if_icmp .ge 21, 3) := by decide +kernel
theorem dX9_copyPage_10 : decode cX9_copyPage 10 = .ok (.aload_n 2, 1) := by decide +kernel
theorem dX9_copyPage_11 : decode cX9_copyPage 11 = .ok (.iload_n 3, 1) := by decide +kernel
theorem dX9_copyPage_12 : decode cX9_copyPage 12 = .ok (.iload 4, 2) := by decide +kernel
theorem dX9_copyPage_14 : decode cX9_copyPage 14 = .ok (.iadd, 1) := by decide +kernel
theorem dX9_copyPage_15 : decode cX9_copyPage 15 = .ok (.aload_n 0, 1) := by decide +kernel
theorem dX9_copyPage_16 : decode cX9_copyPage 16 = .ok (.iload_n 1, 1) := by decide +kernel
theorem dX9_copyPage_17 : decode cX9_copyPage 17 = .ok (.iload 4, 2) := by decide +kernel
theorem dX9_copyPage_19 : decode cX9_copyPage 19 = .ok (.iadd, 1) := by decide +kernel
theorem dX9_copyPage_20 : decode cX9_copyPage 20 = .ok (.iaload, 1) := by decide +kernel
theorem dX9_copyPage_21 : decode cX9_copyPage 21 = .ok (.iastore, 1) := by decide +kernel
theorem dX9_copyPage_22 : decode cX9_copyPage 22 = .ok (.iinc 4 1, 3) := by decide +kernel
theorem dX9_copyPage_25 : decode cX9_copyPage 25 = .ok (.goto (-22), 3) := by decide +kernel
theorem dX9_copyPage_28 : decode cX9_copyPage 28 = .ok (.return_, 1) := by decide +kernel
theorem dX9_begin_0 : decode cX9_begin 0 = .ok (.iconst 0, 1) := by decide +kernel
theorem dX9_begin_1 : decode cX9_begin 1 = .ok (.istore_n 1, 1) := by decide +kernel
theorem dX9_begin_2 : decode cX9_begin 2 = .ok (.iload_n 1, 1) := by decide +kernel
theorem dX9_begin_3 : decode cX9_begin 3 = .ok (.bipush 65, 2) := by decide +kernel
theorem dX9_begin_5 : decode cX9_begin 5 = .ok (.if_icmp .ge 32, 3) := by decide +kernel
theorem dX9_begin_8 : decode cX9_begin 8 = .ok (.aload_n 0, 1) := by decide +kernel
theorem dX9_begin_9 : decode cX9_begin 9 = .ok (.iload_n 1, 1) := by decide +kernel
theorem dX9_begin_10 : decode cX9_begin 10 = .ok (.iload_n 1, 1) := by decide +kernel
theorem dX9_begin_11 : decode cX9_begin 11 = .ok (.i2l, 1) := by decide +kernel
theorem dX9_begin_12 : decode cX9_begin 12 = .ok (.ldc2_w 46, 3) := by decide +kernel
theorem dX9_begin_15 : decode cX9_begin 15 = .ok (.ldc2_w 48, 3) := by decide +kernel
theorem dX9_begin_18 : decode cX9_begin 18 = .ok (.invokestatic 50, 3) := by decide +kernel
theorem dX9_begin_21 : decode cX9_begin 21 = .ok (.ifCond .eq 8, 3) := by decide +kernel
theorem dX9_begin_24 : decode cX9_begin 24 = .ok (.bipush 40, 2) := by decide +kernel
theorem dX9_begin_26 : decode cX9_begin 26 = .ok (.goto 4, 3) := by decide +kernel
theorem dX9_begin_29 : decode cX9_begin 29 = .ok (.iconst 0, 1) := by decide +kernel
theorem dX9_begin_30 : decode cX9_begin 30 = .ok (.iastore, 1) := by decide +kernel
theorem dX9_begin_31 : decode cX9_begin 31 = .ok (.iinc 1 1, 3) := by decide +kernel
theorem dX9_begin_34 : decode cX9_begin 34 = .ok (.goto (-32), 3) := by decide +kernel
theorem dX9_begin_37 : decode cX9_begin 37 = .ok (.aload_n 0, 1) := by decide +kernel
theorem dX9_begin_38 : decode cX9_begin 38 = .ok (.iconst 0, 1) := by decide +kernel
theorem dX9_begin_39 : decode cX9_begin 39 = .ok (.bipush 60, 2) := by decide +kernel
theorem dX9_begin_41 : decode cX9_begin 41 = .ok (.iastore, 1) := by decide +kernel
theorem dX9_begin_42 : decode cX9_begin 42 = .ok (.aload_n 0, 1) := by decide +kernel
theorem dX9_begin_43 : decode cX9_begin 43 = .ok (.iconst 1, 1) := by decide +kernel
theorem dX9_begin_44 : decode cX9_begin 44 = .ok (.iconst 3, 1) := by decide +kernel
theorem dX9_begin_45 : decode cX9_begin 45 = .ok (.iastore, 1) := by decide +kernel
theorem dX9_begin_46 : decode cX9_begin 46 = .ok (.aload_n 0, 1) := by decide +kernel
theorem dX9_begin_47 : decode cX9_begin 47 = .ok (.iconst 2, 1) := by decide +kernel
theorem dX9_begin_48 : decode cX9_begin 48 = .ok (.iconst 2, 1) := by decide +kernel
theorem dX9_begin_49 : decode cX9_begin 49 = .ok (.iastore, 1) := by decide +kernel
theorem dX9_begin_50 : decode cX9_begin 50 = .ok (.aload_n 0, 1) := by decide +kernel
theorem dX9_begin_51 : decode cX9_begin 51 = .ok (.iconst 3, 1) := by decide +kernel
theorem dX9_begin_52 : decode cX9_begin 52 = .ok (.bipush 70, 2) := by decide +kernel
theorem dX9_begin_54 : decode cX9_begin 54 = .ok (.iastore, 1) := by decide +kernel
theorem dX9_begin_55 : decode cX9_begin 55 = .ok (.aload_n 0, 1) := by decide +kernel
theorem dX9_begin_56 : decode cX9_begin 56 = .ok (.iconst 4, 1) := by decide +kernel
theorem dX9_begin_57 : decode cX9_begin 57 = .ok (.iconst 2, 1) := by decide +kernel
theorem dX9_begin_58 : decode cX9_begin 58 = .ok (.iastore, 1) := by decide +kernel
theorem dX9_begin_59 : decode cX9_begin 59 = .ok (.aload_n 0, 1) := by decide +kernel
theorem dX9_begin_60 : decode cX9_begin 60 = .ok (.iconst 5, 1) := by decide +kernel
theorem dX9_begin_61 : decode cX9_begin 61 = .ok (.iconst 2, 1) := by decide +kernel
theorem dX9_begin_62 : decode cX9_begin 62 = .ok (.iastore, 1) := by decide +kernel
theorem dX9_begin_63 : decode cX9_begin 63 = .ok (.aload_n 0, 1) := by decide +kernel
theorem dX9_begin_64 : decode cX9_begin 64 = .ok (.bipush 20, 2) := by decide +kernel
theorem dX9_begin_66 : decode cX9_begin 66 = .ok (.iconst 1, 1) := by decide +kernel
theorem dX9_begin_67 : decode cX9_begin 67 = .ok (.iastore, 1) := by decide +kernel
theorem dX9_begin_68 : decode cX9_begin 68 = .ok (.aload_n 0, 1) := by decide +kernel
theorem dX9_begin_69 : decode cX9_begin 69 = .ok (.bipush 21, 2) := by decide +kernel
theorem dX9_begin_71 : decode cX9_begin 71 = .ok (.iconst 1, 1) := by decide +kernel
theorem dX9_begin_72 : decode cX9_begin 72 = .ok (.iastore, 1) := by decide +kernel
theorem dX9_begin_73 : decode cX9_begin 73 = .ok (.return_, 1) := by decide +kernel
theorem dX9_isSetting_0 : decode cX9_isSetting 0 = .ok (.iload_n 0, 1) := by decide +kernel
theorem dX9_isSetting_1 : decode cX9_isSetting 1 = .ok (.tableswitch 79 0 4 #[35, 47, 57, 67, 47], 35) := by decide +kernel
theorem dX9_isSetting_36 : decode cX9_isSetting 36 = .ok (.iload_n 1, 1) := by decide +kernel
theorem dX9_isSetting_37 : decode cX9_isSetting 37 = .ok (.i2l, 1) := by decide +kernel
theorem dX9_isSetting_38 : decode cX9_isSetting 38 = .ok (.ldc2_w 54, 3) := by decide +kernel
theorem dX9_isSetting_41 : decode cX9_isSetting 41 = .ok (.ldc2_w 56, 3) := by decide +kernel
theorem dX9_isSetting_44 : decode cX9_isSetting 44 = .ok (.invokestatic 50, 3) := by decide +kernel
theorem dX9_isSetting_47 : decode cX9_isSetting 47 = .ok (.ireturn, 1) := by decide +kernel
theorem dX9_isSetting_48 : decode cX9_isSetting 48 = .ok (.iload_n 1, 1) := by decide +kernel
theorem dX9_isSetting_49 : decode cX9_isSetting 49 = .ok (.i2l, 1) := by decide +kernel
theorem dX9_isSetting_50 : decode cX9_isSetting 50 = .ok (.lconst 1, 1) := by decide +kernel
theorem dX9_isSetting_51 : decode cX9_isSetting 51 = .ok (.ldc2_w 58, 3) := by decide +kernel
theorem dX9_isSetting_54 : decode cX9_isSetting 54 = .ok (.invokestatic 50, 3) := by decide +kernel
theorem dX9_isSetting_57 : decode cX9_isSetting 57 = .ok (.ireturn, 1) := by decide +kernel
theorem dX9_isSetting_58 : decode cX9_isSetting 58 = .ok (.iload_n 1, 1) := by decide +kernel
theorem dX9_isSetting_59 : decode cX9_isSetting 59 = .ok (.i2l, 1) := by decide +kernel
theorem dX9_isSetting_60 : decode cX9_isSetting 60 = .ok (.lconst 1, 1) := by decide +kernel
theorem dX9_isSetting_61 : decode cX9_isSetting 61 = .ok (.ldc2_w 60, 3) := by decide +kernel
theorem dX9_isSetting_64 : decode cX9_isSetting 64 = .ok (.invokestatic 50, 3) := by decide +kernel
theorem dX9_isSetting_67 : decode cX9_isSetting 67 = .ok (.ireturn, 1) := by decide +kernel
theorem dX9_isSetting_68 : decode cX9_isSetting 68 = .ok (.iload_n 1, 1) := by decide +kernel
theorem dX9_isSetting_69 : decode cX9_isSetting 69 = .ok (.i2l, 1) := by decide +kernel
theorem dX9_isSetting_70 : decode cX9_isSetting 70 = .ok (.ldc2_w 62, 3) := by decide +kernel
theorem dX9_isSetting_73 : decode cX9_isSetting 73 = .ok (.ldc2_w 64, 3) := by decide +kernel
theorem dX9_isSetting_76 : decode cX9_isSetting 76 = .ok (.invokestatic 50, 3) := by decide +kernel
theorem dX9_isSetting_79 : decode cX9_isSetting 79 = .ok (.ireturn, 1) := by decide +kernel
theorem dX9_isSetting_80 : decode cX9_isSetting 80 = .ok (.iload_n 0, 1) := by decide +kernel
theorem dX9_isSetting_81 : decode cX9_isSetting 81 = .ok (.iconst 5, 1) := by decide +kernel
theorem dX9_isSetting_82 : decode cX9_isSetting 82 = .ok (.if_icmp .ne 19, 3) := by decide +kernel
theorem dX9_isSetting_85 : decode cX9_isSetting 85 = .ok (.iload_n 1, 1) := by decide +kernel
theorem dX9_isSetting_86 : decode cX9_isSetting 86 = .ok (.i2l, 1) := by decide +kernel
theorem dX9_isSetting_87 : decode cX9_isSetting 87 = .ok (.lconst 0, 1) := by decide +kernel
theorem dX9_isSetting_88 : decode cX9_isSetting 88 = .ok (.ldc2_w 66, 3) := by decide +kernel
theorem dX9_isSetting_91 : decode cX9_isSetting 91 = .ok (.invokestatic 50, 3) := by decide +kernel
theorem dX9_isSetting_94 : decode cX9_isSetting 94 = .ok (.ifCond .eq 7, 3) := by decide +kernel
theorem dX9_isSetting_97 : decode cX9_isSetting 97 = .ok (.iconst 1, 1) := by decide +kernel
theorem dX9_isSetting_98 : decode cX9_isSetting 98 = .ok (.goto 4, 3) := by decide +kernel
theorem dX9_isSetting_101 : decode cX9_isSetting 101 = .ok (.iconst 0, 1) := by decide +kernel
theorem dX9_isSetting_102 : decode cX9_isSetting 102 = .ok (.ireturn, 1) := by decide +kernel
theorem dX9_at_0 : decode cX9_at 0 = .ok (.bipush 30, 2) := by decide +kernel
theorem dX9_at_2 : decode cX9_at 2 = .ok (.bipush 7, 2) := by decide +kernel
theorem dX9_at_4 : decode cX9_at 4 = .ok (.iload_n 0, 1) := by decide +kernel
theorem dX9_at_5 : decode cX9_at 5 = .ok (.imul, 1) := by decide +kernel
theorem dX9_at_6 : decode cX9_at 6 = .ok (.iadd, 1) := by decide +kernel
theorem dX9_at_7 : decode cX9_at 7 = .ok (.ireturn, 1) := by decide +kernel
theorem dX9_works_0 : decode cX9_works 0 = .ok (.iload_n 0, 1) := by decide +kernel
theorem dX9_works_1 : decode cX9_works 1 = .ok (.iconst 1, 1) := by decide +kernel
theorem dX9_works_2 : decode cX9_works 2 = .ok (.if_icmp .eq 8, 3) := by decide +kernel
theorem dX9_works_5 : decode cX9_works 5 = .ok (.iload_n 0, 1) := by decide +kernel
theorem dX9_works_6 : decode cX9_works 6 = .ok (.iconst 2, 1) := by decide +kernel
theorem dX9_works_7 : decode cX9_works 7 = .ok (.if_icmp .ne 7, 3) := by decide +kernel
theorem dX9_works_10 : decode cX9_works 10 = .ok (.iconst 1, 1) := by decide +kernel
theorem dX9_works_11 : decode cX9_works 11 = .ok (.goto 4, 3) := by decide +kernel
theorem dX9_works_14 : decode cX9_works 14 = .ok (.iconst 0, 1) := by decide +kernel
theorem dX9_works_15 : decode cX9_works 15 = .ok (.ireturn, 1) := by decide +kernel
theorem dX9_idles_0 : decode cX9_idles 0 = .ok (.iload_n 0, 1) := by decide +kernel
theorem dX9_idles_1 : decode cX9_idles 1 = .ok (.ifCond .eq 8, 3) := by decide +kernel
theorem dX9_idles_4 : decode cX9_idles 4 = .ok (.iload_n 0, 1) := by decide +kernel
theorem dX9_idles_5 : decode cX9_idles 5 = .ok (.iconst 3, 1) := by decide +kernel
theorem dX9_idles_6 : decode cX9_idles 6 = .ok (.if_icmp .ne 7, 3) := by decide +kernel
theorem dX9_idles_9 : decode cX9_idles 9 = .ok (.iconst 1, 1) := by decide +kernel
theorem dX9_idles_10 : decode cX9_idles 10 = .ok (.goto 4, 3) := by decide +kernel
theorem dX9_idles_13 : decode cX9_idles 13 = .ok (.iconst 0, 1) := by decide +kernel
theorem dX9_idles_14 : decode cX9_idles 14 = .ok (.ireturn, 1) := by decide +kernel
theorem dX9_use_0 : decode cX9_use 0 = .ok (.iconst 0, 1) := by decide +kernel
theorem dX9_use_1 : decode cX9_use 1 = .ok (.istore_n 3, 1) := by decide +kernel
theorem dX9_use_2 : decode cX9_use 2 = .ok (.iconst 0, 1) := by decide +kernel
theorem dX9_use_3 : decode cX9_use 3 = .ok (.istore 4, 2) := by decide +kernel
theorem dX9_use_5 : decode cX9_use 5 = .ok (.iload 4, 2) := by decide +kernel
theorem dX9_use_7 : decode cX9_use 7 = .ok (.aload_n 0, 1) := by decide +kernel
theorem dX9_use_8 : decode cX9_use 8 = .ok (.getfield 13, 3) := by decide +kernel
theorem dX9_use_11 : decode cX9_use 11 = .ok (.if_icmp .ge 51, 3) := by decide +kernel
theorem dX9_use_14 : decode cX9_use 14 = .ok (.iload_n 3, 1) := by decide +kernel
theorem dX9_use_15 : decode cX9_use 15 = .ok (.aload_n 1, 1) := by decide +kernel
theorem dX9_use_16 : decode cX9_use 16 = .ok (.iload 4, 2) := by decide +kernel
theorem dX9_use_18 : decode cX9_use 18 = .ok (.invokestatic 68, 3) := by decide +kernel
theorem dX9_use_21 : decode cX9_use 21 = .ok (.iconst 1, 1) := by decide +kernel
theorem dX9_use_22 : decode cX9_use 22 = .ok (.iadd, 1) := by decide +kernel
theorem dX9_use_23 : decode cX9_use 23 = .ok (.iaload, 1) := by decide +kernel
theorem dX9_use_24 : decode cX9_use 24 = .ok (.iload_n 2, 1) := by decide +kernel
theorem dX9_use_25 : decode cX9_use 25 = .ok (.if_icmp .ne 28, 3) := by decide +kernel
theorem dX9_use_28 : decode cX9_use 28 = .ok (.aload_n 1, 1) := by decide +kernel
theorem dX9_use_29 : decode cX9_use 29 = .ok (.iload 4, 2) := by decide +kernel
theorem dX9_use_31 : decode cX9_use 31 = .ok (.invokestatic 68, 3) := by decide +kernel
theorem dX9_use_34 : decode cX9_use 34 = .ok (.iconst 2, 1) := by decide +kernel
theorem dX9_use_35 : decode cX9_use 35 = .ok (.iadd, 1) := by decide +kernel
theorem dX9_use_36 : decode cX9_use 36 = .ok (.iaload, 1) := by decide +kernel
theorem dX9_use_37 : decode cX9_use 37 = .ok (.invokestatic 72, 3) := by decide +kernel
theorem dX9_use_40 : decode cX9_use 40 = .ok (.ifCond .eq 13, 3) := by decide +kernel
theorem dX9_use_43 : decode cX9_use 43 = .ok (.aload_n 1, 1) := by decide +kernel
theorem dX9_use_44 : decode cX9_use 44 = .ok (.iload 4, 2) := by decide +kernel
theorem dX9_use_46 : decode cX9_use 46 = .ok (.invokestatic 68, 3) := by decide +kernel
theorem dX9_use_49 : decode cX9_use 49 = .ok (.iaload, 1) := by decide +kernel
theorem dX9_use_50 : decode cX9_use 50 = .ok (.goto 4, 3) := by decide +kernel
theorem dX9_use_53 : decode cX9_use 53 = .ok (.iconst 0, 1) := by decide +kernel
theorem dX9_use_54 : decode cX9_use 54 = .ok (.iadd, 1) := by decide +kernel
theorem dX9_use_55 : decode cX9_use 55 = .ok (.istore_n 3, 1) := by decide +kernel
theorem dX9_use_56 : decode cX9_use 56 = .ok (.iinc 4 1, 3) := by decide +kernel
theorem dX9_use_59 : decode cX9_use 59 = .ok (.goto (-54), 3) := by decide +kernel
theorem dX9_use_62 : decode cX9_use 62 = .ok (.iload_n 3, 1) := by decide +kernel
theorem dX9_use_63 : decode cX9_use 63 = .ok (.ireturn, 1) := by decide +kernel
theorem dX9_canStart_0 : decode cX9_canStart 0 = .ok (.aload_n 1, 1) := by decide +kernel
theorem dX9_canStart_1 : decode cX9_canStart 1 = .ok (.iload_n 2, 1) := by decide +kernel
theorem dX9_canStart_2 : decode cX9_canStart 2 = .ok (.invokestatic 68, 3) := by decide +kernel
theorem dX9_canStart_5 : decode cX9_canStart 5 = .ok (.iconst 1, 1) := by decide +kernel
theorem dX9_canStart_6 : decode cX9_canStart 6 = .ok (.iadd, 1) := by decide +kernel
theorem dX9_canStart_7 : decode cX9_canStart 7 = .ok (.iaload, 1) := by decide +kernel
theorem dX9_canStart_8 : decode cX9_canStart 8 = .ok (.istore_n 3, 1) := by decide +kernel
theorem dX9_canStart_9 : decode cX9_canStart 9 = .ok (.aload_n 1, 1) := by decide +kernel
theorem dX9_canStart_10 : decode cX9_canStart 10 = .ok (.bipush 20, 2) := by decide +kernel
theorem dX9_canStart_12 : decode cX9_canStart 12 = .ok (.iload_n 3, 1) := by decide +kernel
theorem dX9_canStart_13 : decode cX9_canStart 13 = .ok (.iadd, 1) := by decide +kernel
theorem dX9_canStart_14 : decode cX9_canStart 14 = .ok (.iaload, 1) := by decide +kernel
theorem dX9_canStart_15 : decode cX9_canStart 15 = .ok (.iconst 1, 1) := by decide +kernel
theorem dX9_canStart_16 : decode cX9_canStart 16 = .ok (.if_icmp .ne 29, 3) := by decide +kernel
theorem dX9_canStart_19 : decode cX9_canStart 19 = .ok (.aload_n 0, 1) := by decide +kernel
theorem dX9_canStart_20 : decode cX9_canStart 20 = .ok (.aload_n 1, 1) := by decide +kernel
theorem dX9_canStart_21 : decode cX9_canStart 21 = .ok (.iload_n 3, 1) := by decide +kernel
theorem dX9_canStart_22 : decode cX9_canStart 22 = .ok (.invokevirtual 76, 3) := by decide +kernel
theorem dX9_canStart_25 : decode cX9_canStart 25 = .ok (.aload_n 1, 1) := by decide +kernel
theorem dX9_canStart_26 : decode cX9_canStart 26 = .ok (.iload_n 2, 1) := by decide +kernel
theorem dX9_canStart_27 : decode cX9_canStart 27 = .ok (.invokestatic 68, 3) := by decide +kernel
theorem dX9_canStart_30 : decode cX9_canStart 30 = .ok (.iaload, 1) := by decide +kernel
theorem dX9_canStart_31 : decode cX9_canStart 31 = .ok (.iadd, 1) := by decide +kernel
theorem dX9_canStart_32 : decode cX9_canStart 32 = .ok (.aload_n 1, 1) := by decide +kernel
theorem dX9_canStart_33 : decode cX9_canStart 33 = .ok (.bipush 18, 2) := by decide +kernel
theorem dX9_canStart_35 : decode cX9_canStart 35 = .ok (.iload_n 3, 1) := by decide +kernel
theorem dX9_canStart_36 : decode cX9_canStart 36 = .ok (.iadd, 1) := by decide +kernel
theorem dX9_canStart_37 : decode cX9_canStart 37 = .ok (.iaload, 1) := by decide +kernel
theorem dX9_canStart_38 : decode cX9_canStart 38 = .ok (.if_icmp .gt 7, 3) := by decide +kernel
theorem dX9_canStart_41 : decode cX9_canStart 41 = .ok (.iconst 1, 1) := by decide +kernel
theorem dX9_canStart_42 : decode cX9_canStart 42 = .ok (.goto 4, 3) := by decide +kernel
theorem dX9_canStart_45 : decode cX9_canStart 45 = .ok (.iconst 0, 1) := by decide +kernel
theorem dX9_canStart_46 : decode cX9_canStart 46 = .ok (.ireturn, 1) := by decide +kernel
theorem dX9_nextOf_0 : decode cX9_nextOf 0 = .ok (.bipush (-9), 2) := by decide +kernel
theorem dX9_nextOf_2 : decode cX9_nextOf 2 = .ok (.istore_n 2, 1) := by decide +kernel
theorem dX9_nextOf_3 : decode cX9_nextOf 3 = .ok (.iconst 0, 1) := by decide +kernel
theorem dX9_nextOf_4 : decode cX9_nextOf 4 = .ok (.istore_n 3, 1) := by decide +kernel
theorem dX9_nextOf_5 : decode cX9_nextOf 5 = .ok (.iload_n 3, 1) := by decide +kernel
theorem dX9_nextOf_6 : decode cX9_nextOf 6 = .ok (.aload_n 0, 1) := by decide +kernel
theorem dX9_nextOf_7 : decode cX9_nextOf 7 = .ok (.getfield 13, 3) := by decide +kernel
theorem dX9_nextOf_10 : decode cX9_nextOf 10 = .ok (.if_icmp .ge 75, 3) := by decide +kernel
theorem dX9_nextOf_13 : decode cX9_nextOf 13 = .ok (.aload_n 1, 1) := by decide +kernel
theorem dX9_nextOf_14 : decode cX9_nextOf 14 = .ok (.iload_n 3, 1) := by decide +kernel
theorem dX9_nextOf_15 : decode cX9_nextOf 15 = .ok (.invokestatic 68, 3) := by decide +kernel
theorem dX9_nextOf_18 : decode cX9_nextOf 18 = .ok (.iconst 2, 1) := by decide +kernel
theorem dX9_nextOf_19 : decode cX9_nextOf 19 = .ok (.iadd, 1) := by decide +kernel
theorem dX9_nextOf_20 : decode cX9_nextOf 20 = .ok (.iaload, 1) := by decide +kernel
theorem dX9_nextOf_21 : decode cX9_nextOf 21 = .ok (.invokestatic 80, 3) := by decide +kernel
theorem dX9_nextOf_24 : decode cX9_nextOf 24 = .ok (.ifCond .eq 16, 3) := by decide +kernel
theorem dX9_nextOf_27 : decode cX9_nextOf 27 = .ok (.aload_n 0, 1) := by decide +kernel
theorem dX9_nextOf_28 : decode cX9_nextOf 28 = .ok (.aload_n 1, 1) := by decide +kernel
theorem dX9_nextOf_29 : decode cX9_nextOf 29 = .ok (.iload_n 3, 1) := by decide +kernel
theorem dX9_nextOf_30 : decode cX9_nextOf 30 = .ok (.invokevirtual 83, 3) := by decide +kernel
theorem dX9_nextOf_33 : decode cX9_nextOf 33 = .ok (.ifCond .eq 7, 3) := by decide +kernel
theorem dX9_nextOf_36 : decode cX9_nextOf 36 = .ok (.iconst 1, 1) := by decide +kernel
theorem dX9_nextOf_37 : decode cX9_nextOf 37 = .ok (.goto 4, 3) := by decide +kernel
theorem dX9_nextOf_40 : decode cX9_nextOf 40 = .ok (.iconst 0, 1) := by decide +kernel
theorem dX9_nextOf_41 : decode cX9_nextOf 41 = .ok (.istore 4, 2) := by decide +kernel
theorem dX9_nextOf_43 : decode cX9_nextOf 43 = .ok (.iload 4, 2) := by decide +kernel
theorem dX9_nextOf_45 : decode cX9_nextOf 45 = .ok (.ifCond .eq 32, 3) := by decide +kernel
theorem dX9_nextOf_48 : decode cX9_nextOf 48 = .ok (.iload_n 2, 1) := by decide +kernel
theorem dX9_nextOf_49 : decode cX9_nextOf 49 = .ok (.bipush (-9), 2) := by decide +kernel
theorem dX9_nextOf_51 : decode cX9_nextOf 51 = .ok (.if_icmp .eq 22, 3) := by decide +kernel
theorem dX9_nextOf_54 : decode cX9_nextOf 54 = .ok (.aload_n 1, 1) := by decide +kernel
theorem dX9_nextOf_55 : decode cX9_nextOf 55 = .ok (.iload_n 3, 1) := by decide +kernel
theorem dX9_nextOf_56 : decode cX9_nextOf 56 = .ok (.invokestatic 68, 3) := by decide +kernel
theorem dX9_nextOf_59 : decode cX9_nextOf 59 = .ok (.iconst 4, 1) := by decide +kernel
theorem dX9_nextOf_60 : decode cX9_nextOf 60 = .ok (.iadd, 1) := by decide +kernel
theorem dX9_nextOf_61 : decode cX9_nextOf 61 = .ok (.iaload, 1) := by decide +kernel
theorem dX9_nextOf_62 : decode cX9_nextOf 62 = .ok (.aload_n 1, 1) := by decide +kernel
theorem dX9_nextOf_63 : decode cX9_nextOf 63 = .ok (.iload_n 2, 1) := by decide +kernel
theorem dX9_nextOf_64 : decode cX9_nextOf 64 = .ok (.invokestatic 68, 3) := by decide +kernel
theorem dX9_nextOf_67 : decode cX9_nextOf 67 = .ok (.iconst 4, 1) := by decide +kernel
theorem dX9_nextOf_68 : decode cX9_nextOf 68 = .ok (.iadd, 1) := by decide +kernel
theorem dX9_nextOf_69 : decode cX9_nextOf 69 = .ok (.iaload, 1) := by decide +kernel
theorem dX9_nextOf_70 : decode cX9_nextOf 70 = .ok (.if_icmp .ge 7, 3) := by decide +kernel
theorem dX9_nextOf_73 : decode cX9_nextOf 73 = .ok (.iload_n 3, 1) := by decide +kernel
theorem dX9_nextOf_74 : decode cX9_nextOf 74 = .ok (.goto 4, 3) := by decide +kernel
theorem dX9_nextOf_77 : decode cX9_nextOf 77 = .ok (.iload_n 2, 1) := by decide +kernel
theorem dX9_nextOf_78 : decode cX9_nextOf 78 = .ok (.istore_n 2, 1) := by decide +kernel
theorem dX9_nextOf_79 : decode cX9_nextOf 79 = .ok (.iinc 3 1, 3) := by decide +kernel
theorem dX9_nextOf_82 : decode cX9_nextOf 82 = .ok (.goto (-77), 3) := by decide +kernel
theorem dX9_nextOf_85 : decode cX9_nextOf 85 = .ok (.iload_n 2, 1) := by decide +kernel
theorem dX9_nextOf_86 : decode cX9_nextOf 86 = .ok (.ireturn, 1) := by decide +kernel
theorem dX9_meanOf_0 : decode cX9_meanOf 0 = .ok (.iconst 0, 1) := by decide +kernel
theorem dX9_meanOf_1 : decode cX9_meanOf 1 = .ok (.istore_n 2, 1) := by decide +kernel
theorem dX9_meanOf_2 : decode cX9_meanOf 2 = .ok (.iconst 0, 1) := by decide +kernel
theorem dX9_meanOf_3 : decode cX9_meanOf 3 = .ok (.istore_n 3, 1) := by decide +kernel
theorem dX9_meanOf_4 : decode cX9_meanOf 4 = .ok (.iload_n 3, 1) := by decide +kernel
theorem dX9_meanOf_5 : decode cX9_meanOf 5 = .ok (.aload_n 0, 1) := by decide +kernel
theorem dX9_meanOf_6 : decode cX9_meanOf 6 = .ok (.getfield 17, 3) := by decide +kernel
theorem dX9_meanOf_9 : decode cX9_meanOf 9 = .ok (.if_icmp .ge 18, 3) := by decide +kernel
theorem dX9_meanOf_12 : decode cX9_meanOf 12 = .ok (.iload_n 2, 1) := by decide +kernel
theorem dX9_meanOf_13 : decode cX9_meanOf 13 = .ok (.aload_n 1, 1) := by decide +kernel
theorem dX9_meanOf_14 : decode cX9_meanOf 14 = .ok (.bipush 22, 2) := by decide +kernel
theorem dX9_meanOf_16 : decode cX9_meanOf 16 = .ok (.iload_n 3, 1) := by decide +kernel
theorem dX9_meanOf_17 : decode cX9_meanOf 17 = .ok (.iadd, 1) := by decide +kernel
theorem dX9_meanOf_18 : decode cX9_meanOf 18 = .ok (.iaload, 1) := by decide +kernel
theorem dX9_meanOf_19 : decode cX9_meanOf 19 = .ok (.iadd, 1) := by decide +kernel
theorem dX9_meanOf_20 : decode cX9_meanOf 20 = .ok (.istore_n 2, 1) := by decide +kernel
theorem dX9_meanOf_21 : decode cX9_meanOf 21 = .ok (.iinc 3 1, 3) := by decide +kernel
theorem dX9_meanOf_24 : decode cX9_meanOf 24 = .ok (.goto (-20), 3) := by decide +kernel
theorem dX9_meanOf_27 : decode cX9_meanOf 27 = .ok (.iload_n 2, 1) := by decide +kernel
theorem dX9_meanOf_28 : decode cX9_meanOf 28 = .ok (.aload_n 0, 1) := by decide +kernel
theorem dX9_meanOf_29 : decode cX9_meanOf 29 = .ok (.getfield 17, 3) := by decide +kernel
theorem dX9_meanOf_32 : decode cX9_meanOf 32 = .ok (.idiv, 1) := by decide +kernel
theorem dX9_meanOf_33 : decode cX9_meanOf 33 = .ok (.ireturn, 1) := by decide +kernel
theorem dX9_fuelOf_0 : decode cX9_fuelOf 0 = .ok (.iconst 0, 1) := by decide +kernel
theorem dX9_fuelOf_1 : decode cX9_fuelOf 1 = .ok (.istore_n 2, 1) := by decide +kernel
theorem dX9_fuelOf_2 : decode cX9_fuelOf 2 = .ok (.iconst 0, 1) := by decide +kernel
theorem dX9_fuelOf_3 : decode cX9_fuelOf 3 = .ok (.istore_n 3, 1) := by decide +kernel
theorem dX9_fuelOf_4 : decode cX9_fuelOf 4 = .ok (.iload_n 3, 1) := by decide +kernel
theorem dX9_fuelOf_5 : decode cX9_fuelOf 5 = .ok (.aload_n 0, 1) := by decide +kernel
theorem dX9_fuelOf_6 : decode cX9_fuelOf 6 = .ok (.getfield 13, 3) := by decide +kernel
theorem dX9_fuelOf_9 : decode cX9_fuelOf 9 = .ok (.if_icmp .ge 21, 3) := by decide +kernel
theorem dX9_fuelOf_12 : decode cX9_fuelOf 12 = .ok (.iload_n 2, 1) := by decide +kernel
theorem dX9_fuelOf_13 : decode cX9_fuelOf 13 = .ok (.aload_n 1, 1) := by decide +kernel
theorem dX9_fuelOf_14 : decode cX9_fuelOf 14 = .ok (.iload_n 3, 1) := by decide +kernel
theorem dX9_fuelOf_15 : decode cX9_fuelOf 15 = .ok (.invokestatic 68, 3) := by decide +kernel
theorem dX9_fuelOf_18 : decode cX9_fuelOf 18 = .ok (.bipush 6, 2) := by decide +kernel
theorem dX9_fuelOf_20 : decode cX9_fuelOf 20 = .ok (.iadd, 1) := by decide +kernel
theorem dX9_fuelOf_21 : decode cX9_fuelOf 21 = .ok (.iaload, 1) := by decide +kernel
theorem dX9_fuelOf_22 : decode cX9_fuelOf 22 = .ok (.iadd, 1) := by decide +kernel
theorem dX9_fuelOf_23 : decode cX9_fuelOf 23 = .ok (.istore_n 2, 1) := by decide +kernel
theorem dX9_fuelOf_24 : decode cX9_fuelOf 24 = .ok (.iinc 3 1, 3) := by decide +kernel
theorem dX9_fuelOf_27 : decode cX9_fuelOf 27 = .ok (.goto (-23), 3) := by decide +kernel
theorem dX9_fuelOf_30 : decode cX9_fuelOf 30 = .ok (.iload_n 2, 1) := by decide +kernel
theorem dX9_fuelOf_31 : decode cX9_fuelOf 31 = .ok (.ireturn, 1) := by decide +kernel
theorem dX9_startsOf_0 : decode cX9_startsOf 0 = .ok (.iconst 0, 1) := by decide +kernel
theorem dX9_startsOf_1 : decode cX9_startsOf 1 = .ok (.istore_n 2, 1) := by decide +kernel
theorem dX9_startsOf_2 : decode cX9_startsOf 2 = .ok (.iconst 0, 1) := by decide +kernel
theorem dX9_startsOf_3 : decode cX9_startsOf 3 = .ok (.istore_n 3, 1) := by decide +kernel
theorem dX9_startsOf_4 : decode cX9_startsOf 4 = .ok (.iload_n 3, 1) := by decide +kernel
theorem dX9_startsOf_5 : decode cX9_startsOf 5 = .ok (.aload_n 0, 1) := by decide +kernel
theorem dX9_startsOf_6 : decode cX9_startsOf 6 = .ok (.getfield 13, 3) := by decide +kernel
theorem dX9_startsOf_9 : decode cX9_startsOf 9 = .ok (.if_icmp .ge 20, 3) := by decide +kernel
theorem dX9_startsOf_12 : decode cX9_startsOf 12 = .ok (.iload_n 2, 1) := by decide +kernel
theorem dX9_startsOf_13 : decode cX9_startsOf 13 = .ok (.aload_n 1, 1) := by decide +kernel
theorem dX9_startsOf_14 : decode cX9_startsOf 14 = .ok (.iload_n 3, 1) := by decide +kernel
theorem dX9_startsOf_15 : decode cX9_startsOf 15 = .ok (.invokestatic 68, 3) := by decide +kernel
theorem dX9_startsOf_18 : decode cX9_startsOf 18 = .ok (.iconst 5, 1) := by decide +kernel
theorem dX9_startsOf_19 : decode cX9_startsOf 19 = .ok (.iadd, 1) := by decide +kernel
theorem dX9_startsOf_20 : decode cX9_startsOf 20 = .ok (.iaload, 1) := by decide +kernel
theorem dX9_startsOf_21 : decode cX9_startsOf 21 = .ok (.iadd, 1) := by decide +kernel
theorem dX9_startsOf_22 : decode cX9_startsOf 22 = .ok (.istore_n 2, 1) := by decide +kernel
theorem dX9_startsOf_23 : decode cX9_startsOf 23 = .ok (.iinc 3 1, 3) := by decide +kernel
theorem dX9_startsOf_26 : decode cX9_startsOf 26 = .ok (.goto (-22), 3) := by decide +kernel
theorem dX9_startsOf_29 : decode cX9_startsOf 29 = .ok (.iload_n 2, 1) := by decide +kernel
theorem dX9_startsOf_30 : decode cX9_startsOf 30 = .ok (.ireturn, 1) := by decide +kernel
theorem dX9_count_0 : decode cX9_count 0 = .ok (.iconst 0, 1) := by decide +kernel
theorem dX9_count_1 : decode cX9_count 1 = .ok (.istore_n 3, 1) := by decide +kernel
theorem dX9_count_2 : decode cX9_count 2 = .ok (.iconst 0, 1) := by decide +kernel
theorem dX9_count_3 : decode cX9_count 3 = .ok (.istore 4, 2) := by decide +kernel
theorem dX9_count_5 : decode cX9_count 5 = .ok (.iload 4, 2) := by decide +kernel
theorem dX9_count_7 : decode cX9_count 7 = .ok (.aload_n 0, 1) := by decide +kernel
theorem dX9_count_8 : decode cX9_count 8 = .ok (.getfield 13, 3) := by decide +kernel
theorem dX9_count_11 : decode cX9_count 11 = .ok (.if_icmp .ge 30, 3) := by decide +kernel
theorem dX9_count_14 : decode cX9_count 14 = .ok (.iload_n 3, 1) := by decide +kernel
theorem dX9_count_15 : decode cX9_count 15 = .ok (.aload_n 1, 1) := by decide +kernel
theorem dX9_count_16 : decode cX9_count 16 = .ok (.iload 4, 2) := by decide +kernel
theorem dX9_count_18 : decode cX9_count 18 = .ok (.invokestatic 68, 3) := by decide +kernel
theorem dX9_count_21 : decode cX9_count 21 = .ok (.iconst 2, 1) := by decide +kernel
theorem dX9_count_22 : decode cX9_count 22 = .ok (.iadd, 1) := by decide +kernel
theorem dX9_count_23 : decode cX9_count 23 = .ok (.iaload, 1) := by decide +kernel
theorem dX9_count_24 : decode cX9_count 24 = .ok (.iload_n 2, 1) := by decide +kernel
theorem dX9_count_25 : decode cX9_count 25 = .ok (.if_icmp .ne 7, 3) := by decide +kernel
theorem dX9_count_28 : decode cX9_count 28 = .ok (.iconst 1, 1) := by decide +kernel
theorem dX9_count_29 : decode cX9_count 29 = .ok (.goto 4, 3) := by decide +kernel
theorem dX9_count_32 : decode cX9_count 32 = .ok (.iconst 0, 1) := by decide +kernel
theorem dX9_count_33 : decode cX9_count 33 = .ok (.iadd, 1) := by decide +kernel
theorem dX9_count_34 : decode cX9_count 34 = .ok (.istore_n 3, 1) := by decide +kernel
theorem dX9_count_35 : decode cX9_count 35 = .ok (.iinc 4 1, 3) := by decide +kernel
theorem dX9_count_38 : decode cX9_count 38 = .ok (.goto (-33), 3) := by decide +kernel
theorem dX9_count_41 : decode cX9_count 41 = .ok (.iload_n 3, 1) := by decide +kernel
theorem dX9_count_42 : decode cX9_count 42 = .ok (.ireturn, 1) := by decide +kernel
theorem dX9_drawOn_0 : decode cX9_drawOn 0 = .ok (.iconst 0, 1) := by decide +kernel
theorem dX9_drawOn_1 : decode cX9_drawOn 1 = .ok (.istore_n 3, 1) := by decide +kernel
theorem dX9_drawOn_2 : decode cX9_drawOn 2 = .ok (.iconst 0, 1) := by decide +kernel
theorem dX9_drawOn_3 : decode cX9_drawOn 3 = .ok (.istore 4, 2) := by decide +kernel
theorem dX9_drawOn_5 : decode cX9_drawOn 5 = .ok (.iload 4, 2) := by decide +kernel
theorem dX9_drawOn_7 : decode cX9_drawOn 7 = .ok (.iload_n 2, 1) := by decide +kernel
theorem dX9_drawOn_8 : decode cX9_drawOn 8 = .ok (.if_icmp .ge 81, 3) := by decide +kernel
theorem dX9_drawOn_11 : decode cX9_drawOn 11 = .ok (.iload_n 3, 1) := by decide +kernel
theorem dX9_drawOn_12 : decode cX9_drawOn 12 = .ok (.aload_n 1, 1) := by decide +kernel
theorem dX9_drawOn_13 : decode cX9_drawOn 13 = .ok (.bipush 22, 2) := by decide +kernel
theorem dX9_drawOn_15 : decode cX9_drawOn 15 = .ok (.aload_n 0, 1) := by decide +kernel
theorem dX9_drawOn_16 : decode cX9_drawOn 16 = .ok (.getfield 17, 3) := by decide +kernel
theorem dX9_drawOn_19 : decode cX9_drawOn 19 = .ok (.iadd, 1) := by decide +kernel
theorem dX9_drawOn_20 : decode cX9_drawOn 20 = .ok (.iconst 1, 1) := by decide +kernel
theorem dX9_drawOn_21 : decode cX9_drawOn 21 = .ok (.isub, 1) := by decide +kernel
theorem dX9_drawOn_22 : decode cX9_drawOn 22 = .ok (.iaload, 1) := by decide +kernel
theorem dX9_drawOn_23 : decode cX9_drawOn 23 = .ok (.iadd, 1) := by decide +kernel
theorem dX9_drawOn_24 : decode cX9_drawOn 24 = .ok (.istore_n 3, 1) := by decide +kernel
theorem dX9_drawOn_25 : decode cX9_drawOn 25 = .ok (.aload_n 0, 1) := by decide +kernel
theorem dX9_drawOn_26 : decode cX9_drawOn 26 = .ok (.getfield 17, 3) := by decide +kernel
theorem dX9_drawOn_29 : decode cX9_drawOn 29 = .ok (.iconst 1, 1) := by decide +kernel
theorem dX9_drawOn_30 : decode cX9_drawOn 30 = .ok (.isub, 1) := by decide +kernel
theorem dX9_drawOn_31 : decode cX9_drawOn 31 = .ok (.istore 5, 2) := by decide +kernel
theorem dX9_drawOn_33 : decode cX9_drawOn 33 = .ok (.iload 5, 2) := by decide +kernel
theorem dX9_drawOn_35 : decode cX9_drawOn 35 = .ok (.ifCond .le 25, 3) := by decide +kernel
theorem dX9_drawOn_38 : decode cX9_drawOn 38 = .ok (.aload_n 1, 1) := by decide +kernel
theorem dX9_drawOn_39 : decode cX9_drawOn 39 = .ok (.bipush 22, 2) := by decide +kernel
theorem dX9_drawOn_41 : decode cX9_drawOn 41 = .ok (.iload 5, 2) := by decide +kernel
theorem dX9_drawOn_43 : decode cX9_drawOn 43 = .ok (.iadd, 1) := by decide +kernel
theorem dX9_drawOn_44 : decode cX9_drawOn 44 = .ok (.aload_n 1, 1) := by decide +kernel
theorem dX9_drawOn_45 : decode cX9_drawOn 45 = .ok (.bipush 22, 2) := by decide +kernel
theorem dX9_drawOn_47 : decode cX9_drawOn 47 = .ok (.iload 5, 2) := by decide +kernel
theorem dX9_drawOn_49 : decode cX9_drawOn 49 = .ok (.iadd, 1) := by decide +kernel
theorem dX9_drawOn_50 : decode cX9_drawOn 50 = .ok (.iconst 1, 1) := by decide +kernel
theorem dX9_drawOn_51 : decode cX9_drawOn 51 = .ok (.isub, 1) := by decide +kernel
theorem dX9_drawOn_52 : decode cX9_drawOn 52 = .ok (.iaload, 1) := by decide +kernel
theorem dX9_drawOn_53 : decode cX9_drawOn 53 = .ok (.iastore, 1) := by decide +kernel
theorem dX9_drawOn_54 : decode cX9_drawOn 54 = .ok (.iinc 5 (-1), 3) := by decide +kernel
theorem dX9_drawOn_57 : decode cX9_drawOn 57 = .ok (.goto (-24), 3) := by decide +kernel
theorem dX9_drawOn_60 : decode cX9_drawOn 60 = .ok (.aload_n 1, 1) := by decide +kernel
theorem dX9_drawOn_61 : decode cX9_drawOn 61 = .ok (.bipush 22, 2) := by decide +kernel
theorem dX9_drawOn_63 : decode cX9_drawOn 63 = .ok (.bipush 10, 2) := by decide +kernel
theorem dX9_drawOn_65 : decode cX9_drawOn 65 = .ok (.iastore, 1) := by decide +kernel
theorem dX9_drawOn_66 : decode cX9_drawOn 66 = .ok (.aload_n 1, 1) := by decide +kernel
theorem dX9_drawOn_67 : decode cX9_drawOn 67 = .ok (.bipush 14, 2) := by decide +kernel
theorem dX9_drawOn_69 : decode cX9_drawOn 69 = .ok (.dup2, 1) := by decide +kernel
theorem dX9_drawOn_70 : decode cX9_drawOn 70 = .ok (.iaload, 1) := by decide +kernel
theorem dX9_drawOn_71 : decode cX9_drawOn 71 = .ok (.bipush 10, 2) := by decide +kernel
theorem dX9_drawOn_73 : decode cX9_drawOn 73 = .ok (.iadd, 1) := by decide +kernel
theorem dX9_drawOn_74 : decode cX9_drawOn 74 = .ok (.iastore, 1) := by decide +kernel
theorem dX9_drawOn_75 : decode cX9_drawOn 75 = .ok (.aload_n 1, 1) := by decide +kernel
theorem dX9_drawOn_76 : decode cX9_drawOn 76 = .ok (.bipush 17, 2) := by decide +kernel
theorem dX9_drawOn_78 : decode cX9_drawOn 78 = .ok (.dup2, 1) := by decide +kernel
theorem dX9_drawOn_79 : decode cX9_drawOn 79 = .ok (.iaload, 1) := by decide +kernel
theorem dX9_drawOn_80 : decode cX9_drawOn 80 = .ok (.iconst 1, 1) := by decide +kernel
theorem dX9_drawOn_81 : decode cX9_drawOn 81 = .ok (.iadd, 1) := by decide +kernel
theorem dX9_drawOn_82 : decode cX9_drawOn 82 = .ok (.iastore, 1) := by decide +kernel
theorem dX9_drawOn_83 : decode cX9_drawOn 83 = .ok (.iinc 4 1, 3) := by decide +kernel
theorem dX9_drawOn_86 : decode cX9_drawOn 86 = .ok (.goto (-81), 3) := by decide +kernel
theorem dX9_drawOn_89 : decode cX9_drawOn 89 = .ok (.aload_n 1, 1) := by decide +kernel
theorem dX9_drawOn_90 : decode cX9_drawOn 90 = .ok (.bipush 15, 2) := by decide +kernel
theorem dX9_drawOn_92 : decode cX9_drawOn 92 = .ok (.dup2, 1) := by decide +kernel
theorem dX9_drawOn_93 : decode cX9_drawOn 93 = .ok (.iaload, 1) := by decide +kernel
theorem dX9_drawOn_94 : decode cX9_drawOn 94 = .ok (.iload_n 3, 1) := by decide +kernel
theorem dX9_drawOn_95 : decode cX9_drawOn 95 = .ok (.iadd, 1) := by decide +kernel
theorem dX9_drawOn_96 : decode cX9_drawOn 96 = .ok (.iastore, 1) := by decide +kernel
theorem dX9_drawOn_97 : decode cX9_drawOn 97 = .ok (.iload_n 3, 1) := by decide +kernel
theorem dX9_drawOn_98 : decode cX9_drawOn 98 = .ok (.ireturn, 1) := by decide +kernel
theorem dX9_startOn_0 : decode cX9_startOn 0 = .ok (.aload_n 1, 1) := by decide +kernel
theorem dX9_startOn_1 : decode cX9_startOn 1 = .ok (.iload_n 2, 1) := by decide +kernel
theorem dX9_startOn_2 : decode cX9_startOn 2 = .ok (.invokestatic 68, 3) := by decide +kernel
theorem dX9_startOn_5 : decode cX9_startOn 5 = .ok (.iconst 2, 1) := by decide +kernel
theorem dX9_startOn_6 : decode cX9_startOn 6 = .ok (.iadd, 1) := by decide +kernel
theorem dX9_startOn_7 : decode cX9_startOn 7 = .ok (.iaload, 1) := by decide +kernel
theorem dX9_startOn_8 : decode cX9_startOn 8 = .ok (.ifCond .ne 7, 3) := by decide +kernel
theorem dX9_startOn_11 : decode cX9_startOn 11 = .ok (.iconst 1, 1) := by decide +kernel
theorem dX9_startOn_12 : decode cX9_startOn 12 = .ok (.goto 4, 3) := by decide +kernel
theorem dX9_startOn_15 : decode cX9_startOn 15 = .ok (.iconst 0, 1) := by decide +kernel
theorem dX9_startOn_16 : decode cX9_startOn 16 = .ok (.istore_n 3, 1) := by decide +kernel
theorem dX9_startOn_17 : decode cX9_startOn 17 = .ok (.aload_n 1, 1) := by decide +kernel
theorem dX9_startOn_18 : decode cX9_startOn 18 = .ok (.iload_n 2, 1) := by decide +kernel
theorem dX9_startOn_19 : decode cX9_startOn 19 = .ok (.invokestatic 68, 3) := by decide +kernel
theorem dX9_startOn_22 : decode cX9_startOn 22 = .ok (.iconst 2, 1) := by decide +kernel
theorem dX9_startOn_23 : decode cX9_startOn 23 = .ok (.iadd, 1) := by decide +kernel
theorem dX9_startOn_24 : decode cX9_startOn 24 = .ok (.iload_n 3, 1) := by decide +kernel
theorem dX9_startOn_25 : decode cX9_startOn 25 = .ok (.ifCond .eq 7, 3) := by decide +kernel
theorem dX9_startOn_28 : decode cX9_startOn 28 = .ok (.iconst 1, 1) := by decide +kernel
theorem dX9_startOn_29 : decode cX9_startOn 29 = .ok (.goto 4, 3) := by decide +kernel
theorem dX9_startOn_32 : decode cX9_startOn 32 = .ok (.iconst 2, 1) := by decide +kernel
theorem dX9_startOn_33 : decode cX9_startOn 33 = .ok (.iastore, 1) := by decide +kernel
theorem dX9_startOn_34 : decode cX9_startOn 34 = .ok (.aload_n 1, 1) := by decide +kernel
theorem dX9_startOn_35 : decode cX9_startOn 35 = .ok (.iload_n 2, 1) := by decide +kernel
theorem dX9_startOn_36 : decode cX9_startOn 36 = .ok (.invokestatic 68, 3) := by decide +kernel
theorem dX9_startOn_39 : decode cX9_startOn 39 = .ok (.iconst 3, 1) := by decide +kernel
theorem dX9_startOn_40 : decode cX9_startOn 40 = .ok (.iadd, 1) := by decide +kernel
theorem dX9_startOn_41 : decode cX9_startOn 41 = .ok (.iload_n 3, 1) := by decide +kernel
theorem dX9_startOn_42 : decode cX9_startOn 42 = .ok (.ifCond .eq 9, 3) := by decide +kernel
theorem dX9_startOn_45 : decode cX9_startOn 45 = .ok (.aload_n 1, 1) := by decide +kernel
theorem dX9_startOn_46 : decode cX9_startOn 46 = .ok (.iconst 2, 1) := by decide +kernel
theorem dX9_startOn_47 : decode cX9_startOn 47 = .ok (.iaload, 1) := by decide +kernel
theorem dX9_startOn_48 : decode cX9_startOn 48 = .ok (.goto 4, 3) := by decide +kernel
theorem dX9_startOn_51 : decode cX9_startOn 51 = .ok (.iconst 0, 1) := by decide +kernel
theorem dX9_startOn_52 : decode cX9_startOn 52 = .ok (.iastore, 1) := by decide +kernel
theorem dX9_startOn_53 : decode cX9_startOn 53 = .ok (.aload_n 1, 1) := by decide +kernel
theorem dX9_startOn_54 : decode cX9_startOn 54 = .ok (.iload_n 2, 1) := by decide +kernel
theorem dX9_startOn_55 : decode cX9_startOn 55 = .ok (.invokestatic 68, 3) := by decide +kernel
theorem dX9_startOn_58 : decode cX9_startOn 58 = .ok (.iconst 5, 1) := by decide +kernel
theorem dX9_startOn_59 : decode cX9_startOn 59 = .ok (.iadd, 1) := by decide +kernel
theorem dX9_startOn_60 : decode cX9_startOn 60 = .ok (.dup2, 1) := by decide +kernel
theorem dX9_startOn_61 : decode cX9_startOn 61 = .ok (.iaload, 1) := by decide +kernel
theorem dX9_startOn_62 : decode cX9_startOn 62 = .ok (.iconst 1, 1) := by decide +kernel
theorem dX9_startOn_63 : decode cX9_startOn 63 = .ok (.iadd, 1) := by decide +kernel
theorem dX9_startOn_64 : decode cX9_startOn 64 = .ok (.iastore, 1) := by decide +kernel
theorem dX9_startOn_65 : decode cX9_startOn 65 = .ok (.return_, 1) := by decide +kernel
theorem dX9_reasonOf_0 : decode cX9_reasonOf 0 = .ok (.iconst 3, 1) := by decide +kernel
theorem dX9_reasonOf_1 : decode cX9_reasonOf 1 = .ok (.istore_n 2, 1) := by decide +kernel
theorem dX9_reasonOf_2 : decode cX9_reasonOf 2 = .ok (.iconst 0, 1) := by decide +kernel
theorem dX9_reasonOf_3 : decode cX9_reasonOf 3 = .ok (.istore_n 3, 1) := by decide +kernel
theorem dX9_reasonOf_4 : decode cX9_reasonOf 4 = .ok (.iload_n 3, 1) := by decide +kernel
theorem dX9_reasonOf_5 : decode cX9_reasonOf 5 = .ok (.aload_n 0, 1) := by decide +kernel
theorem dX9_reasonOf_6 : decode cX9_reasonOf 6 = .ok (.getfield 13, 3) := by decide +kernel
theorem dX9_reasonOf_9 : decode cX9_reasonOf 9 = .ok (.if_icmp .ge 55, 3) := by decide +kernel
theorem dX9_reasonOf_12 : decode cX9_reasonOf 12 = .ok (.aload_n 1, 1) := by decide +kernel
theorem dX9_reasonOf_13 : decode cX9_reasonOf 13 = .ok (.iload_n 3, 1) := by decide +kernel
theorem dX9_reasonOf_14 : decode cX9_reasonOf 14 = .ok (.invokestatic 68, 3) := by decide +kernel
theorem dX9_reasonOf_17 : decode cX9_reasonOf 17 = .ok (.iconst 2, 1) := by decide +kernel
theorem dX9_reasonOf_18 : decode cX9_reasonOf 18 = .ok (.iadd, 1) := by decide +kernel
theorem dX9_reasonOf_19 : decode cX9_reasonOf 19 = .ok (.iaload, 1) := by decide +kernel
theorem dX9_reasonOf_20 : decode cX9_reasonOf 20 = .ok (.invokestatic 80, 3) := by decide +kernel
theorem dX9_reasonOf_23 : decode cX9_reasonOf 23 = .ok (.ifCond .eq 35, 3) := by decide +kernel
theorem dX9_reasonOf_26 : decode cX9_reasonOf 26 = .ok (.aload_n 1, 1) := by decide +kernel
theorem dX9_reasonOf_27 : decode cX9_reasonOf 27 = .ok (.bipush 20, 2) := by decide +kernel
theorem dX9_reasonOf_29 : decode cX9_reasonOf 29 = .ok (.aload_n 1, 1) := by decide +kernel
theorem dX9_reasonOf_30 : decode cX9_reasonOf 30 = .ok (.iload_n 3, 1) := by decide +kernel
theorem dX9_reasonOf_31 : decode cX9_reasonOf 31 = .ok (.invokestatic 68, 3) := by decide +kernel
theorem dX9_reasonOf_34 : decode cX9_reasonOf 34 = .ok (.iconst 1, 1) := by decide +kernel
theorem dX9_reasonOf_35 : decode cX9_reasonOf 35 = .ok (.iadd, 1) := by decide +kernel
theorem dX9_reasonOf_36 : decode cX9_reasonOf 36 = .ok (.iaload, 1) := by decide +kernel
theorem dX9_reasonOf_37 : decode cX9_reasonOf 37 = .ok (.iadd, 1) := by decide +kernel
theorem dX9_reasonOf_38 : decode cX9_reasonOf 38 = .ok (.iaload, 1) := by decide +kernel
theorem dX9_reasonOf_39 : decode cX9_reasonOf 39 = .ok (.iconst 1, 1) := by decide +kernel
theorem dX9_reasonOf_40 : decode cX9_reasonOf 40 = .ok (.if_icmp .ne 7, 3) := by decide +kernel
theorem dX9_reasonOf_43 : decode cX9_reasonOf 43 = .ok (.iconst 1, 1) := by decide +kernel
theorem dX9_reasonOf_44 : decode cX9_reasonOf 44 = .ok (.goto 13, 3) := by decide +kernel
theorem dX9_reasonOf_47 : decode cX9_reasonOf 47 = .ok (.iload_n 2, 1) := by decide +kernel
theorem dX9_reasonOf_48 : decode cX9_reasonOf 48 = .ok (.iconst 1, 1) := by decide +kernel
theorem dX9_reasonOf_49 : decode cX9_reasonOf 49 = .ok (.if_icmp .ne 7, 3) := by decide +kernel
theorem dX9_reasonOf_52 : decode cX9_reasonOf 52 = .ok (.iconst 1, 1) := by decide +kernel
theorem dX9_reasonOf_53 : decode cX9_reasonOf 53 = .ok (.goto 4, 3) := by decide +kernel
theorem dX9_reasonOf_56 : decode cX9_reasonOf 56 = .ok (.iconst 2, 1) := by decide +kernel
theorem dX9_reasonOf_57 : decode cX9_reasonOf 57 = .ok (.istore_n 2, 1) := by decide +kernel
theorem dX9_reasonOf_58 : decode cX9_reasonOf 58 = .ok (.iinc 3 1, 3) := by decide +kernel
theorem dX9_reasonOf_61 : decode cX9_reasonOf 61 = .ok (.goto (-57), 3) := by decide +kernel
theorem dX9_reasonOf_64 : decode cX9_reasonOf 64 = .ok (.iload_n 2, 1) := by decide +kernel
theorem dX9_reasonOf_65 : decode cX9_reasonOf 65 = .ok (.ireturn, 1) := by decide +kernel
theorem dX9_control_0 : decode cX9_control 0 = .ok (.aload_n 1, 1) := by decide +kernel
theorem dX9_control_1 : decode cX9_control 1 = .ok (.bipush 8, 2) := by decide +kernel
theorem dX9_control_3 : decode cX9_control 3 = .ok (.iaload, 1) := by decide +kernel
theorem dX9_control_4 : decode cX9_control 4 = .ok (.iconst 1, 1) := by decide +kernel
theorem dX9_control_5 : decode cX9_control 5 = .ok (.if_icmp .ne 9, 3) := by decide +kernel
theorem dX9_control_8 : decode cX9_control 8 = .ok (.aload_n 1, 1) := by decide +kernel
theorem dX9_control_9 : decode cX9_control 9 = .ok (.iconst 3, 1) := by decide +kernel
theorem dX9_control_10 : decode cX9_control 10 = .ok (.iaload, 1) := by decide +kernel
theorem dX9_control_11 : decode cX9_control 11 = .ok (.goto 6, 3) := by decide +kernel
theorem dX9_control_14 : decode cX9_control 14 = .ok (.aload_n 1, 1) := by decide +kernel
theorem dX9_control_15 : decode cX9_control 15 = .ok (.iconst 0, 1) := by decide +kernel
theorem dX9_control_16 : decode cX9_control 16 = .ok (.iaload, 1) := by decide +kernel
theorem dX9_control_17 : decode cX9_control 17 = .ok (.istore_n 2, 1) := by decide +kernel
theorem dX9_control_18 : decode cX9_control 18 = .ok (.aload_n 0, 1) := by decide +kernel
theorem dX9_control_19 : decode cX9_control 19 = .ok (.aload_n 1, 1) := by decide +kernel
theorem dX9_control_20 : decode cX9_control 20 = .ok (.invokevirtual 87, 3) := by decide +kernel
theorem dX9_control_23 : decode cX9_control 23 = .ok (.istore_n 3, 1) := by decide +kernel
theorem dX9_control_24 : decode cX9_control 24 = .ok (.aload_n 1, 1) := by decide +kernel
theorem dX9_control_25 : decode cX9_control 25 = .ok (.bipush 7, 2) := by decide +kernel
theorem dX9_control_27 : decode cX9_control 27 = .ok (.iconst 0, 1) := by decide +kernel
theorem dX9_control_28 : decode cX9_control 28 = .ok (.iastore, 1) := by decide +kernel
theorem dX9_control_29 : decode cX9_control 29 = .ok (.iload_n 3, 1) := by decide +kernel
theorem dX9_control_30 : decode cX9_control 30 = .ok (.iload_n 2, 1) := by decide +kernel
theorem dX9_control_31 : decode cX9_control 31 = .ok (.aload_n 1, 1) := by decide +kernel
theorem dX9_control_32 : decode cX9_control 32 = .ok (.iconst 1, 1) := by decide +kernel
theorem dX9_control_33 : decode cX9_control 33 = .ok (.iaload, 1) := by decide +kernel
theorem dX9_control_34 : decode cX9_control 34 = .ok (.isub, 1) := by decide +kernel
theorem dX9_control_35 : decode cX9_control 35 = .ok (.if_icmp .ge 39, 3) := by decide +kernel
theorem dX9_control_38 : decode cX9_control 38 = .ok (.aload_n 0, 1) := by decide +kernel
theorem dX9_control_39 : decode cX9_control 39 = .ok (.aload_n 1, 1) := by decide +kernel
theorem dX9_control_40 : decode cX9_control 40 = .ok (.invokevirtual 91, 3) := by decide +kernel
theorem dX9_control_43 : decode cX9_control 43 = .ok (.istore 4, 2) := by decide +kernel
theorem dX9_control_45 : decode cX9_control 45 = .ok (.iload 4, 2) := by decide +kernel
theorem dX9_control_47 : decode cX9_control 47 = .ok (.bipush (-9), 2) := by decide +kernel
theorem dX9_control_49 : decode cX9_control 49 = .ok (.if_icmp .ne 15, 3) := by decide +kernel
theorem dX9_control_52 : decode cX9_control 52 = .ok (.aload_n 1, 1) := by decide +kernel
theorem dX9_control_53 : decode cX9_control 53 = .ok (.bipush 7, 2) := by decide +kernel
theorem dX9_control_55 : decode cX9_control 55 = .ok (.aload_n 0, 1) := by decide +kernel
theorem dX9_control_56 : decode cX9_control 56 = .ok (.aload_n 1, 1) := by decide +kernel
theorem dX9_control_57 : decode cX9_control 57 = .ok (.invokevirtual 94, 3) := by decide +kernel
theorem dX9_control_60 : decode cX9_control 60 = .ok (.iastore, 1) := by decide +kernel
theorem dX9_control_61 : decode cX9_control 61 = .ok (.goto 10, 3) := by decide +kernel
theorem dX9_control_64 : decode cX9_control 64 = .ok (.aload_n 0, 1) := by decide +kernel
theorem dX9_control_65 : decode cX9_control 65 = .ok (.aload_n 1, 1) := by decide +kernel
theorem dX9_control_66 : decode cX9_control 66 = .ok (.iload 4, 2) := by decide +kernel
theorem dX9_control_68 : decode cX9_control 68 = .ok (.invokevirtual 97, 3) := by decide +kernel
theorem dX9_control_71 : decode cX9_control 71 = .ok (.goto 113, 3) := by decide +kernel
theorem dX9_control_74 : decode cX9_control 74 = .ok (.iload_n 3, 1) := by decide +kernel
theorem dX9_control_75 : decode cX9_control 75 = .ok (.iload_n 2, 1) := by decide +kernel
theorem dX9_control_76 : decode cX9_control 76 = .ok (.aload_n 1, 1) := by decide +kernel
theorem dX9_control_77 : decode cX9_control 77 = .ok (.iconst 1, 1) := by decide +kernel
theorem dX9_control_78 : decode cX9_control 78 = .ok (.iaload, 1) := by decide +kernel
theorem dX9_control_79 : decode cX9_control 79 = .ok (.iadd, 1) := by decide +kernel
theorem dX9_control_80 : decode cX9_control 80 = .ok (.if_icmp .le 104, 3) := by decide +kernel
theorem dX9_control_83 : decode cX9_control 83 = .ok (.bipush (-9), 2) := by decide +kernel
theorem dX9_control_85 : decode cX9_control 85 = .ok (.istore 4, 2) := by decide +kernel
theorem dX9_control_87 : decode cX9_control 87 = .ok (.iconst 0, 1) := by decide +kernel
theorem dX9_control_88 : decode cX9_control 88 = .ok (.istore 5, 2) := by decide +kernel
theorem dX9_control_90 : decode cX9_control 90 = .ok (.iload 5, 2) := by decide +kernel
theorem dX9_control_92 : decode cX9_control 92 = .ok (.aload_n 0, 1) := by decide +kernel
theorem dX9_control_93 : decode cX9_control 93 = .ok (.getfield 13, 3) := by decide +kernel
theorem dX9_control_96 : decode cX9_control 96 = .ok (.if_icmp .ge 71, 3) := by decide +kernel
theorem dX9_control_99 : decode cX9_control 99 = .ok (.aload_n 1, 1) := by decide +kernel
theorem dX9_control_100 : decode cX9_control 100 = .ok (.iload 5, 2) := by decide +kernel
theorem dX9_control_102 : decode cX9_control 102 = .ok (.invokestatic 68, 3) := by decide +kernel
theorem dX9_control_105 : decode cX9_control 105 = .ok (.iconst 2, 1) := by decide +kernel
theorem dX9_control_106 : decode cX9_control 106 = .ok (.iadd, 1) := by decide +kernel
theorem dX9_control_107 : decode cX9_control 107 = .ok (.iaload, 1) := by decide +kernel
theorem dX9_control_108 : decode cX9_control 108 = .ok (.iconst 2, 1) := by decide +kernel
theorem dX9_control_109 : decode cX9_control 109 = .ok (.if_icmp .ne 7, 3) := by decide +kernel
theorem dX9_control_112 : decode cX9_control 112 = .ok (.iconst 1, 1) := by decide +kernel
theorem dX9_control_113 : decode cX9_control 113 = .ok (.goto 4, 3) := by decide +kernel
theorem dX9_control_116 : decode cX9_control 116 = .ok (.iconst 0, 1) := by decide +kernel
theorem dX9_control_117 : decode cX9_control 117 = .ok (.istore 6, 2) := by decide +kernel
theorem dX9_control_119 : decode cX9_control 119 = .ok (.iload 6, 2) := by decide +kernel
theorem dX9_control_121 : decode cX9_control 121 = .ok (.ifCond .eq 36, 3) := by decide +kernel
theorem dX9_control_124 : decode cX9_control 124 = .ok (.iload 4, 2) := by decide +kernel
theorem dX9_control_126 : decode cX9_control 126 = .ok (.bipush (-9), 2) := by decide +kernel
theorem dX9_control_128 : decode cX9_control 128 = .ok (.if_icmp .eq 24, 3) := by decide +kernel
theorem dX9_control_131 : decode cX9_control 131 = .ok (.aload_n 1, 1) := by decide +kernel
theorem dX9_control_132 : decode cX9_control 132 = .ok (.iload 5, 2) := by decide +kernel
theorem dX9_control_134 : decode cX9_control 134 = .ok (.invokestatic 68, 3) := by decide +kernel
theorem dX9_control_137 : decode cX9_control 137 = .ok (.iconst 4, 1) := by decide +kernel
theorem dX9_control_138 : decode cX9_control 138 = .ok (.iadd, 1) := by decide +kernel
theorem dX9_control_139 : decode cX9_control 139 = .ok (.iaload, 1) := by decide +kernel
theorem dX9_control_140 : decode cX9_control 140 = .ok (.aload_n 1, 1) := by decide +kernel
theorem dX9_control_141 : decode cX9_control 141 = .ok (.iload 4, 2) := by decide +kernel
theorem dX9_control_143 : decode cX9_control 143 = .ok (.invokestatic 68, 3) := by decide +kernel
theorem dX9_control_146 : decode cX9_control 146 = .ok (.iconst 4, 1) := by decide +kernel
theorem dX9_control_147 : decode cX9_control 147 = .ok (.iadd, 1) := by decide +kernel
theorem dX9_control_148 : decode cX9_control 148 = .ok (.iaload, 1) := by decide +kernel
theorem dX9_control_149 : decode cX9_control 149 = .ok (.if_icmp .lt 8, 3) := by decide +kernel
theorem dX9_control_152 : decode cX9_control 152 = .ok (.iload 5, 2) := by decide +kernel
theorem dX9_control_154 : decode cX9_control 154 = .ok (.goto 5, 3) := by decide +kernel
theorem dX9_control_157 : decode cX9_control 157 = .ok (.iload 4, 2) := by decide +kernel
theorem dX9_control_159 : decode cX9_control 159 = .ok (.istore 4, 2) := by decide +kernel
theorem dX9_control_161 : decode cX9_control 161 = .ok (.iinc 5 1, 3) := by decide +kernel
theorem dX9_control_164 : decode cX9_control 164 = .ok (.goto (-74), 3) := by decide +kernel
theorem dX9_control_167 : decode cX9_control 167 = .ok (.iload 4, 2) := by decide +kernel
theorem dX9_control_169 : decode cX9_control 169 = .ok (.bipush (-9), 2) := by decide +kernel
theorem dX9_control_171 : decode cX9_control 171 = .ok (.if_icmp .eq 13, 3) := by decide +kernel
theorem dX9_control_174 : decode cX9_control 174 = .ok (.aload_n 1, 1) := by decide +kernel
theorem dX9_control_175 : decode cX9_control 175 = .ok (.iload 4, 2) := by decide +kernel
theorem dX9_control_177 : decode cX9_control 177 = .ok (.invokestatic 68, 3) := by decide +kernel
theorem dX9_control_180 : decode cX9_control 180 = .ok (.iconst 2, 1) := by decide +kernel
theorem dX9_control_181 : decode cX9_control 181 = .ok (.iadd, 1) := by decide +kernel
theorem dX9_control_182 : decode cX9_control 182 = .ok (.iconst 3, 1) := by decide +kernel
theorem dX9_control_183 : decode cX9_control 183 = .ok (.iastore, 1) := by decide +kernel
theorem dX9_control_184 : decode cX9_control 184 = .ok (.return_, 1) := by decide +kernel
theorem dX9_heat_0 : decode cX9_heat 0 = .ok (.iconst 0, 1) := by decide +kernel
theorem dX9_heat_1 : decode cX9_heat 1 = .ok (.istore_n 3, 1) := by decide +kernel
theorem dX9_heat_2 : decode cX9_heat 2 = .ok (.iload_n 3, 1) := by decide +kernel
theorem dX9_heat_3 : decode cX9_heat 3 = .ok (.iload_n 2, 1) := by decide +kernel
theorem dX9_heat_4 : decode cX9_heat 4 = .ok (.if_icmp .ge 120, 3) := by decide +kernel
theorem dX9_heat_7 : decode cX9_heat 7 = .ok (.iconst 0, 1) := by decide +kernel
theorem dX9_heat_8 : decode cX9_heat 8 = .ok (.istore 4, 2) := by decide +kernel
theorem dX9_heat_10 : decode cX9_heat 10 = .ok (.iconst 1, 1) := by decide +kernel
theorem dX9_heat_11 : decode cX9_heat 11 = .ok (.istore 5, 2) := by decide +kernel
theorem dX9_heat_13 : decode cX9_heat 13 = .ok (.iload 5, 2) := by decide +kernel
theorem dX9_heat_15 : decode cX9_heat 15 = .ok (.aload_n 0, 1) := by decide +kernel
theorem dX9_heat_16 : decode cX9_heat 16 = .ok (.getfield 17, 3) := by decide +kernel
theorem dX9_heat_19 : decode cX9_heat 19 = .ok (.if_icmp .ge 35, 3) := by decide +kernel
theorem dX9_heat_22 : decode cX9_heat 22 = .ok (.aload_n 1, 1) := by decide +kernel
theorem dX9_heat_23 : decode cX9_heat 23 = .ok (.bipush 22, 2) := by decide +kernel
theorem dX9_heat_25 : decode cX9_heat 25 = .ok (.iload 5, 2) := by decide +kernel
theorem dX9_heat_27 : decode cX9_heat 27 = .ok (.iadd, 1) := by decide +kernel
theorem dX9_heat_28 : decode cX9_heat 28 = .ok (.iaload, 1) := by decide +kernel
theorem dX9_heat_29 : decode cX9_heat 29 = .ok (.aload_n 1, 1) := by decide +kernel
theorem dX9_heat_30 : decode cX9_heat 30 = .ok (.bipush 22, 2) := by decide +kernel
theorem dX9_heat_32 : decode cX9_heat 32 = .ok (.iload 4, 2) := by decide +kernel
theorem dX9_heat_34 : decode cX9_heat 34 = .ok (.iadd, 1) := by decide +kernel
theorem dX9_heat_35 : decode cX9_heat 35 = .ok (.iaload, 1) := by decide +kernel
theorem dX9_heat_36 : decode cX9_heat 36 = .ok (.if_icmp .ge 8, 3) := by decide +kernel
theorem dX9_heat_39 : decode cX9_heat 39 = .ok (.iload 5, 2) := by decide +kernel
theorem dX9_heat_41 : decode cX9_heat 41 = .ok (.goto 5, 3) := by decide +kernel
theorem dX9_heat_44 : decode cX9_heat 44 = .ok (.iload 4, 2) := by decide +kernel
theorem dX9_heat_46 : decode cX9_heat 46 = .ok (.istore 4, 2) := by decide +kernel
theorem dX9_heat_48 : decode cX9_heat 48 = .ok (.iinc 5 1, 3) := by decide +kernel
theorem dX9_heat_51 : decode cX9_heat 51 = .ok (.goto (-38), 3) := by decide +kernel
theorem dX9_heat_54 : decode cX9_heat 54 = .ok (.aload_n 1, 1) := by decide +kernel
theorem dX9_heat_55 : decode cX9_heat 55 = .ok (.bipush 22, 2) := by decide +kernel
theorem dX9_heat_57 : decode cX9_heat 57 = .ok (.iload 4, 2) := by decide +kernel
theorem dX9_heat_59 : decode cX9_heat 59 = .ok (.iadd, 1) := by decide +kernel
theorem dX9_heat_60 : decode cX9_heat 60 = .ok (.iaload, 1) := by decide +kernel
theorem dX9_heat_61 : decode cX9_heat 61 = .ok (.bipush 99, 2) := by decide +kernel
theorem dX9_heat_63 : decode cX9_heat 63 = .ok (.if_icmp .ne 7, 3) := by decide +kernel
theorem dX9_heat_66 : decode cX9_heat 66 = .ok (.iconst 1, 1) := by decide +kernel
theorem dX9_heat_67 : decode cX9_heat 67 = .ok (.goto 4, 3) := by decide +kernel
theorem dX9_heat_70 : decode cX9_heat 70 = .ok (.iconst 0, 1) := by decide +kernel
theorem dX9_heat_71 : decode cX9_heat 71 = .ok (.istore 5, 2) := by decide +kernel
theorem dX9_heat_73 : decode cX9_heat 73 = .ok (.aload_n 1, 1) := by decide +kernel
theorem dX9_heat_74 : decode cX9_heat 74 = .ok (.bipush 22, 2) := by decide +kernel
theorem dX9_heat_76 : decode cX9_heat 76 = .ok (.iload 4, 2) := by decide +kernel
theorem dX9_heat_78 : decode cX9_heat 78 = .ok (.iadd, 1) := by decide +kernel
theorem dX9_heat_79 : decode cX9_heat 79 = .ok (.dup2, 1) := by decide +kernel
theorem dX9_heat_80 : decode cX9_heat 80 = .ok (.iaload, 1) := by decide +kernel
theorem dX9_heat_81 : decode cX9_heat 81 = .ok (.iload 5, 2) := by decide +kernel
theorem dX9_heat_83 : decode cX9_heat 83 = .ok (.ifCond .eq 7, 3) := by decide +kernel
theorem dX9_heat_86 : decode cX9_heat 86 = .ok (.iconst 0, 1) := by decide +kernel
theorem dX9_heat_87 : decode cX9_heat 87 = .ok (.goto 4, 3) := by decide +kernel
theorem dX9_heat_90 : decode cX9_heat 90 = .ok (.iconst 1, 1) := by decide +kernel
theorem dX9_heat_91 : decode cX9_heat 91 = .ok (.iadd, 1) := by decide +kernel
theorem dX9_heat_92 : decode cX9_heat 92 = .ok (.iastore, 1) := by decide +kernel
theorem dX9_heat_93 : decode cX9_heat 93 = .ok (.aload_n 1, 1) := by decide +kernel
theorem dX9_heat_94 : decode cX9_heat 94 = .ok (.bipush 16, 2) := by decide +kernel
theorem dX9_heat_96 : decode cX9_heat 96 = .ok (.dup2, 1) := by decide +kernel
theorem dX9_heat_97 : decode cX9_heat 97 = .ok (.iaload, 1) := by decide +kernel
theorem dX9_heat_98 : decode cX9_heat 98 = .ok (.iload 5, 2) := by decide +kernel
theorem dX9_heat_100 : decode cX9_heat 100 = .ok (.ifCond .eq 7, 3) := by decide +kernel
theorem dX9_heat_103 : decode cX9_heat 103 = .ok (.iconst 1, 1) := by decide +kernel
theorem dX9_heat_104 : decode cX9_heat 104 = .ok (.goto 4, 3) := by decide +kernel
theorem dX9_heat_107 : decode cX9_heat 107 = .ok (.iconst 0, 1) := by decide +kernel
theorem dX9_heat_108 : decode cX9_heat 108 = .ok (.iadd, 1) := by decide +kernel
theorem dX9_heat_109 : decode cX9_heat 109 = .ok (.iastore, 1) := by decide +kernel
theorem dX9_heat_110 : decode cX9_heat 110 = .ok (.aload_n 1, 1) := by decide +kernel
theorem dX9_heat_111 : decode cX9_heat 111 = .ok (.bipush 13, 2) := by decide +kernel
theorem dX9_heat_113 : decode cX9_heat 113 = .ok (.dup2, 1) := by decide +kernel
theorem dX9_heat_114 : decode cX9_heat 114 = .ok (.iaload, 1) := by decide +kernel
theorem dX9_heat_115 : decode cX9_heat 115 = .ok (.iconst 1, 1) := by decide +kernel
theorem dX9_heat_116 : decode cX9_heat 116 = .ok (.iadd, 1) := by decide +kernel
theorem dX9_heat_117 : decode cX9_heat 117 = .ok (.iastore, 1) := by decide +kernel
theorem dX9_heat_118 : decode cX9_heat 118 = .ok (.iinc 3 1, 3) := by decide +kernel
theorem dX9_heat_121 : decode cX9_heat 121 = .ok (.goto (-119), 3) := by decide +kernel
theorem dX9_heat_124 : decode cX9_heat 124 = .ok (.return_, 1) := by decide +kernel
theorem dX9_work_0 : decode cX9_work 0 = .ok (.iload_n 2, 1) := by decide +kernel
theorem dX9_work_1 : decode cX9_work 1 = .ok (.invokestatic 68, 3) := by decide +kernel
theorem dX9_work_4 : decode cX9_work 4 = .ok (.istore_n 3, 1) := by decide +kernel
theorem dX9_work_5 : decode cX9_work 5 = .ok (.aload_n 1, 1) := by decide +kernel
theorem dX9_work_6 : decode cX9_work 6 = .ok (.iload_n 3, 1) := by decide +kernel
theorem dX9_work_7 : decode cX9_work 7 = .ok (.iconst 2, 1) := by decide +kernel
theorem dX9_work_8 : decode cX9_work 8 = .ok (.iadd, 1) := by decide +kernel
theorem dX9_work_9 : decode cX9_work 9 = .ok (.iaload, 1) := by decide +kernel
theorem dX9_work_10 : decode cX9_work 10 = .ok (.tableswitch 101 1 3 #[26, 56, 88], 26) := by decide +kernel
theorem dX9_work_36 : decode cX9_work 36 = .ok (.aload_n 1, 1) := by decide +kernel
theorem dX9_work_37 : decode cX9_work 37 = .ok (.iload_n 3, 1) := by decide +kernel
theorem dX9_work_38 : decode cX9_work 38 = .ok (.iconst 3, 1) := by decide +kernel
theorem dX9_work_39 : decode cX9_work 39 = .ok (.iadd, 1) := by decide +kernel
theorem dX9_work_40 : decode cX9_work 40 = .ok (.dup2, 1) := by decide +kernel
theorem dX9_work_41 : decode cX9_work 41 = .ok (.iaload, 1) := by decide +kernel
theorem dX9_work_42 : decode cX9_work 42 = .ok (.iconst 1, 1) := by decide +kernel
theorem dX9_work_43 : decode cX9_work 43 = .ok (.isub, 1) := by decide +kernel
theorem dX9_work_44 : decode cX9_work 44 = .ok (.iastore, 1) := by decide +kernel
theorem dX9_work_45 : decode cX9_work 45 = .ok (.aload_n 1, 1) := by decide +kernel
theorem dX9_work_46 : decode cX9_work 46 = .ok (.iload_n 3, 1) := by decide +kernel
theorem dX9_work_47 : decode cX9_work 47 = .ok (.iconst 2, 1) := by decide +kernel
theorem dX9_work_48 : decode cX9_work 48 = .ok (.iadd, 1) := by decide +kernel
theorem dX9_work_49 : decode cX9_work 49 = .ok (.aload_n 1, 1) := by decide +kernel
theorem dX9_work_50 : decode cX9_work 50 = .ok (.iload_n 3, 1) := by decide +kernel
theorem dX9_work_51 : decode cX9_work 51 = .ok (.iconst 3, 1) := by decide +kernel
theorem dX9_work_52 : decode cX9_work 52 = .ok (.iadd, 1) := by decide +kernel
theorem dX9_work_53 : decode cX9_work 53 = .ok (.iaload, 1) := by decide +kernel
theorem dX9_work_54 : decode cX9_work 54 = .ok (.ifCond .ne 7, 3) := by decide +kernel
end
section
theorem dX9_work_57 : decode cX9_work 57 = .ok (.iconst 2, 1) := by decide +kernel
theorem dX9_work_58 : decode cX9_work 58 = .ok (.goto 4, 3) := by decide +kernel
theorem dX9_work_61 : decode cX9_work 61 = .ok (.iconst 1, 1) := by decide +kernel
theorem dX9_work_62 : decode cX9_work 62 = .ok (.iastore, 1) := by decide +kernel
theorem dX9_work_63 : decode cX9_work 63 = .ok (.goto 48, 3) := by decide +kernel
theorem dX9_work_66 : decode cX9_work 66 = .ok (.aload_n 1, 1) := by decide +kernel
theorem dX9_work_67 : decode cX9_work 67 = .ok (.iload_n 3, 1) := by decide +kernel
theorem dX9_work_68 : decode cX9_work 68 = .ok (.iconst 4, 1) := by decide +kernel
theorem dX9_work_69 : decode cX9_work 69 = .ok (.iadd, 1) := by decide +kernel
theorem dX9_work_70 : decode cX9_work 70 = .ok (.dup2, 1) := by decide +kernel
theorem dX9_work_71 : decode cX9_work 71 = .ok (.iaload, 1) := by decide +kernel
theorem dX9_work_72 : decode cX9_work 72 = .ok (.iconst 1, 1) := by decide +kernel
theorem dX9_work_73 : decode cX9_work 73 = .ok (.iadd, 1) := by decide +kernel
theorem dX9_work_74 : decode cX9_work 74 = .ok (.iastore, 1) := by decide +kernel
theorem dX9_work_75 : decode cX9_work 75 = .ok (.aload_n 1, 1) := by decide +kernel
theorem dX9_work_76 : decode cX9_work 76 = .ok (.iload_n 3, 1) := by decide +kernel
theorem dX9_work_77 : decode cX9_work 77 = .ok (.bipush 6, 2) := by decide +kernel
theorem dX9_work_79 : decode cX9_work 79 = .ok (.iadd, 1) := by decide +kernel
theorem dX9_work_80 : decode cX9_work 80 = .ok (.dup2, 1) := by decide +kernel
theorem dX9_work_81 : decode cX9_work 81 = .ok (.iaload, 1) := by decide +kernel
theorem dX9_work_82 : decode cX9_work 82 = .ok (.aload_n 1, 1) := by decide +kernel
theorem dX9_work_83 : decode cX9_work 83 = .ok (.iload_n 3, 1) := by decide +kernel
theorem dX9_work_84 : decode cX9_work 84 = .ok (.iaload, 1) := by decide +kernel
theorem dX9_work_85 : decode cX9_work 85 = .ok (.iadd, 1) := by decide +kernel
theorem dX9_work_86 : decode cX9_work 86 = .ok (.iastore, 1) := by decide +kernel
theorem dX9_work_87 : decode cX9_work 87 = .ok (.aload_n 0, 1) := by decide +kernel
theorem dX9_work_88 : decode cX9_work 88 = .ok (.aload_n 1, 1) := by decide +kernel
theorem dX9_work_89 : decode cX9_work 89 = .ok (.aload_n 1, 1) := by decide +kernel
theorem dX9_work_90 : decode cX9_work 90 = .ok (.iload_n 3, 1) := by decide +kernel
theorem dX9_work_91 : decode cX9_work 91 = .ok (.iaload, 1) := by decide +kernel
theorem dX9_work_92 : decode cX9_work 92 = .ok (.invokevirtual 101, 3) := by decide +kernel
theorem dX9_work_95 : decode cX9_work 95 = .ok (.goto 16, 3) := by decide +kernel
theorem dX9_work_98 : decode cX9_work 98 = .ok (.aload_n 1, 1) := by decide +kernel
theorem dX9_work_99 : decode cX9_work 99 = .ok (.iload_n 3, 1) := by decide +kernel
theorem dX9_work_100 : decode cX9_work 100 = .ok (.bipush 6, 2) := by decide +kernel
theorem dX9_work_102 : decode cX9_work 102 = .ok (.iadd, 1) := by decide +kernel
theorem dX9_work_103 : decode cX9_work 103 = .ok (.dup2, 1) := by decide +kernel
theorem dX9_work_104 : decode cX9_work 104 = .ok (.iaload, 1) := by decide +kernel
theorem dX9_work_105 : decode cX9_work 105 = .ok (.iconst 1, 1) := by decide +kernel
theorem dX9_work_106 : decode cX9_work 106 = .ok (.iadd, 1) := by decide +kernel
theorem dX9_work_107 : decode cX9_work 107 = .ok (.iastore, 1) := by decide +kernel
theorem dX9_work_108 : decode cX9_work 108 = .ok (.goto 3, 3) := by decide +kernel
theorem dX9_work_111 : decode cX9_work 111 = .ok (.return_, 1) := by decide +kernel
theorem dX9_settle_0 : decode cX9_settle 0 = .ok (.iconst 0, 1) := by decide +kernel
theorem dX9_settle_1 : decode cX9_settle 1 = .ok (.istore_n 2, 1) := by decide +kernel
theorem dX9_settle_2 : decode cX9_settle 2 = .ok (.iload_n 2, 1) := by decide +kernel
theorem dX9_settle_3 : decode cX9_settle 3 = .ok (.aload_n 0, 1) := by decide +kernel
theorem dX9_settle_4 : decode cX9_settle 4 = .ok (.getfield 17, 3) := by decide +kernel
theorem dX9_settle_7 : decode cX9_settle 7 = .ok (.if_icmp .ge 55, 3) := by decide +kernel
theorem dX9_settle_10 : decode cX9_settle 10 = .ok (.aload_n 1, 1) := by decide +kernel
theorem dX9_settle_11 : decode cX9_settle 11 = .ok (.bipush 22, 2) := by decide +kernel
theorem dX9_settle_13 : decode cX9_settle 13 = .ok (.iload_n 2, 1) := by decide +kernel
theorem dX9_settle_14 : decode cX9_settle 14 = .ok (.iadd, 1) := by decide +kernel
theorem dX9_settle_15 : decode cX9_settle 15 = .ok (.iaload, 1) := by decide +kernel
theorem dX9_settle_16 : decode cX9_settle 16 = .ok (.bipush 20, 2) := by decide +kernel
theorem dX9_settle_18 : decode cX9_settle 18 = .ok (.if_icmp .le 18, 3) := by decide +kernel
theorem dX9_settle_21 : decode cX9_settle 21 = .ok (.aload_n 1, 1) := by decide +kernel
theorem dX9_settle_22 : decode cX9_settle 22 = .ok (.bipush 22, 2) := by decide +kernel
theorem dX9_settle_24 : decode cX9_settle 24 = .ok (.iload_n 2, 1) := by decide +kernel
theorem dX9_settle_25 : decode cX9_settle 25 = .ok (.iadd, 1) := by decide +kernel
theorem dX9_settle_26 : decode cX9_settle 26 = .ok (.iaload, 1) := by decide +kernel
theorem dX9_settle_27 : decode cX9_settle 27 = .ok (.bipush 20, 2) := by decide +kernel
theorem dX9_settle_29 : decode cX9_settle 29 = .ok (.isub, 1) := by decide +kernel
theorem dX9_settle_30 : decode cX9_settle 30 = .ok (.bipush 20, 2) := by decide +kernel
theorem dX9_settle_32 : decode cX9_settle 32 = .ok (.idiv, 1) := by decide +kernel
theorem dX9_settle_33 : decode cX9_settle 33 = .ok (.goto 4, 3) := by decide +kernel
theorem dX9_settle_36 : decode cX9_settle 36 = .ok (.iconst 0, 1) := by decide +kernel
theorem dX9_settle_37 : decode cX9_settle 37 = .ok (.istore_n 3, 1) := by decide +kernel
theorem dX9_settle_38 : decode cX9_settle 38 = .ok (.aload_n 1, 1) := by decide +kernel
theorem dX9_settle_39 : decode cX9_settle 39 = .ok (.bipush 22, 2) := by decide +kernel
theorem dX9_settle_41 : decode cX9_settle 41 = .ok (.iload_n 2, 1) := by decide +kernel
theorem dX9_settle_42 : decode cX9_settle 42 = .ok (.iadd, 1) := by decide +kernel
theorem dX9_settle_43 : decode cX9_settle 43 = .ok (.dup2, 1) := by decide +kernel
theorem dX9_settle_44 : decode cX9_settle 44 = .ok (.iaload, 1) := by decide +kernel
theorem dX9_settle_45 : decode cX9_settle 45 = .ok (.iload_n 3, 1) := by decide +kernel
theorem dX9_settle_46 : decode cX9_settle 46 = .ok (.isub, 1) := by decide +kernel
theorem dX9_settle_47 : decode cX9_settle 47 = .ok (.iastore, 1) := by decide +kernel
theorem dX9_settle_48 : decode cX9_settle 48 = .ok (.aload_n 1, 1) := by decide +kernel
theorem dX9_settle_49 : decode cX9_settle 49 = .ok (.bipush 16, 2) := by decide +kernel
theorem dX9_settle_51 : decode cX9_settle 51 = .ok (.dup2, 1) := by decide +kernel
theorem dX9_settle_52 : decode cX9_settle 52 = .ok (.iaload, 1) := by decide +kernel
theorem dX9_settle_53 : decode cX9_settle 53 = .ok (.iload_n 3, 1) := by decide +kernel
theorem dX9_settle_54 : decode cX9_settle 54 = .ok (.iadd, 1) := by decide +kernel
theorem dX9_settle_55 : decode cX9_settle 55 = .ok (.iastore, 1) := by decide +kernel
theorem dX9_settle_56 : decode cX9_settle 56 = .ok (.iinc 2 1, 3) := by decide +kernel
theorem dX9_settle_59 : decode cX9_settle 59 = .ok (.goto (-57), 3) := by decide +kernel
theorem dX9_settle_62 : decode cX9_settle 62 = .ok (.iconst 1, 1) := by decide +kernel
theorem dX9_settle_63 : decode cX9_settle 63 = .ok (.istore_n 2, 1) := by decide +kernel
theorem dX9_settle_64 : decode cX9_settle 64 = .ok (.iload_n 2, 1) := by decide +kernel
theorem dX9_settle_65 : decode cX9_settle 65 = .ok (.aload_n 0, 1) := by decide +kernel
theorem dX9_settle_66 : decode cX9_settle 66 = .ok (.getfield 17, 3) := by decide +kernel
theorem dX9_settle_69 : decode cX9_settle 69 = .ok (.if_icmp .ge 67, 3) := by decide +kernel
theorem dX9_settle_72 : decode cX9_settle 72 = .ok (.aload_n 1, 1) := by decide +kernel
theorem dX9_settle_73 : decode cX9_settle 73 = .ok (.bipush 22, 2) := by decide +kernel
theorem dX9_settle_75 : decode cX9_settle 75 = .ok (.iload_n 2, 1) := by decide +kernel
theorem dX9_settle_76 : decode cX9_settle 76 = .ok (.iadd, 1) := by decide +kernel
theorem dX9_settle_77 : decode cX9_settle 77 = .ok (.iaload, 1) := by decide +kernel
theorem dX9_settle_78 : decode cX9_settle 78 = .ok (.istore_n 3, 1) := by decide +kernel
theorem dX9_settle_79 : decode cX9_settle 79 = .ok (.iload_n 2, 1) := by decide +kernel
theorem dX9_settle_80 : decode cX9_settle 80 = .ok (.istore 4, 2) := by decide +kernel
theorem dX9_settle_82 : decode cX9_settle 82 = .ok (.iload 4, 2) := by decide +kernel
theorem dX9_settle_84 : decode cX9_settle 84 = .ok (.ifCond .le 38, 3) := by decide +kernel
theorem dX9_settle_87 : decode cX9_settle 87 = .ok (.aload_n 1, 1) := by decide +kernel
theorem dX9_settle_88 : decode cX9_settle 88 = .ok (.bipush 22, 2) := by decide +kernel
theorem dX9_settle_90 : decode cX9_settle 90 = .ok (.iload 4, 2) := by decide +kernel
theorem dX9_settle_92 : decode cX9_settle 92 = .ok (.iadd, 1) := by decide +kernel
theorem dX9_settle_93 : decode cX9_settle 93 = .ok (.iconst 1, 1) := by decide +kernel
theorem dX9_settle_94 : decode cX9_settle 94 = .ok (.isub, 1) := by decide +kernel
theorem dX9_settle_95 : decode cX9_settle 95 = .ok (.iaload, 1) := by decide +kernel
theorem dX9_settle_96 : decode cX9_settle 96 = .ok (.iload_n 3, 1) := by decide +kernel
theorem dX9_settle_97 : decode cX9_settle 97 = .ok (.if_icmp .le 25, 3) := by decide +kernel
theorem dX9_settle_100 : decode cX9_settle 100 = .ok (.aload_n 1, 1) := by decide +kernel
theorem dX9_settle_101 : decode cX9_settle 101 = .ok (.bipush 22, 2) := by decide +kernel
theorem dX9_settle_103 : decode cX9_settle 103 = .ok (.iload 4, 2) := by decide +kernel
theorem dX9_settle_105 : decode cX9_settle 105 = .ok (.iadd, 1) := by decide +kernel
theorem dX9_settle_106 : decode cX9_settle 106 = .ok (.aload_n 1, 1) := by decide +kernel
theorem dX9_settle_107 : decode cX9_settle 107 = .ok (.bipush 22, 2) := by decide +kernel
theorem dX9_settle_109 : decode cX9_settle 109 = .ok (.iload 4, 2) := by decide +kernel
theorem dX9_settle_111 : decode cX9_settle 111 = .ok (.iadd, 1) := by decide +kernel
theorem dX9_settle_112 : decode cX9_settle 112 = .ok (.iconst 1, 1) := by decide +kernel
theorem dX9_settle_113 : decode cX9_settle 113 = .ok (.isub, 1) := by decide +kernel
theorem dX9_settle_114 : decode cX9_settle 114 = .ok (.iaload, 1) := by decide +kernel
theorem dX9_settle_115 : decode cX9_settle 115 = .ok (.iastore, 1) := by decide +kernel
theorem dX9_settle_116 : decode cX9_settle 116 = .ok (.iinc 4 (-1), 3) := by decide +kernel
theorem dX9_settle_119 : decode cX9_settle 119 = .ok (.goto (-37), 3) := by decide +kernel
theorem dX9_settle_122 : decode cX9_settle 122 = .ok (.aload_n 1, 1) := by decide +kernel
theorem dX9_settle_123 : decode cX9_settle 123 = .ok (.bipush 22, 2) := by decide +kernel
theorem dX9_settle_125 : decode cX9_settle 125 = .ok (.iload 4, 2) := by decide +kernel
theorem dX9_settle_127 : decode cX9_settle 127 = .ok (.iadd, 1) := by decide +kernel
theorem dX9_settle_128 : decode cX9_settle 128 = .ok (.iload_n 3, 1) := by decide +kernel
theorem dX9_settle_129 : decode cX9_settle 129 = .ok (.iastore, 1) := by decide +kernel
theorem dX9_settle_130 : decode cX9_settle 130 = .ok (.iinc 2 1, 3) := by decide +kernel
theorem dX9_settle_133 : decode cX9_settle 133 = .ok (.goto (-69), 3) := by decide +kernel
theorem dX9_settle_136 : decode cX9_settle 136 = .ok (.return_, 1) := by decide +kernel
theorem dX9_watch_0 : decode cX9_watch 0 = .ok (.aload_n 1, 1) := by decide +kernel
theorem dX9_watch_1 : decode cX9_watch 1 = .ok (.bipush 8, 2) := by decide +kernel
theorem dX9_watch_3 : decode cX9_watch 3 = .ok (.iaload, 1) := by decide +kernel
theorem dX9_watch_4 : decode cX9_watch 4 = .ok (.ifCond .ne 4, 3) := by decide +kernel
theorem dX9_watch_7 : decode cX9_watch 7 = .ok (.return_, 1) := by decide +kernel
theorem dX9_watch_8 : decode cX9_watch 8 = .ok (.aload_n 1, 1) := by decide +kernel
theorem dX9_watch_9 : decode cX9_watch 9 = .ok (.bipush 10, 2) := by decide +kernel
theorem dX9_watch_11 : decode cX9_watch 11 = .ok (.dup2, 1) := by decide +kernel
theorem dX9_watch_12 : decode cX9_watch 12 = .ok (.iaload, 1) := by decide +kernel
theorem dX9_watch_13 : decode cX9_watch 13 = .ok (.iconst 1, 1) := by decide +kernel
theorem dX9_watch_14 : decode cX9_watch 14 = .ok (.iadd, 1) := by decide +kernel
theorem dX9_watch_15 : decode cX9_watch 15 = .ok (.iastore, 1) := by decide +kernel
theorem dX9_watch_16 : decode cX9_watch 16 = .ok (.aload_n 1, 1) := by decide +kernel
theorem dX9_watch_17 : decode cX9_watch 17 = .ok (.bipush 9, 2) := by decide +kernel
theorem dX9_watch_19 : decode cX9_watch 19 = .ok (.aload_n 1, 1) := by decide +kernel
theorem dX9_watch_20 : decode cX9_watch 20 = .ok (.bipush 22, 2) := by decide +kernel
theorem dX9_watch_22 : decode cX9_watch 22 = .ok (.iaload, 1) := by decide +kernel
theorem dX9_watch_23 : decode cX9_watch 23 = .ok (.aload_n 1, 1) := by decide +kernel
theorem dX9_watch_24 : decode cX9_watch 24 = .ok (.iconst 3, 1) := by decide +kernel
theorem dX9_watch_25 : decode cX9_watch 25 = .ok (.iaload, 1) := by decide +kernel
theorem dX9_watch_26 : decode cX9_watch 26 = .ok (.if_icmp .lt 12, 3) := by decide +kernel
theorem dX9_watch_29 : decode cX9_watch 29 = .ok (.aload_n 1, 1) := by decide +kernel
theorem dX9_watch_30 : decode cX9_watch 30 = .ok (.bipush 9, 2) := by decide +kernel
theorem dX9_watch_32 : decode cX9_watch 32 = .ok (.iaload, 1) := by decide +kernel
theorem dX9_watch_33 : decode cX9_watch 33 = .ok (.iconst 1, 1) := by decide +kernel
theorem dX9_watch_34 : decode cX9_watch 34 = .ok (.iadd, 1) := by decide +kernel
theorem dX9_watch_35 : decode cX9_watch 35 = .ok (.goto 4, 3) := by decide +kernel
theorem dX9_watch_38 : decode cX9_watch 38 = .ok (.iconst 0, 1) := by decide +kernel
theorem dX9_watch_39 : decode cX9_watch 39 = .ok (.iastore, 1) := by decide +kernel
theorem dX9_watch_40 : decode cX9_watch 40 = .ok (.aload_n 1, 1) := by decide +kernel
theorem dX9_watch_41 : decode cX9_watch 41 = .ok (.bipush 9, 2) := by decide +kernel
theorem dX9_watch_43 : decode cX9_watch 43 = .ok (.iaload, 1) := by decide +kernel
theorem dX9_watch_44 : decode cX9_watch 44 = .ok (.aload_n 1, 1) := by decide +kernel
theorem dX9_watch_45 : decode cX9_watch 45 = .ok (.iconst 4, 1) := by decide +kernel
theorem dX9_watch_46 : decode cX9_watch 46 = .ok (.iaload, 1) := by decide +kernel
theorem dX9_watch_47 : decode cX9_watch 47 = .ok (.if_icmp .lt 7, 3) := by decide +kernel
theorem dX9_watch_50 : decode cX9_watch 50 = .ok (.iconst 1, 1) := by decide +kernel
theorem dX9_watch_51 : decode cX9_watch 51 = .ok (.goto 4, 3) := by decide +kernel
theorem dX9_watch_54 : decode cX9_watch 54 = .ok (.iconst 0, 1) := by decide +kernel
theorem dX9_watch_55 : decode cX9_watch 55 = .ok (.istore_n 2, 1) := by decide +kernel
theorem dX9_watch_56 : decode cX9_watch 56 = .ok (.iload_n 2, 1) := by decide +kernel
theorem dX9_watch_57 : decode cX9_watch 57 = .ok (.ifCond .ne 16, 3) := by decide +kernel
theorem dX9_watch_60 : decode cX9_watch 60 = .ok (.aload_n 1, 1) := by decide +kernel
theorem dX9_watch_61 : decode cX9_watch 61 = .ok (.bipush 10, 2) := by decide +kernel
theorem dX9_watch_63 : decode cX9_watch 63 = .ok (.iaload, 1) := by decide +kernel
theorem dX9_watch_64 : decode cX9_watch 64 = .ok (.bipush 12, 2) := by decide +kernel
theorem dX9_watch_66 : decode cX9_watch 66 = .ok (.if_icmp .ne 7, 3) := by decide +kernel
theorem dX9_watch_69 : decode cX9_watch 69 = .ok (.iconst 1, 1) := by decide +kernel
theorem dX9_watch_70 : decode cX9_watch 70 = .ok (.goto 4, 3) := by decide +kernel
theorem dX9_watch_73 : decode cX9_watch 73 = .ok (.iconst 0, 1) := by decide +kernel
theorem dX9_watch_74 : decode cX9_watch 74 = .ok (.istore_n 3, 1) := by decide +kernel
theorem dX9_watch_75 : decode cX9_watch 75 = .ok (.aload_n 1, 1) := by decide +kernel
theorem dX9_watch_76 : decode cX9_watch 76 = .ok (.bipush 11, 2) := by decide +kernel
theorem dX9_watch_78 : decode cX9_watch 78 = .ok (.dup2, 1) := by decide +kernel
theorem dX9_watch_79 : decode cX9_watch 79 = .ok (.iaload, 1) := by decide +kernel
theorem dX9_watch_80 : decode cX9_watch 80 = .ok (.iload_n 2, 1) := by decide +kernel
theorem dX9_watch_81 : decode cX9_watch 81 = .ok (.ifCond .eq 7, 3) := by decide +kernel
theorem dX9_watch_84 : decode cX9_watch 84 = .ok (.iconst 1, 1) := by decide +kernel
theorem dX9_watch_85 : decode cX9_watch 85 = .ok (.goto 4, 3) := by decide +kernel
theorem dX9_watch_88 : decode cX9_watch 88 = .ok (.iconst 0, 1) := by decide +kernel
theorem dX9_watch_89 : decode cX9_watch 89 = .ok (.iadd, 1) := by decide +kernel
theorem dX9_watch_90 : decode cX9_watch 90 = .ok (.iastore, 1) := by decide +kernel
theorem dX9_watch_91 : decode cX9_watch 91 = .ok (.aload_n 1, 1) := by decide +kernel
theorem dX9_watch_92 : decode cX9_watch 92 = .ok (.bipush 12, 2) := by decide +kernel
theorem dX9_watch_94 : decode cX9_watch 94 = .ok (.dup2, 1) := by decide +kernel
theorem dX9_watch_95 : decode cX9_watch 95 = .ok (.iaload, 1) := by decide +kernel
theorem dX9_watch_96 : decode cX9_watch 96 = .ok (.iload_n 3, 1) := by decide +kernel
theorem dX9_watch_97 : decode cX9_watch 97 = .ok (.ifCond .eq 7, 3) := by decide +kernel
theorem dX9_watch_100 : decode cX9_watch 100 = .ok (.iconst 1, 1) := by decide +kernel
theorem dX9_watch_101 : decode cX9_watch 101 = .ok (.goto 4, 3) := by decide +kernel
theorem dX9_watch_104 : decode cX9_watch 104 = .ok (.iconst 0, 1) := by decide +kernel
theorem dX9_watch_105 : decode cX9_watch 105 = .ok (.iadd, 1) := by decide +kernel
theorem dX9_watch_106 : decode cX9_watch 106 = .ok (.iastore, 1) := by decide +kernel
theorem dX9_watch_107 : decode cX9_watch 107 = .ok (.iload_n 2, 1) := by decide +kernel
theorem dX9_watch_108 : decode cX9_watch 108 = .ok (.ifCond .ne 7, 3) := by decide +kernel
theorem dX9_watch_111 : decode cX9_watch 111 = .ok (.iload_n 3, 1) := by decide +kernel
theorem dX9_watch_112 : decode cX9_watch 112 = .ok (.ifCond .eq 18, 3) := by decide +kernel
theorem dX9_watch_115 : decode cX9_watch 115 = .ok (.aload_n 1, 1) := by decide +kernel
theorem dX9_watch_116 : decode cX9_watch 116 = .ok (.bipush 8, 2) := by decide +kernel
theorem dX9_watch_118 : decode cX9_watch 118 = .ok (.iconst 0, 1) := by decide +kernel
theorem dX9_watch_119 : decode cX9_watch 119 = .ok (.iastore, 1) := by decide +kernel
theorem dX9_watch_120 : decode cX9_watch 120 = .ok (.aload_n 1, 1) := by decide +kernel
theorem dX9_watch_121 : decode cX9_watch 121 = .ok (.bipush 9, 2) := by decide +kernel
theorem dX9_watch_123 : decode cX9_watch 123 = .ok (.iconst 0, 1) := by decide +kernel
theorem dX9_watch_124 : decode cX9_watch 124 = .ok (.iastore, 1) := by decide +kernel
theorem dX9_watch_125 : decode cX9_watch 125 = .ok (.aload_n 1, 1) := by decide +kernel
theorem dX9_watch_126 : decode cX9_watch 126 = .ok (.bipush 10, 2) := by decide +kernel
theorem dX9_watch_128 : decode cX9_watch 128 = .ok (.iconst 0, 1) := by decide +kernel
theorem dX9_watch_129 : decode cX9_watch 129 = .ok (.iastore, 1) := by decide +kernel
theorem dX9_watch_130 : decode cX9_watch 130 = .ok (.return_, 1) := by decide +kernel
theorem dX9_tickOn_0 : decode cX9_tickOn 0 = .ok (.aload_n 0, 1) := by decide +kernel
theorem dX9_tickOn_1 : decode cX9_tickOn 1 = .ok (.aload_n 1, 1) := by decide +kernel
theorem dX9_tickOn_2 : decode cX9_tickOn 2 = .ok (.iload_n 2, 1) := by decide +kernel
theorem dX9_tickOn_3 : decode cX9_tickOn 3 = .ok (.invokevirtual 104, 3) := by decide +kernel
theorem dX9_tickOn_6 : decode cX9_tickOn 6 = .ok (.pop, 1) := by decide +kernel
theorem dX9_tickOn_7 : decode cX9_tickOn 7 = .ok (.aload_n 1, 1) := by decide +kernel
theorem dX9_tickOn_8 : decode cX9_tickOn 8 = .ok (.bipush 6, 2) := by decide +kernel
theorem dX9_tickOn_10 : decode cX9_tickOn 10 = .ok (.iaload, 1) := by decide +kernel
theorem dX9_tickOn_11 : decode cX9_tickOn 11 = .ok (.bipush 24, 2) := by decide +kernel
theorem dX9_tickOn_13 : decode cX9_tickOn 13 = .ok (.irem, 1) := by decide +kernel
theorem dX9_tickOn_14 : decode cX9_tickOn 14 = .ok (.aload_n 1, 1) := by decide +kernel
theorem dX9_tickOn_15 : decode cX9_tickOn 15 = .ok (.iconst 5, 1) := by decide +kernel
theorem dX9_tickOn_16 : decode cX9_tickOn 16 = .ok (.iaload, 1) := by decide +kernel
theorem dX9_tickOn_17 : decode cX9_tickOn 17 = .ok (.if_icmp .ne 8, 3) := by decide +kernel
theorem dX9_tickOn_20 : decode cX9_tickOn 20 = .ok (.aload_n 1, 1) := by decide +kernel
theorem dX9_tickOn_21 : decode cX9_tickOn 21 = .ok (.bipush 8, 2) := by decide +kernel
theorem dX9_tickOn_23 : decode cX9_tickOn 23 = .ok (.iconst 1, 1) := by decide +kernel
theorem dX9_tickOn_24 : decode cX9_tickOn 24 = .ok (.iastore, 1) := by decide +kernel
theorem dX9_tickOn_25 : decode cX9_tickOn 25 = .ok (.aload_n 0, 1) := by decide +kernel
theorem dX9_tickOn_26 : decode cX9_tickOn 26 = .ok (.aload_n 1, 1) := by decide +kernel
theorem dX9_tickOn_27 : decode cX9_tickOn 27 = .ok (.invokevirtual 107, 3) := by decide +kernel
theorem dX9_tickOn_30 : decode cX9_tickOn 30 = .ok (.iconst 0, 1) := by decide +kernel
theorem dX9_tickOn_31 : decode cX9_tickOn 31 = .ok (.istore_n 3, 1) := by decide +kernel
theorem dX9_tickOn_32 : decode cX9_tickOn 32 = .ok (.iload_n 3, 1) := by decide +kernel
theorem dX9_tickOn_33 : decode cX9_tickOn 33 = .ok (.aload_n 0, 1) := by decide +kernel
theorem dX9_tickOn_34 : decode cX9_tickOn 34 = .ok (.getfield 13, 3) := by decide +kernel
theorem dX9_tickOn_37 : decode cX9_tickOn 37 = .ok (.if_icmp .ge 15, 3) := by decide +kernel
theorem dX9_tickOn_40 : decode cX9_tickOn 40 = .ok (.aload_n 0, 1) := by decide +kernel
theorem dX9_tickOn_41 : decode cX9_tickOn 41 = .ok (.aload_n 1, 1) := by decide +kernel
theorem dX9_tickOn_42 : decode cX9_tickOn 42 = .ok (.iload_n 3, 1) := by decide +kernel
theorem dX9_tickOn_43 : decode cX9_tickOn 43 = .ok (.invokevirtual 110, 3) := by decide +kernel
theorem dX9_tickOn_46 : decode cX9_tickOn 46 = .ok (.iinc 3 1, 3) := by decide +kernel
theorem dX9_tickOn_49 : decode cX9_tickOn 49 = .ok (.goto (-17), 3) := by decide +kernel
theorem dX9_tickOn_52 : decode cX9_tickOn 52 = .ok (.aload_n 0, 1) := by decide +kernel
theorem dX9_tickOn_53 : decode cX9_tickOn 53 = .ok (.aload_n 1, 1) := by decide +kernel
theorem dX9_tickOn_54 : decode cX9_tickOn 54 = .ok (.invokevirtual 113, 3) := by decide +kernel
theorem dX9_tickOn_57 : decode cX9_tickOn 57 = .ok (.aload_n 0, 1) := by decide +kernel
theorem dX9_tickOn_58 : decode cX9_tickOn 58 = .ok (.aload_n 1, 1) := by decide +kernel
theorem dX9_tickOn_59 : decode cX9_tickOn 59 = .ok (.invokevirtual 116, 3) := by decide +kernel
theorem dX9_tickOn_62 : decode cX9_tickOn 62 = .ok (.aload_n 1, 1) := by decide +kernel
theorem dX9_tickOn_63 : decode cX9_tickOn 63 = .ok (.bipush 6, 2) := by decide +kernel
theorem dX9_tickOn_65 : decode cX9_tickOn 65 = .ok (.dup2, 1) := by decide +kernel
theorem dX9_tickOn_66 : decode cX9_tickOn 66 = .ok (.iaload, 1) := by decide +kernel
theorem dX9_tickOn_67 : decode cX9_tickOn 67 = .ok (.iconst 1, 1) := by decide +kernel
theorem dX9_tickOn_68 : decode cX9_tickOn 68 = .ok (.iadd, 1) := by decide +kernel
theorem dX9_tickOn_69 : decode cX9_tickOn 69 = .ok (.iastore, 1) := by decide +kernel
theorem dX9_tickOn_70 : decode cX9_tickOn 70 = .ok (.return_, 1) := by decide +kernel
theorem dX9_ticksOn_0 : decode cX9_ticksOn 0 = .ok (.iconst 0, 1) := by decide +kernel
theorem dX9_ticksOn_1 : decode cX9_ticksOn 1 = .ok (.istore 4, 2) := by decide +kernel
theorem dX9_ticksOn_3 : decode cX9_ticksOn 3 = .ok (.iload 4, 2) := by decide +kernel
theorem dX9_ticksOn_5 : decode cX9_ticksOn 5 = .ok (.iload_n 2, 1) := by decide +kernel
theorem dX9_ticksOn_6 : decode cX9_ticksOn 6 = .ok (.if_icmp .ge 15, 3) := by decide +kernel
theorem dX9_ticksOn_9 : decode cX9_ticksOn 9 = .ok (.aload_n 0, 1) := by decide +kernel
theorem dX9_ticksOn_10 : decode cX9_ticksOn 10 = .ok (.aload_n 1, 1) := by decide +kernel
theorem dX9_ticksOn_11 : decode cX9_ticksOn 11 = .ok (.iload_n 3, 1) := by decide +kernel
theorem dX9_ticksOn_12 : decode cX9_ticksOn 12 = .ok (.invokevirtual 119, 3) := by decide +kernel
theorem dX9_ticksOn_15 : decode cX9_ticksOn 15 = .ok (.iinc 4 1, 3) := by decide +kernel
theorem dX9_ticksOn_18 : decode cX9_ticksOn 18 = .ok (.goto (-15), 3) := by decide +kernel
theorem dX9_ticksOn_21 : decode cX9_ticksOn 21 = .ok (.return_, 1) := by decide +kernel
theorem dX9_flueOn_0 : decode cX9_flueOn 0 = .ok (.aload_n 1, 1) := by decide +kernel
theorem dX9_flueOn_1 : decode cX9_flueOn 1 = .ok (.bipush 20, 2) := by decide +kernel
theorem dX9_flueOn_3 : decode cX9_flueOn 3 = .ok (.iload_n 2, 1) := by decide +kernel
theorem dX9_flueOn_4 : decode cX9_flueOn 4 = .ok (.iadd, 1) := by decide +kernel
theorem dX9_flueOn_5 : decode cX9_flueOn 5 = .ok (.iload_n 3, 1) := by decide +kernel
theorem dX9_flueOn_6 : decode cX9_flueOn 6 = .ok (.ifCond .eq 7, 3) := by decide +kernel
theorem dX9_flueOn_9 : decode cX9_flueOn 9 = .ok (.iconst 1, 1) := by decide +kernel
theorem dX9_flueOn_10 : decode cX9_flueOn 10 = .ok (.goto 4, 3) := by decide +kernel
theorem dX9_flueOn_13 : decode cX9_flueOn 13 = .ok (.iconst 0, 1) := by decide +kernel
theorem dX9_flueOn_14 : decode cX9_flueOn 14 = .ok (.iastore, 1) := by decide +kernel
theorem dX9_flueOn_15 : decode cX9_flueOn 15 = .ok (.iconst 0, 1) := by decide +kernel
theorem dX9_flueOn_16 : decode cX9_flueOn 16 = .ok (.istore 4, 2) := by decide +kernel
theorem dX9_flueOn_18 : decode cX9_flueOn 18 = .ok (.iconst 0, 1) := by decide +kernel
theorem dX9_flueOn_19 : decode cX9_flueOn 19 = .ok (.istore 5, 2) := by decide +kernel
theorem dX9_flueOn_21 : decode cX9_flueOn 21 = .ok (.iload 5, 2) := by decide +kernel
theorem dX9_flueOn_23 : decode cX9_flueOn 23 = .ok (.aload_n 0, 1) := by decide +kernel
theorem dX9_flueOn_24 : decode cX9_flueOn 24 = .ok (.getfield 13, 3) := by decide +kernel
theorem dX9_flueOn_27 : decode cX9_flueOn 27 = .ok (.if_icmp .ge 74, 3) := by decide +kernel
theorem dX9_flueOn_30 : decode cX9_flueOn 30 = .ok (.iload_n 3, 1) := by decide +kernel
theorem dX9_flueOn_31 : decode cX9_flueOn 31 = .ok (.ifCond .ne 70, 3) := by decide +kernel
theorem dX9_flueOn_34 : decode cX9_flueOn 34 = .ok (.aload_n 1, 1) := by decide +kernel
theorem dX9_flueOn_35 : decode cX9_flueOn 35 = .ok (.iload 5, 2) := by decide +kernel
theorem dX9_flueOn_37 : decode cX9_flueOn 37 = .ok (.invokestatic 68, 3) := by decide +kernel
theorem dX9_flueOn_40 : decode cX9_flueOn 40 = .ok (.iconst 2, 1) := by decide +kernel
theorem dX9_flueOn_41 : decode cX9_flueOn 41 = .ok (.iadd, 1) := by decide +kernel
theorem dX9_flueOn_42 : decode cX9_flueOn 42 = .ok (.iaload, 1) := by decide +kernel
theorem dX9_flueOn_43 : decode cX9_flueOn 43 = .ok (.istore 6, 2) := by decide +kernel
theorem dX9_flueOn_45 : decode cX9_flueOn 45 = .ok (.aload_n 1, 1) := by decide +kernel
theorem dX9_flueOn_46 : decode cX9_flueOn 46 = .ok (.iload 5, 2) := by decide +kernel
theorem dX9_flueOn_48 : decode cX9_flueOn 48 = .ok (.invokestatic 68, 3) := by decide +kernel
theorem dX9_flueOn_51 : decode cX9_flueOn 51 = .ok (.iconst 1, 1) := by decide +kernel
theorem dX9_flueOn_52 : decode cX9_flueOn 52 = .ok (.iadd, 1) := by decide +kernel
theorem dX9_flueOn_53 : decode cX9_flueOn 53 = .ok (.iaload, 1) := by decide +kernel
theorem dX9_flueOn_54 : decode cX9_flueOn 54 = .ok (.iload_n 2, 1) := by decide +kernel
theorem dX9_flueOn_55 : decode cX9_flueOn 55 = .ok (.if_icmp .ne 40, 3) := by decide +kernel
theorem dX9_flueOn_58 : decode cX9_flueOn 58 = .ok (.iload 6, 2) := by decide +kernel
theorem dX9_flueOn_60 : decode cX9_flueOn 60 = .ok (.invokestatic 72, 3) := by decide +kernel
theorem dX9_flueOn_63 : decode cX9_flueOn 63 = .ok (.ifCond .ne 9, 3) := by decide +kernel
theorem dX9_flueOn_66 : decode cX9_flueOn 66 = .ok (.iload 6, 2) := by decide +kernel
theorem dX9_flueOn_68 : decode cX9_flueOn 68 = .ok (.iconst 3, 1) := by decide +kernel
theorem dX9_flueOn_69 : decode cX9_flueOn 69 = .ok (.if_icmp .ne 26, 3) := by decide +kernel
theorem dX9_flueOn_72 : decode cX9_flueOn 72 = .ok (.aload_n 1, 1) := by decide +kernel
theorem dX9_flueOn_73 : decode cX9_flueOn 73 = .ok (.iload 5, 2) := by decide +kernel
theorem dX9_flueOn_75 : decode cX9_flueOn 75 = .ok (.invokestatic 68, 3) := by decide +kernel
theorem dX9_flueOn_78 : decode cX9_flueOn 78 = .ok (.iconst 2, 1) := by decide +kernel
theorem dX9_flueOn_79 : decode cX9_flueOn 79 = .ok (.iadd, 1) := by decide +kernel
theorem dX9_flueOn_80 : decode cX9_flueOn 80 = .ok (.iconst 0, 1) := by decide +kernel
theorem dX9_flueOn_81 : decode cX9_flueOn 81 = .ok (.iastore, 1) := by decide +kernel
theorem dX9_flueOn_82 : decode cX9_flueOn 82 = .ok (.aload_n 1, 1) := by decide +kernel
theorem dX9_flueOn_83 : decode cX9_flueOn 83 = .ok (.iload 5, 2) := by decide +kernel
theorem dX9_flueOn_85 : decode cX9_flueOn 85 = .ok (.invokestatic 68, 3) := by decide +kernel
theorem dX9_flueOn_88 : decode cX9_flueOn 88 = .ok (.iconst 3, 1) := by decide +kernel
theorem dX9_flueOn_89 : decode cX9_flueOn 89 = .ok (.iadd, 1) := by decide +kernel
theorem dX9_flueOn_90 : decode cX9_flueOn 90 = .ok (.iconst 0, 1) := by decide +kernel
theorem dX9_flueOn_91 : decode cX9_flueOn 91 = .ok (.iastore, 1) := by decide +kernel
theorem dX9_flueOn_92 : decode cX9_flueOn 92 = .ok (.iinc 4 1, 3) := by decide +kernel
theorem dX9_flueOn_95 : decode cX9_flueOn 95 = .ok (.iinc 5 1, 3) := by decide +kernel
theorem dX9_flueOn_98 : decode cX9_flueOn 98 = .ok (.goto (-77), 3) := by decide +kernel
theorem dX9_flueOn_101 : decode cX9_flueOn 101 = .ok (.iload 4, 2) := by decide +kernel
theorem dX9_flueOn_103 : decode cX9_flueOn 103 = .ok (.ireturn, 1) := by decide +kernel
theorem dX9_put_0 : decode cX9_put 0 = .ok (.aload_n 0, 1) := by decide +kernel
theorem dX9_put_1 : decode cX9_put 1 = .ok (.iload_n 1, 1) := by decide +kernel
theorem dX9_put_2 : decode cX9_put 2 = .ok (.invokestatic 68, 3) := by decide +kernel
theorem dX9_put_5 : decode cX9_put 5 = .ok (.iconst 2, 1) := by decide +kernel
theorem dX9_put_6 : decode cX9_put 6 = .ok (.iadd, 1) := by decide +kernel
theorem dX9_put_7 : decode cX9_put 7 = .ok (.iload_n 2, 1) := by decide +kernel
theorem dX9_put_8 : decode cX9_put 8 = .ok (.iastore, 1) := by decide +kernel
theorem dX9_put_9 : decode cX9_put 9 = .ok (.aload_n 0, 1) := by decide +kernel
theorem dX9_put_10 : decode cX9_put 10 = .ok (.iload_n 1, 1) := by decide +kernel
theorem dX9_put_11 : decode cX9_put 11 = .ok (.invokestatic 68, 3) := by decide +kernel
theorem dX9_put_14 : decode cX9_put 14 = .ok (.iconst 3, 1) := by decide +kernel
theorem dX9_put_15 : decode cX9_put 15 = .ok (.iadd, 1) := by decide +kernel
theorem dX9_put_16 : decode cX9_put 16 = .ok (.iconst 0, 1) := by decide +kernel
theorem dX9_put_17 : decode cX9_put 17 = .ok (.iastore, 1) := by decide +kernel
theorem dX9_put_18 : decode cX9_put 18 = .ok (.return_, 1) := by decide +kernel
theorem dX9_append_0 : decode cX9_append 0 = .ok (.aload_n 0, 1) := by decide +kernel
theorem dX9_append_1 : decode cX9_append 1 = .ok (.iload_n 1, 1) := by decide +kernel
theorem dX9_append_2 : decode cX9_append 2 = .ok (.i2l, 1) := by decide +kernel
theorem dX9_append_3 : decode cX9_append 3 = .ok (.lconst 0, 1) := by decide +kernel
theorem dX9_append_4 : decode cX9_append 4 = .ok (.ldc2_w 122, 3) := by decide +kernel
theorem dX9_append_7 : decode cX9_append 7 = .ok (.invokestatic 50, 3) := by decide +kernel
theorem dX9_append_10 : decode cX9_append 10 = .ok (.ifCond .ne 7, 3) := by decide +kernel
theorem dX9_append_13 : decode cX9_append 13 = .ok (.iconst 1, 1) := by decide +kernel
theorem dX9_append_14 : decode cX9_append 14 = .ok (.goto 17, 3) := by decide +kernel
theorem dX9_append_17 : decode cX9_append 17 = .ok (.aload_n 0, 1) := by decide +kernel
theorem dX9_append_18 : decode cX9_append 18 = .ok (.getfield 124, 3) := by decide +kernel
theorem dX9_append_21 : decode cX9_append 21 = .ok (.bipush 60, 2) := by decide +kernel
theorem dX9_append_23 : decode cX9_append 23 = .ok (.if_icmp .ne 7, 3) := by decide +kernel
theorem dX9_append_26 : decode cX9_append 26 = .ok (.iconst 2, 1) := by decide +kernel
theorem dX9_append_27 : decode cX9_append 27 = .ok (.goto 4, 3) := by decide +kernel
theorem dX9_append_30 : decode cX9_append 30 = .ok (.iconst 0, 1) := by decide +kernel
theorem dX9_append_31 : decode cX9_append 31 = .ok (.invokevirtual 127, 3) := by decide +kernel
theorem dX9_append_34 : decode cX9_append 34 = .ok (.ifCond .eq 5, 3) := by decide +kernel
theorem dX9_append_37 : decode cX9_append 37 = .ok (.iconst 0, 1) := by decide +kernel
theorem dX9_append_38 : decode cX9_append 38 = .ok (.ireturn, 1) := by decide +kernel
theorem dX9_append_39 : decode cX9_append 39 = .ok (.aload_n 0, 1) := by decide +kernel
theorem dX9_append_40 : decode cX9_append 40 = .ok (.getfield 7, 3) := by decide +kernel
theorem dX9_append_43 : decode cX9_append 43 = .ok (.aload_n 0, 1) := by decide +kernel
theorem dX9_append_44 : decode cX9_append 44 = .ok (.getfield 124, 3) := by decide +kernel
theorem dX9_append_47 : decode cX9_append 47 = .ok (.iload_n 1, 1) := by decide +kernel
theorem dX9_append_48 : decode cX9_append 48 = .ok (.iastore, 1) := by decide +kernel
theorem dX9_append_49 : decode cX9_append 49 = .ok (.aload_n 0, 1) := by decide +kernel
theorem dX9_append_50 : decode cX9_append 50 = .ok (.dup, 1) := by decide +kernel
theorem dX9_append_51 : decode cX9_append 51 = .ok (.getfield 124, 3) := by decide +kernel
theorem dX9_append_54 : decode cX9_append 54 = .ok (.iconst 1, 1) := by decide +kernel
theorem dX9_append_55 : decode cX9_append 55 = .ok (.iadd, 1) := by decide +kernel
theorem dX9_append_56 : decode cX9_append 56 = .ok (.putfield 124, 3) := by decide +kernel
theorem dX9_append_59 : decode cX9_append 59 = .ok (.aload_n 0, 1) := by decide +kernel
theorem dX9_append_60 : decode cX9_append 60 = .ok (.getfield 124, 3) := by decide +kernel
theorem dX9_append_63 : decode cX9_append 63 = .ok (.ireturn, 1) := by decide +kernel
theorem dX9_clearText_0 : decode cX9_clearText 0 = .ok (.aload_n 0, 1) := by decide +kernel
theorem dX9_clearText_1 : decode cX9_clearText 1 = .ok (.iconst 0, 1) := by decide +kernel
theorem dX9_clearText_2 : decode cX9_clearText 2 = .ok (.putfield 43, 3) := by decide +kernel
theorem dX9_clearText_5 : decode cX9_clearText 5 = .ok (.aload_n 0, 1) := by decide +kernel
theorem dX9_clearText_6 : decode cX9_clearText 6 = .ok (.getfield 124, 3) := by decide +kernel
theorem dX9_clearText_9 : decode cX9_clearText 9 = .ok (.istore_n 1, 1) := by decide +kernel
theorem dX9_clearText_10 : decode cX9_clearText 10 = .ok (.aload_n 0, 1) := by decide +kernel
theorem dX9_clearText_11 : decode cX9_clearText 11 = .ok (.iconst 0, 1) := by decide +kernel
theorem dX9_clearText_12 : decode cX9_clearText 12 = .ok (.putfield 124, 3) := by decide +kernel
theorem dX9_clearText_15 : decode cX9_clearText 15 = .ok (.iload_n 1, 1) := by decide +kernel
theorem dX9_clearText_16 : decode cX9_clearText 16 = .ok (.ireturn, 1) := by decide +kernel
theorem dX9_eat_0 : decode cX9_eat 0 = .ok (.aload_n 0, 1) := by decide +kernel
theorem dX9_eat_1 : decode cX9_eat 1 = .ok (.getfield 130, 3) := by decide +kernel
theorem dX9_eat_4 : decode cX9_eat 4 = .ok (.aload_n 0, 1) := by decide +kernel
theorem dX9_eat_5 : decode cX9_eat 5 = .ok (.getfield 124, 3) := by decide +kernel
theorem dX9_eat_8 : decode cX9_eat 8 = .ok (.if_icmp .ge 20, 3) := by decide +kernel
theorem dX9_eat_11 : decode cX9_eat 11 = .ok (.aload_n 0, 1) := by decide +kernel
theorem dX9_eat_12 : decode cX9_eat 12 = .ok (.getfield 7, 3) := by decide +kernel
theorem dX9_eat_15 : decode cX9_eat 15 = .ok (.aload_n 0, 1) := by decide +kernel
theorem dX9_eat_16 : decode cX9_eat 16 = .ok (.getfield 130, 3) := by decide +kernel
theorem dX9_eat_19 : decode cX9_eat 19 = .ok (.iaload, 1) := by decide +kernel
theorem dX9_eat_20 : decode cX9_eat 20 = .ok (.iload_n 1, 1) := by decide +kernel
theorem dX9_eat_21 : decode cX9_eat 21 = .ok (.if_icmp .ne 7, 3) := by decide +kernel
theorem dX9_eat_24 : decode cX9_eat 24 = .ok (.iconst 1, 1) := by decide +kernel
theorem dX9_eat_25 : decode cX9_eat 25 = .ok (.goto 4, 3) := by decide +kernel
theorem dX9_eat_28 : decode cX9_eat 28 = .ok (.iconst 0, 1) := by decide +kernel
theorem dX9_eat_29 : decode cX9_eat 29 = .ok (.istore_n 2, 1) := by decide +kernel
theorem dX9_eat_30 : decode cX9_eat 30 = .ok (.aload_n 0, 1) := by decide +kernel
theorem dX9_eat_31 : decode cX9_eat 31 = .ok (.dup, 1) := by decide +kernel
theorem dX9_eat_32 : decode cX9_eat 32 = .ok (.getfield 130, 3) := by decide +kernel
theorem dX9_eat_35 : decode cX9_eat 35 = .ok (.iload_n 2, 1) := by decide +kernel
theorem dX9_eat_36 : decode cX9_eat 36 = .ok (.ifCond .eq 7, 3) := by decide +kernel
theorem dX9_eat_39 : decode cX9_eat 39 = .ok (.iconst 1, 1) := by decide +kernel
theorem dX9_eat_40 : decode cX9_eat 40 = .ok (.goto 4, 3) := by decide +kernel
theorem dX9_eat_43 : decode cX9_eat 43 = .ok (.iconst 0, 1) := by decide +kernel
theorem dX9_eat_44 : decode cX9_eat 44 = .ok (.iadd, 1) := by decide +kernel
theorem dX9_eat_45 : decode cX9_eat 45 = .ok (.putfield 130, 3) := by decide +kernel
theorem dX9_eat_48 : decode cX9_eat 48 = .ok (.iload_n 2, 1) := by decide +kernel
theorem dX9_eat_49 : decode cX9_eat 49 = .ok (.ireturn, 1) := by decide +kernel
theorem dX9_digit_0 : decode cX9_digit 0 = .ok (.aload_n 0, 1) := by decide +kernel
theorem dX9_digit_1 : decode cX9_digit 1 = .ok (.getfield 130, 3) := by decide +kernel
theorem dX9_digit_4 : decode cX9_digit 4 = .ok (.aload_n 0, 1) := by decide +kernel
theorem dX9_digit_5 : decode cX9_digit 5 = .ok (.getfield 124, 3) := by decide +kernel
theorem dX9_digit_8 : decode cX9_digit 8 = .ok (.if_icmp .ge 18, 3) := by decide +kernel
theorem dX9_digit_11 : decode cX9_digit 11 = .ok (.aload_n 0, 1) := by decide +kernel
theorem dX9_digit_12 : decode cX9_digit 12 = .ok (.getfield 7, 3) := by decide +kernel
theorem dX9_digit_15 : decode cX9_digit 15 = .ok (.aload_n 0, 1) := by decide +kernel
theorem dX9_digit_16 : decode cX9_digit 16 = .ok (.getfield 130, 3) := by decide +kernel
theorem dX9_digit_19 : decode cX9_digit 19 = .ok (.iaload, 1) := by decide +kernel
theorem dX9_digit_20 : decode cX9_digit 20 = .ok (.bipush 48, 2) := by decide +kernel
theorem dX9_digit_22 : decode cX9_digit 22 = .ok (.isub, 1) := by decide +kernel
theorem dX9_digit_23 : decode cX9_digit 23 = .ok (.goto 5, 3) := by decide +kernel
theorem dX9_digit_26 : decode cX9_digit 26 = .ok (.bipush (-9), 2) := by decide +kernel
theorem dX9_digit_28 : decode cX9_digit 28 = .ok (.istore_n 3, 1) := by decide +kernel
theorem dX9_digit_29 : decode cX9_digit 29 = .ok (.iload_n 3, 1) := by decide +kernel
theorem dX9_digit_30 : decode cX9_digit 30 = .ok (.i2l, 1) := by decide +kernel
theorem dX9_digit_31 : decode cX9_digit 31 = .ok (.iload_n 1, 1) := by decide +kernel
theorem dX9_digit_32 : decode cX9_digit 32 = .ok (.i2l, 1) := by decide +kernel
theorem dX9_digit_33 : decode cX9_digit 33 = .ok (.iload_n 2, 1) := by decide +kernel
theorem dX9_digit_34 : decode cX9_digit 34 = .ok (.i2l, 1) := by decide +kernel
theorem dX9_digit_35 : decode cX9_digit 35 = .ok (.invokestatic 50, 3) := by decide +kernel
theorem dX9_digit_38 : decode cX9_digit 38 = .ok (.istore 4, 2) := by decide +kernel
theorem dX9_digit_40 : decode cX9_digit 40 = .ok (.aload_n 0, 1) := by decide +kernel
theorem dX9_digit_41 : decode cX9_digit 41 = .ok (.dup, 1) := by decide +kernel
theorem dX9_digit_42 : decode cX9_digit 42 = .ok (.getfield 130, 3) := by decide +kernel
theorem dX9_digit_45 : decode cX9_digit 45 = .ok (.iload 4, 2) := by decide +kernel
theorem dX9_digit_47 : decode cX9_digit 47 = .ok (.ifCond .eq 7, 3) := by decide +kernel
theorem dX9_digit_50 : decode cX9_digit 50 = .ok (.iconst 1, 1) := by decide +kernel
theorem dX9_digit_51 : decode cX9_digit 51 = .ok (.goto 4, 3) := by decide +kernel
theorem dX9_digit_54 : decode cX9_digit 54 = .ok (.iconst 0, 1) := by decide +kernel
theorem dX9_digit_55 : decode cX9_digit 55 = .ok (.iadd, 1) := by decide +kernel
theorem dX9_digit_56 : decode cX9_digit 56 = .ok (.putfield 130, 3) := by decide +kernel
theorem dX9_digit_59 : decode cX9_digit 59 = .ok (.iload 4, 2) := by decide +kernel
theorem dX9_digit_61 : decode cX9_digit 61 = .ok (.ifCond .eq 7, 3) := by decide +kernel
theorem dX9_digit_64 : decode cX9_digit 64 = .ok (.iload_n 3, 1) := by decide +kernel
theorem dX9_digit_65 : decode cX9_digit 65 = .ok (.goto 5, 3) := by decide +kernel
theorem dX9_digit_68 : decode cX9_digit 68 = .ok (.bipush (-9), 2) := by decide +kernel
theorem dX9_digit_70 : decode cX9_digit 70 = .ok (.ireturn, 1) := by decide +kernel
theorem dX9_two_0 : decode cX9_two 0 = .ok (.aload_n 0, 1) := by decide +kernel
theorem dX9_two_1 : decode cX9_two 1 = .ok (.iload_n 1, 1) := by decide +kernel
theorem dX9_two_2 : decode cX9_two 2 = .ok (.bipush 10, 2) := by decide +kernel
theorem dX9_two_4 : decode cX9_two 4 = .ok (.idiv, 1) := by decide +kernel
theorem dX9_two_5 : decode cX9_two 5 = .ok (.iload_n 2, 1) := by decide +kernel
theorem dX9_two_6 : decode cX9_two 6 = .ok (.bipush 10, 2) := by decide +kernel
theorem dX9_two_8 : decode cX9_two 8 = .ok (.idiv, 1) := by decide +kernel
theorem dX9_two_9 : decode cX9_two 9 = .ok (.invokevirtual 133, 3) := by decide +kernel
theorem dX9_two_12 : decode cX9_two 12 = .ok (.istore_n 3, 1) := by decide +kernel
theorem dX9_two_13 : decode cX9_two 13 = .ok (.iload_n 3, 1) := by decide +kernel
theorem dX9_two_14 : decode cX9_two 14 = .ok (.bipush (-9), 2) := by decide +kernel
theorem dX9_two_16 : decode cX9_two 16 = .ok (.if_icmp .ne 6, 3) := by decide +kernel
theorem dX9_two_19 : decode cX9_two 19 = .ok (.bipush (-9), 2) := by decide +kernel
theorem dX9_two_21 : decode cX9_two 21 = .ok (.ireturn, 1) := by decide +kernel
theorem dX9_two_22 : decode cX9_two 22 = .ok (.aload_n 0, 1) := by decide +kernel
theorem dX9_two_23 : decode cX9_two 23 = .ok (.iload_n 3, 1) := by decide +kernel
theorem dX9_two_24 : decode cX9_two 24 = .ok (.iload_n 1, 1) := by decide +kernel
theorem dX9_two_25 : decode cX9_two 25 = .ok (.bipush 10, 2) := by decide +kernel
theorem dX9_two_27 : decode cX9_two 27 = .ok (.idiv, 1) := by decide +kernel
theorem dX9_two_28 : decode cX9_two 28 = .ok (.if_icmp .ne 10, 3) := by decide +kernel
theorem dX9_two_31 : decode cX9_two 31 = .ok (.iload_n 1, 1) := by decide +kernel
theorem dX9_two_32 : decode cX9_two 32 = .ok (.bipush 10, 2) := by decide +kernel
theorem dX9_two_34 : decode cX9_two 34 = .ok (.irem, 1) := by decide +kernel
theorem dX9_two_35 : decode cX9_two 35 = .ok (.goto 4, 3) := by decide +kernel
theorem dX9_two_38 : decode cX9_two 38 = .ok (.iconst 0, 1) := by decide +kernel
theorem dX9_two_39 : decode cX9_two 39 = .ok (.iload_n 3, 1) := by decide +kernel
theorem dX9_two_40 : decode cX9_two 40 = .ok (.iload_n 2, 1) := by decide +kernel
theorem dX9_two_41 : decode cX9_two 41 = .ok (.bipush 10, 2) := by decide +kernel
theorem dX9_two_43 : decode cX9_two 43 = .ok (.idiv, 1) := by decide +kernel
theorem dX9_two_44 : decode cX9_two 44 = .ok (.if_icmp .ne 10, 3) := by decide +kernel
theorem dX9_two_47 : decode cX9_two 47 = .ok (.iload_n 2, 1) := by decide +kernel
theorem dX9_two_48 : decode cX9_two 48 = .ok (.bipush 10, 2) := by decide +kernel
theorem dX9_two_50 : decode cX9_two 50 = .ok (.irem, 1) := by decide +kernel
theorem dX9_two_51 : decode cX9_two 51 = .ok (.goto 5, 3) := by decide +kernel
theorem dX9_two_54 : decode cX9_two 54 = .ok (.bipush 9, 2) := by decide +kernel
theorem dX9_two_56 : decode cX9_two 56 = .ok (.invokevirtual 133, 3) := by decide +kernel
theorem dX9_two_59 : decode cX9_two 59 = .ok (.istore 4, 2) := by decide +kernel
theorem dX9_two_61 : decode cX9_two 61 = .ok (.iload 4, 2) := by decide +kernel
theorem dX9_two_63 : decode cX9_two 63 = .ok (.bipush (-9), 2) := by decide +kernel
theorem dX9_two_65 : decode cX9_two 65 = .ok (.if_icmp .ne 8, 3) := by decide +kernel
theorem dX9_two_68 : decode cX9_two 68 = .ok (.bipush (-9), 2) := by decide +kernel
theorem dX9_two_70 : decode cX9_two 70 = .ok (.goto 10, 3) := by decide +kernel
theorem dX9_two_73 : decode cX9_two 73 = .ok (.bipush 10, 2) := by decide +kernel
theorem dX9_two_75 : decode cX9_two 75 = .ok (.iload_n 3, 1) := by decide +kernel
theorem dX9_two_76 : decode cX9_two 76 = .ok (.imul, 1) := by decide +kernel
theorem dX9_two_77 : decode cX9_two 77 = .ok (.iload 4, 2) := by decide +kernel
theorem dX9_two_79 : decode cX9_two 79 = .ok (.iadd, 1) := by decide +kernel
theorem dX9_two_80 : decode cX9_two 80 = .ok (.ireturn, 1) := by decide +kernel
theorem dX9_readBoilers_0 : decode cX9_readBoilers 0 = .ok (.aload_n 0, 1) := by decide +kernel
theorem dX9_readBoilers_1 : decode cX9_readBoilers 1 = .ok (.iconst 0, 1) := by decide +kernel
theorem dX9_readBoilers_2 : decode cX9_readBoilers 2 = .ok (.putfield 137, 3) := by decide +kernel
theorem dX9_readBoilers_5 : decode cX9_readBoilers 5 = .ok (.aload_n 0, 1) := by decide +kernel
theorem dX9_readBoilers_6 : decode cX9_readBoilers 6 = .ok (.getfield 137, 3) := by decide +kernel
theorem dX9_readBoilers_9 : decode cX9_readBoilers 9 = .ok (.iconst 5, 1) := by decide +kernel
theorem dX9_readBoilers_10 : decode cX9_readBoilers 10 = .ok (.if_icmp .ge 91, 3) := by decide +kernel
theorem dX9_readBoilers_13 : decode cX9_readBoilers 13 = .ok (.aload_n 0, 1) := by decide +kernel
theorem dX9_readBoilers_14 : decode cX9_readBoilers 14 = .ok (.bipush 98, 2) := by decide +kernel
theorem dX9_readBoilers_16 : decode cX9_readBoilers 16 = .ok (.invokevirtual 140, 3) := by decide +kernel
theorem dX9_readBoilers_19 : decode cX9_readBoilers 19 = .ok (.ifCond .eq 82, 3) := by decide +kernel
theorem dX9_readBoilers_22 : decode cX9_readBoilers 22 = .ok (.aload_n 0, 1) := by decide +kernel
theorem dX9_readBoilers_23 : decode cX9_readBoilers 23 = .ok (.getfield 137, 3) := by decide +kernel
theorem dX9_readBoilers_26 : decode cX9_readBoilers 26 = .ok (.invokestatic 68, 3) := by decide +kernel
theorem dX9_readBoilers_29 : decode cX9_readBoilers 29 = .ok (.istore_n 1, 1) := by decide +kernel
theorem dX9_readBoilers_30 : decode cX9_readBoilers 30 = .ok (.aload_n 0, 1) := by decide +kernel
theorem dX9_readBoilers_31 : decode cX9_readBoilers 31 = .ok (.getfield 20, 3) := by decide +kernel
theorem dX9_readBoilers_34 : decode cX9_readBoilers 34 = .ok (.iload_n 1, 1) := by decide +kernel
theorem dX9_readBoilers_35 : decode cX9_readBoilers 35 = .ok (.aload_n 0, 1) := by decide +kernel
theorem dX9_readBoilers_36 : decode cX9_readBoilers 36 = .ok (.iconst 1, 1) := by decide +kernel
theorem dX9_readBoilers_37 : decode cX9_readBoilers 37 = .ok (.bipush 30, 2) := by decide +kernel
theorem dX9_readBoilers_39 : decode cX9_readBoilers 39 = .ok (.invokevirtual 143, 3) := by decide +kernel
theorem dX9_readBoilers_42 : decode cX9_readBoilers 42 = .ok (.iastore, 1) := by decide +kernel
theorem dX9_readBoilers_43 : decode cX9_readBoilers 43 = .ok (.aload_n 0, 1) := by decide +kernel
theorem dX9_readBoilers_44 : decode cX9_readBoilers 44 = .ok (.getfield 20, 3) := by decide +kernel
theorem dX9_readBoilers_47 : decode cX9_readBoilers 47 = .ok (.iload_n 1, 1) := by decide +kernel
theorem dX9_readBoilers_48 : decode cX9_readBoilers 48 = .ok (.iconst 1, 1) := by decide +kernel
theorem dX9_readBoilers_49 : decode cX9_readBoilers 49 = .ok (.iadd, 1) := by decide +kernel
theorem dX9_readBoilers_50 : decode cX9_readBoilers 50 = .ok (.aload_n 0, 1) := by decide +kernel
theorem dX9_readBoilers_51 : decode cX9_readBoilers 51 = .ok (.getfield 20, 3) := by decide +kernel
theorem dX9_readBoilers_54 : decode cX9_readBoilers 54 = .ok (.iload_n 1, 1) := by decide +kernel
theorem dX9_readBoilers_55 : decode cX9_readBoilers 55 = .ok (.iaload, 1) := by decide +kernel
theorem dX9_readBoilers_56 : decode cX9_readBoilers 56 = .ok (.bipush (-9), 2) := by decide +kernel
theorem dX9_readBoilers_58 : decode cX9_readBoilers 58 = .ok (.if_icmp .ne 8, 3) := by decide +kernel
theorem dX9_readBoilers_61 : decode cX9_readBoilers 61 = .ok (.bipush (-9), 2) := by decide +kernel
theorem dX9_readBoilers_63 : decode cX9_readBoilers 63 = .ok (.goto 9, 3) := by decide +kernel
theorem dX9_readBoilers_66 : decode cX9_readBoilers 66 = .ok (.aload_n 0, 1) := by decide +kernel
theorem dX9_readBoilers_67 : decode cX9_readBoilers 67 = .ok (.iconst 0, 1) := by decide +kernel
theorem dX9_readBoilers_68 : decode cX9_readBoilers 68 = .ok (.iconst 1, 1) := by decide +kernel
theorem dX9_readBoilers_69 : decode cX9_readBoilers 69 = .ok (.invokevirtual 133, 3) := by decide +kernel
theorem dX9_readBoilers_72 : decode cX9_readBoilers 72 = .ok (.iastore, 1) := by decide +kernel
theorem dX9_readBoilers_73 : decode cX9_readBoilers 73 = .ok (.aload_n 0, 1) := by decide +kernel
theorem dX9_readBoilers_74 : decode cX9_readBoilers 74 = .ok (.getfield 20, 3) := by decide +kernel
theorem dX9_readBoilers_77 : decode cX9_readBoilers 77 = .ok (.iload_n 1, 1) := by decide +kernel
theorem dX9_readBoilers_78 : decode cX9_readBoilers 78 = .ok (.iconst 1, 1) := by decide +kernel
theorem dX9_readBoilers_79 : decode cX9_readBoilers 79 = .ok (.iadd, 1) := by decide +kernel
theorem dX9_readBoilers_80 : decode cX9_readBoilers 80 = .ok (.iaload, 1) := by decide +kernel
theorem dX9_readBoilers_81 : decode cX9_readBoilers 81 = .ok (.bipush (-9), 2) := by decide +kernel
theorem dX9_readBoilers_83 : decode cX9_readBoilers 83 = .ok (.if_icmp .ne 5, 3) := by decide +kernel
theorem dX9_readBoilers_86 : decode cX9_readBoilers 86 = .ok (.iconst 0, 1) := by decide +kernel
theorem dX9_readBoilers_87 : decode cX9_readBoilers 87 = .ok (.ireturn, 1) := by decide +kernel
theorem dX9_readBoilers_88 : decode cX9_readBoilers 88 = .ok (.aload_n 0, 1) := by decide +kernel
theorem dX9_readBoilers_89 : decode cX9_readBoilers 89 = .ok (.dup, 1) := by decide +kernel
theorem dX9_readBoilers_90 : decode cX9_readBoilers 90 = .ok (.getfield 137, 3) := by decide +kernel
theorem dX9_readBoilers_93 : decode cX9_readBoilers 93 = .ok (.iconst 1, 1) := by decide +kernel
theorem dX9_readBoilers_94 : decode cX9_readBoilers 94 = .ok (.iadd, 1) := by decide +kernel
theorem dX9_readBoilers_95 : decode cX9_readBoilers 95 = .ok (.putfield 137, 3) := by decide +kernel
theorem dX9_readBoilers_98 : decode cX9_readBoilers 98 = .ok (.goto (-93), 3) := by decide +kernel
theorem dX9_readBoilers_101 : decode cX9_readBoilers 101 = .ok (.aload_n 0, 1) := by decide +kernel
theorem dX9_readBoilers_102 : decode cX9_readBoilers 102 = .ok (.getfield 137, 3) := by decide +kernel
theorem dX9_readBoilers_105 : decode cX9_readBoilers 105 = .ok (.ifCond .le 7, 3) := by decide +kernel
theorem dX9_readBoilers_108 : decode cX9_readBoilers 108 = .ok (.iconst 1, 1) := by decide +kernel
theorem dX9_readBoilers_109 : decode cX9_readBoilers 109 = .ok (.goto 4, 3) := by decide +kernel
theorem dX9_readBoilers_112 : decode cX9_readBoilers 112 = .ok (.iconst 0, 1) := by decide +kernel
theorem dX9_readBoilers_113 : decode cX9_readBoilers 113 = .ok (.ireturn, 1) := by decide +kernel
theorem dX9_readAll_0 : decode cX9_readAll 0 = .ok (.aload_n 0, 1) := by decide +kernel
theorem dX9_readAll_1 : decode cX9_readAll 1 = .ok (.iconst 0, 1) := by decide +kernel
theorem dX9_readAll_2 : decode cX9_readAll 2 = .ok (.putfield 130, 3) := by decide +kernel
theorem dX9_readAll_5 : decode cX9_readAll 5 = .ok (.aload_n 0, 1) := by decide +kernel
theorem dX9_readAll_6 : decode cX9_readAll 6 = .ok (.getfield 20, 3) := by decide +kernel
theorem dX9_readAll_9 : decode cX9_readAll 9 = .ok (.invokestatic 39, 3) := by decide +kernel
theorem dX9_readAll_12 : decode cX9_readAll 12 = .ok (.aload_n 0, 1) := by decide +kernel
theorem dX9_readAll_13 : decode cX9_readAll 13 = .ok (.bipush 72, 2) := by decide +kernel
theorem dX9_readAll_15 : decode cX9_readAll 15 = .ok (.invokevirtual 140, 3) := by decide +kernel
theorem dX9_readAll_18 : decode cX9_readAll 18 = .ok (.ifCond .ne 5, 3) := by decide +kernel
theorem dX9_readAll_21 : decode cX9_readAll 21 = .ok (.iconst 0, 1) := by decide +kernel
theorem dX9_readAll_22 : decode cX9_readAll 22 = .ok (.ireturn, 1) := by decide +kernel
theorem dX9_readAll_23 : decode cX9_readAll 23 = .ok (.aload_n 0, 1) := by decide +kernel
theorem dX9_readAll_24 : decode cX9_readAll 24 = .ok (.aload_n 0, 1) := by decide +kernel
theorem dX9_readAll_25 : decode cX9_readAll 25 = .ok (.iconst 2, 1) := by decide +kernel
theorem dX9_readAll_26 : decode cX9_readAll 26 = .ok (.bipush 8, 2) := by decide +kernel
theorem dX9_readAll_28 : decode cX9_readAll 28 = .ok (.invokevirtual 133, 3) := by decide +kernel
theorem dX9_readAll_31 : decode cX9_readAll 31 = .ok (.putfield 146, 3) := by decide +kernel
theorem dX9_readAll_34 : decode cX9_readAll 34 = .ok (.aload_n 0, 1) := by decide +kernel
theorem dX9_readAll_35 : decode cX9_readAll 35 = .ok (.getfield 20, 3) := by decide +kernel
theorem dX9_readAll_38 : decode cX9_readAll 38 = .ok (.bipush 18, 2) := by decide +kernel
theorem dX9_readAll_40 : decode cX9_readAll 40 = .ok (.aload_n 0, 1) := by decide +kernel
theorem dX9_readAll_41 : decode cX9_readAll 41 = .ok (.getfield 146, 3) := by decide +kernel
theorem dX9_readAll_44 : decode cX9_readAll 44 = .ok (.bipush (-9), 2) := by decide +kernel
theorem dX9_readAll_46 : decode cX9_readAll 46 = .ok (.if_icmp .ne 8, 3) := by decide +kernel
theorem dX9_readAll_49 : decode cX9_readAll 49 = .ok (.bipush (-9), 2) := by decide +kernel
theorem dX9_readAll_51 : decode cX9_readAll 51 = .ok (.goto 10, 3) := by decide +kernel
theorem dX9_readAll_54 : decode cX9_readAll 54 = .ok (.aload_n 0, 1) := by decide +kernel
theorem dX9_readAll_55 : decode cX9_readAll 55 = .ok (.iconst 0, 1) := by decide +kernel
theorem dX9_readAll_56 : decode cX9_readAll 56 = .ok (.bipush 99, 2) := by decide +kernel
theorem dX9_readAll_58 : decode cX9_readAll 58 = .ok (.invokevirtual 143, 3) := by decide +kernel
theorem dX9_readAll_61 : decode cX9_readAll 61 = .ok (.iastore, 1) := by decide +kernel
theorem dX9_readAll_62 : decode cX9_readAll 62 = .ok (.aload_n 0, 1) := by decide +kernel
theorem dX9_readAll_63 : decode cX9_readAll 63 = .ok (.getfield 20, 3) := by decide +kernel
theorem dX9_readAll_66 : decode cX9_readAll 66 = .ok (.bipush 19, 2) := by decide +kernel
theorem dX9_readAll_68 : decode cX9_readAll 68 = .ok (.aload_n 0, 1) := by decide +kernel
theorem dX9_readAll_69 : decode cX9_readAll 69 = .ok (.getfield 20, 3) := by decide +kernel
theorem dX9_readAll_72 : decode cX9_readAll 72 = .ok (.bipush 18, 2) := by decide +kernel
theorem dX9_readAll_74 : decode cX9_readAll 74 = .ok (.iaload, 1) := by decide +kernel
theorem dX9_readAll_75 : decode cX9_readAll 75 = .ok (.bipush (-9), 2) := by decide +kernel
theorem dX9_readAll_77 : decode cX9_readAll 77 = .ok (.if_icmp .ne 8, 3) := by decide +kernel
theorem dX9_readAll_80 : decode cX9_readAll 80 = .ok (.bipush (-9), 2) := by decide +kernel
theorem dX9_readAll_82 : decode cX9_readAll 82 = .ok (.goto 10, 3) := by decide +kernel
theorem dX9_readAll_85 : decode cX9_readAll 85 = .ok (.aload_n 0, 1) := by decide +kernel
theorem dX9_readAll_86 : decode cX9_readAll 86 = .ok (.iconst 0, 1) := by decide +kernel
theorem dX9_readAll_87 : decode cX9_readAll 87 = .ok (.bipush 99, 2) := by decide +kernel
theorem dX9_readAll_89 : decode cX9_readAll 89 = .ok (.invokevirtual 143, 3) := by decide +kernel
theorem dX9_readAll_92 : decode cX9_readAll 92 = .ok (.iastore, 1) := by decide +kernel
theorem dX9_readAll_93 : decode cX9_readAll 93 = .ok (.aload_n 0, 1) := by decide +kernel
theorem dX9_readAll_94 : decode cX9_readAll 94 = .ok (.getfield 20, 3) := by decide +kernel
theorem dX9_readAll_97 : decode cX9_readAll 97 = .ok (.bipush 19, 2) := by decide +kernel
theorem dX9_readAll_99 : decode cX9_readAll 99 = .ok (.iaload, 1) := by decide +kernel
theorem dX9_readAll_100 : decode cX9_readAll 100 = .ok (.bipush (-9), 2) := by decide +kernel
theorem dX9_readAll_102 : decode cX9_readAll 102 = .ok (.if_icmp .eq 10, 3) := by decide +kernel
theorem dX9_readAll_105 : decode cX9_readAll 105 = .ok (.aload_n 0, 1) := by decide +kernel
theorem dX9_readAll_106 : decode cX9_readAll 106 = .ok (.invokevirtual 149, 3) := by decide +kernel
theorem dX9_readAll_109 : decode cX9_readAll 109 = .ok (.ifCond .ne 5, 3) := by decide +kernel
theorem dX9_readAll_112 : decode cX9_readAll 112 = .ok (.iconst 0, 1) := by decide +kernel
theorem dX9_readAll_113 : decode cX9_readAll 113 = .ok (.ireturn, 1) := by decide +kernel
theorem dX9_readAll_114 : decode cX9_readAll 114 = .ok (.aload_n 0, 1) := by decide +kernel
theorem dX9_readAll_115 : decode cX9_readAll 115 = .ok (.bipush 116, 2) := by decide +kernel
theorem dX9_readAll_117 : decode cX9_readAll 117 = .ok (.invokevirtual 140, 3) := by decide +kernel
theorem dX9_readAll_120 : decode cX9_readAll 120 = .ok (.ifCond .eq 47, 3) := by decide +kernel
theorem dX9_readAll_123 : decode cX9_readAll 123 = .ok (.iconst 0, 1) := by decide +kernel
theorem dX9_readAll_124 : decode cX9_readAll 124 = .ok (.istore_n 1, 1) := by decide +kernel
theorem dX9_readAll_125 : decode cX9_readAll 125 = .ok (.iconst 0, 1) := by decide +kernel
theorem dX9_readAll_126 : decode cX9_readAll 126 = .ok (.istore_n 2, 1) := by decide +kernel
theorem dX9_readAll_127 : decode cX9_readAll 127 = .ok (.iload_n 2, 1) := by decide +kernel
theorem dX9_readAll_128 : decode cX9_readAll 128 = .ok (.aload_n 0, 1) := by decide +kernel
theorem dX9_readAll_129 : decode cX9_readAll 129 = .ok (.getfield 146, 3) := by decide +kernel
theorem dX9_readAll_132 : decode cX9_readAll 132 = .ok (.if_icmp .ge 35, 3) := by decide +kernel
theorem dX9_readAll_135 : decode cX9_readAll 135 = .ok (.aload_n 0, 1) := by decide +kernel
theorem dX9_readAll_136 : decode cX9_readAll 136 = .ok (.iload_n 1, 1) := by decide +kernel
theorem dX9_readAll_137 : decode cX9_readAll 137 = .ok (.bipush 99, 2) := by decide +kernel
theorem dX9_readAll_139 : decode cX9_readAll 139 = .ok (.invokevirtual 143, 3) := by decide +kernel
theorem dX9_readAll_142 : decode cX9_readAll 142 = .ok (.istore_n 1, 1) := by decide +kernel
theorem dX9_readAll_143 : decode cX9_readAll 143 = .ok (.iload_n 1, 1) := by decide +kernel
theorem dX9_readAll_144 : decode cX9_readAll 144 = .ok (.bipush (-9), 2) := by decide +kernel
theorem dX9_readAll_146 : decode cX9_readAll 146 = .ok (.if_icmp .ne 5, 3) := by decide +kernel
theorem dX9_readAll_149 : decode cX9_readAll 149 = .ok (.iconst 0, 1) := by decide +kernel
theorem dX9_readAll_150 : decode cX9_readAll 150 = .ok (.ireturn, 1) := by decide +kernel
theorem dX9_readAll_151 : decode cX9_readAll 151 = .ok (.aload_n 0, 1) := by decide +kernel
theorem dX9_readAll_152 : decode cX9_readAll 152 = .ok (.getfield 20, 3) := by decide +kernel
theorem dX9_readAll_155 : decode cX9_readAll 155 = .ok (.bipush 22, 2) := by decide +kernel
theorem dX9_readAll_157 : decode cX9_readAll 157 = .ok (.iload_n 2, 1) := by decide +kernel
theorem dX9_readAll_158 : decode cX9_readAll 158 = .ok (.iadd, 1) := by decide +kernel
theorem dX9_readAll_159 : decode cX9_readAll 159 = .ok (.iload_n 1, 1) := by decide +kernel
theorem dX9_readAll_160 : decode cX9_readAll 160 = .ok (.iastore, 1) := by decide +kernel
theorem dX9_readAll_161 : decode cX9_readAll 161 = .ok (.iinc 2 1, 3) := by decide +kernel
theorem dX9_readAll_164 : decode cX9_readAll 164 = .ok (.goto (-37), 3) := by decide +kernel
theorem dX9_readAll_167 : decode cX9_readAll 167 = .ok (.aload_n 0, 1) := by decide +kernel
theorem dX9_readAll_168 : decode cX9_readAll 168 = .ok (.getfield 130, 3) := by decide +kernel
theorem dX9_readAll_171 : decode cX9_readAll 171 = .ok (.aload_n 0, 1) := by decide +kernel
theorem dX9_readAll_172 : decode cX9_readAll 172 = .ok (.getfield 124, 3) := by decide +kernel
theorem dX9_readAll_175 : decode cX9_readAll 175 = .ok (.if_icmp .ne 7, 3) := by decide +kernel
theorem dX9_readAll_178 : decode cX9_readAll 178 = .ok (.iconst 1, 1) := by decide +kernel
theorem dX9_readAll_179 : decode cX9_readAll 179 = .ok (.goto 4, 3) := by decide +kernel
theorem dX9_readAll_182 : decode cX9_readAll 182 = .ok (.iconst 0, 1) := by decide +kernel
theorem dX9_readAll_183 : decode cX9_readAll 183 = .ok (.ireturn, 1) := by decide +kernel
theorem dX9_errorPosition_0 : decode cX9_errorPosition 0 = .ok (.aload_n 0, 1) := by decide +kernel
theorem dX9_errorPosition_1 : decode cX9_errorPosition 1 = .ok (.iconst 0, 1) := by decide +kernel
theorem dX9_errorPosition_2 : decode cX9_errorPosition 2 = .ok (.putfield 43, 3) := by decide +kernel
theorem dX9_errorPosition_5 : decode cX9_errorPosition 5 = .ok (.aload_n 0, 1) := by decide +kernel
theorem dX9_errorPosition_6 : decode cX9_errorPosition 6 = .ok (.invokevirtual 153, 3) := by decide +kernel
theorem dX9_errorPosition_9 : decode cX9_errorPosition 9 = .ok (.ifCond .eq 8, 3) := by decide +kernel
theorem dX9_errorPosition_12 : decode cX9_errorPosition 12 = .ok (.bipush (-9), 2) := by decide +kernel
theorem dX9_errorPosition_14 : decode cX9_errorPosition 14 = .ok (.goto 7, 3) := by decide +kernel
theorem dX9_errorPosition_17 : decode cX9_errorPosition 17 = .ok (.aload_n 0, 1) := by decide +kernel
theorem dX9_errorPosition_18 : decode cX9_errorPosition 18 = .ok (.getfield 130, 3) := by decide +kernel
theorem dX9_errorPosition_21 : decode cX9_errorPosition 21 = .ok (.ireturn, 1) := by decide +kernel
theorem dX9_load_0 : decode cX9_load 0 = .ok (.aload_n 0, 1) := by decide +kernel
theorem dX9_load_1 : decode cX9_load 1 = .ok (.aload_n 0, 1) := by decide +kernel
theorem dX9_load_2 : decode cX9_load 2 = .ok (.invokevirtual 153, 3) := by decide +kernel
theorem dX9_load_5 : decode cX9_load 5 = .ok (.ifCond .eq 7, 3) := by decide +kernel
theorem dX9_load_8 : decode cX9_load 8 = .ok (.iconst 0, 1) := by decide +kernel
theorem dX9_load_9 : decode cX9_load 9 = .ok (.goto 4, 3) := by decide +kernel
theorem dX9_load_12 : decode cX9_load 12 = .ok (.iconst 1, 1) := by decide +kernel
theorem dX9_load_13 : decode cX9_load 13 = .ok (.invokevirtual 127, 3) := by decide +kernel
theorem dX9_load_16 : decode cX9_load 16 = .ok (.ifCond .eq 5, 3) := by decide +kernel
theorem dX9_load_19 : decode cX9_load 19 = .ok (.iconst 0, 1) := by decide +kernel
theorem dX9_load_20 : decode cX9_load 20 = .ok (.ireturn, 1) := by decide +kernel
theorem dX9_load_21 : decode cX9_load 21 = .ok (.aload_n 0, 1) := by decide +kernel
theorem dX9_load_22 : decode cX9_load 22 = .ok (.aload_n 0, 1) := by decide +kernel
theorem dX9_load_23 : decode cX9_load 23 = .ok (.getfield 137, 3) := by decide +kernel
theorem dX9_load_26 : decode cX9_load 26 = .ok (.putfield 13, 3) := by decide +kernel
theorem dX9_load_29 : decode cX9_load 29 = .ok (.aload_n 0, 1) := by decide +kernel
theorem dX9_load_30 : decode cX9_load 30 = .ok (.aload_n 0, 1) := by decide +kernel
theorem dX9_load_31 : decode cX9_load 31 = .ok (.getfield 146, 3) := by decide +kernel
theorem dX9_load_34 : decode cX9_load 34 = .ok (.putfield 17, 3) := by decide +kernel
theorem dX9_load_37 : decode cX9_load 37 = .ok (.aload_n 0, 1) := by decide +kernel
theorem dX9_load_38 : decode cX9_load 38 = .ok (.getfield 20, 3) := by decide +kernel
theorem dX9_load_41 : decode cX9_load 41 = .ok (.iconst 0, 1) := by decide +kernel
theorem dX9_load_42 : decode cX9_load 42 = .ok (.aload_n 0, 1) := by decide +kernel
theorem dX9_load_43 : decode cX9_load 43 = .ok (.getfield 23, 3) := by decide +kernel
theorem dX9_load_46 : decode cX9_load 46 = .ok (.iconst 0, 1) := by decide +kernel
theorem dX9_load_47 : decode cX9_load 47 = .ok (.invokestatic 156, 3) := by decide +kernel
theorem dX9_load_50 : decode cX9_load 50 = .ok (.aload_n 0, 1) := by decide +kernel
theorem dX9_load_51 : decode cX9_load 51 = .ok (.iconst 0, 1) := by decide +kernel
theorem dX9_load_52 : decode cX9_load 52 = .ok (.putfield 160, 3) := by decide +kernel
theorem dX9_load_55 : decode cX9_load 55 = .ok (.aload_n 0, 1) := by decide +kernel
theorem dX9_load_56 : decode cX9_load 56 = .ok (.getfield 35, 3) := by decide +kernel
theorem dX9_load_59 : decode cX9_load 59 = .ok (.iconst 0, 1) := by decide +kernel
theorem dX9_load_60 : decode cX9_load 60 = .ok (.iconst 0, 1) := by decide +kernel
theorem dX9_load_61 : decode cX9_load 61 = .ok (.bastore, 1) := by decide +kernel
theorem dX9_load_62 : decode cX9_load 62 = .ok (.aload_n 0, 1) := by decide +kernel
theorem dX9_load_63 : decode cX9_load 63 = .ok (.getfield 35, 3) := by decide +kernel
theorem dX9_load_66 : decode cX9_load 66 = .ok (.iconst 1, 1) := by decide +kernel
theorem dX9_load_67 : decode cX9_load 67 = .ok (.iconst 0, 1) := by decide +kernel
theorem dX9_load_68 : decode cX9_load 68 = .ok (.bastore, 1) := by decide +kernel
theorem dX9_load_69 : decode cX9_load 69 = .ok (.aload_n 0, 1) := by decide +kernel
theorem dX9_load_70 : decode cX9_load 70 = .ok (.getfield 13, 3) := by decide +kernel
theorem dX9_load_73 : decode cX9_load 73 = .ok (.ireturn, 1) := by decide +kernel
theorem dX9_isBoiler_0 : decode cX9_isBoiler 0 = .ok (.iload_n 1, 1) := by decide +kernel
theorem dX9_isBoiler_1 : decode cX9_isBoiler 1 = .ok (.i2l, 1) := by decide +kernel
theorem dX9_isBoiler_2 : decode cX9_isBoiler 2 = .ok (.lconst 0, 1) := by decide +kernel
theorem dX9_isBoiler_3 : decode cX9_isBoiler 3 = .ok (.aload_n 0, 1) := by decide +kernel
theorem dX9_isBoiler_4 : decode cX9_isBoiler 4 = .ok (.getfield 13, 3) := by decide +kernel
theorem dX9_isBoiler_7 : decode cX9_isBoiler 7 = .ok (.iconst 1, 1) := by decide +kernel
theorem dX9_isBoiler_8 : decode cX9_isBoiler 8 = .ok (.isub, 1) := by decide +kernel
theorem dX9_isBoiler_9 : decode cX9_isBoiler 9 = .ok (.i2l, 1) := by decide +kernel
theorem dX9_isBoiler_10 : decode cX9_isBoiler 10 = .ok (.invokestatic 50, 3) := by decide +kernel
theorem dX9_isBoiler_13 : decode cX9_isBoiler 13 = .ok (.ireturn, 1) := by decide +kernel
theorem dX9_about_0 : decode cX9_about 0 = .ok (.aload_n 0, 1) := by decide +kernel
theorem dX9_about_1 : decode cX9_about 1 = .ok (.iload_n 1, 1) := by decide +kernel
theorem dX9_about_2 : decode cX9_about 2 = .ok (.i2l, 1) := by decide +kernel
theorem dX9_about_3 : decode cX9_about 3 = .ok (.lconst 0, 1) := by decide +kernel
theorem dX9_about_4 : decode cX9_about 4 = .ok (.ldc2_w 163, 3) := by decide +kernel
theorem dX9_about_7 : decode cX9_about 7 = .ok (.invokestatic 50, 3) := by decide +kernel
theorem dX9_about_10 : decode cX9_about 10 = .ok (.ifCond .eq 7, 3) := by decide +kernel
theorem dX9_about_13 : decode cX9_about 13 = .ok (.iconst 0, 1) := by decide +kernel
theorem dX9_about_14 : decode cX9_about 14 = .ok (.goto 4, 3) := by decide +kernel
theorem dX9_about_17 : decode cX9_about 17 = .ok (.iconst 1, 1) := by decide +kernel
theorem dX9_about_18 : decode cX9_about 18 = .ok (.invokevirtual 127, 3) := by decide +kernel
theorem dX9_about_21 : decode cX9_about 21 = .ok (.ifCond .eq 5, 3) := by decide +kernel
theorem dX9_about_24 : decode cX9_about 24 = .ok (.iconst 0, 1) := by decide +kernel
theorem dX9_about_25 : decode cX9_about 25 = .ok (.ireturn, 1) := by decide +kernel
theorem dX9_about_26 : decode cX9_about 26 = .ok (.iload_n 1, 1) := by decide +kernel
theorem dX9_about_27 : decode cX9_about 27 = .ok (.tableswitch 94 6 16 #[57, 62, 67, 75, 94, 94, 94, 94, 94, 94, 84], 57) := by decide +kernel
theorem dX9_about_84 : decode cX9_about 84 = .ok (.aload_n 0, 1) := by decide +kernel
theorem dX9_about_85 : decode cX9_about 85 = .ok (.getfield 13, 3) := by decide +kernel
theorem dX9_about_88 : decode cX9_about 88 = .ok (.ireturn, 1) := by decide +kernel
theorem dX9_about_89 : decode cX9_about 89 = .ok (.aload_n 0, 1) := by decide +kernel
theorem dX9_about_90 : decode cX9_about 90 = .ok (.getfield 17, 3) := by decide +kernel
theorem dX9_about_93 : decode cX9_about 93 = .ok (.ireturn, 1) := by decide +kernel
theorem dX9_about_94 : decode cX9_about 94 = .ok (.aload_n 0, 1) := by decide +kernel
theorem dX9_about_95 : decode cX9_about 95 = .ok (.getfield 23, 3) := by decide +kernel
theorem dX9_about_98 : decode cX9_about 98 = .ok (.bipush 6, 2) := by decide +kernel
theorem dX9_about_100 : decode cX9_about 100 = .ok (.iaload, 1) := by decide +kernel
theorem dX9_about_101 : decode cX9_about 101 = .ok (.ireturn, 1) := by decide +kernel
theorem dX9_about_102 : decode cX9_about 102 = .ok (.aload_n 0, 1) := by decide +kernel
theorem dX9_about_103 : decode cX9_about 103 = .ok (.aload_n 0, 1) := by decide +kernel
theorem dX9_about_104 : decode cX9_about 104 = .ok (.getfield 23, 3) := by decide +kernel
theorem dX9_about_107 : decode cX9_about 107 = .ok (.invokevirtual 87, 3) := by decide +kernel
theorem dX9_about_110 : decode cX9_about 110 = .ok (.ireturn, 1) := by decide +kernel
theorem dX9_about_111 : decode cX9_about 111 = .ok (.aload_n 0, 1) := by decide +kernel
theorem dX9_about_112 : decode cX9_about 112 = .ok (.aload_n 0, 1) := by decide +kernel
theorem dX9_about_113 : decode cX9_about 113 = .ok (.getfield 23, 3) := by decide +kernel
theorem dX9_about_116 : decode cX9_about 116 = .ok (.iconst 2, 1) := by decide +kernel
theorem dX9_about_117 : decode cX9_about 117 = .ok (.invokevirtual 165, 3) := by decide +kernel
theorem dX9_about_120 : decode cX9_about 120 = .ok (.ireturn, 1) := by decide +kernel
theorem dX9_about_121 : decode cX9_about 121 = .ok (.iload_n 1, 1) := by decide +kernel
theorem dX9_about_122 : decode cX9_about 122 = .ok (.bipush 6, 2) := by decide +kernel
theorem dX9_about_124 : decode cX9_about 124 = .ok (.if_icmp .ge 12, 3) := by decide +kernel
theorem dX9_about_127 : decode cX9_about 127 = .ok (.aload_n 0, 1) := by decide +kernel
theorem dX9_about_128 : decode cX9_about 128 = .ok (.getfield 23, 3) := by decide +kernel
theorem dX9_about_131 : decode cX9_about 131 = .ok (.iload_n 1, 1) := by decide +kernel
theorem dX9_about_132 : decode cX9_about 132 = .ok (.iaload, 1) := by decide +kernel
theorem dX9_about_133 : decode cX9_about 133 = .ok (.goto 15, 3) := by decide +kernel
theorem dX9_about_136 : decode cX9_about 136 = .ok (.aload_n 0, 1) := by decide +kernel
theorem dX9_about_137 : decode cX9_about 137 = .ok (.getfield 23, 3) := by decide +kernel
theorem dX9_about_140 : decode cX9_about 140 = .ok (.bipush 7, 2) := by decide +kernel
theorem dX9_about_142 : decode cX9_about 142 = .ok (.iload_n 1, 1) := by decide +kernel
theorem dX9_about_143 : decode cX9_about 143 = .ok (.iadd, 1) := by decide +kernel
theorem dX9_about_144 : decode cX9_about 144 = .ok (.bipush 10, 2) := by decide +kernel
theorem dX9_about_146 : decode cX9_about 146 = .ok (.isub, 1) := by decide +kernel
theorem dX9_about_147 : decode cX9_about 147 = .ok (.iaload, 1) := by decide +kernel
theorem dX9_about_148 : decode cX9_about 148 = .ok (.ireturn, 1) := by decide +kernel
theorem dX9_boiler_0 : decode cX9_boiler 0 = .ok (.aload_n 0, 1) := by decide +kernel
theorem dX9_boiler_1 : decode cX9_boiler 1 = .ok (.aload_n 0, 1) := by decide +kernel
theorem dX9_boiler_2 : decode cX9_boiler 2 = .ok (.iload_n 1, 1) := by decide +kernel
theorem dX9_boiler_3 : decode cX9_boiler 3 = .ok (.invokevirtual 168, 3) := by decide +kernel
theorem dX9_boiler_6 : decode cX9_boiler 6 = .ok (.ifCond .ne 7, 3) := by decide +kernel
theorem dX9_boiler_9 : decode cX9_boiler 9 = .ok (.iconst 1, 1) := by decide +kernel
theorem dX9_boiler_10 : decode cX9_boiler 10 = .ok (.goto 20, 3) := by decide +kernel
theorem dX9_boiler_13 : decode cX9_boiler 13 = .ok (.iload_n 2, 1) := by decide +kernel
theorem dX9_boiler_14 : decode cX9_boiler 14 = .ok (.i2l, 1) := by decide +kernel
theorem dX9_boiler_15 : decode cX9_boiler 15 = .ok (.lconst 0, 1) := by decide +kernel
theorem dX9_boiler_16 : decode cX9_boiler 16 = .ok (.ldc2_w 171, 3) := by decide +kernel
theorem dX9_boiler_19 : decode cX9_boiler 19 = .ok (.invokestatic 50, 3) := by decide +kernel
theorem dX9_boiler_22 : decode cX9_boiler 22 = .ok (.ifCond .ne 7, 3) := by decide +kernel
theorem dX9_boiler_25 : decode cX9_boiler 25 = .ok (.iconst 2, 1) := by decide +kernel
theorem dX9_boiler_26 : decode cX9_boiler 26 = .ok (.goto 4, 3) := by decide +kernel
theorem dX9_boiler_29 : decode cX9_boiler 29 = .ok (.iconst 0, 1) := by decide +kernel
theorem dX9_boiler_30 : decode cX9_boiler 30 = .ok (.invokevirtual 127, 3) := by decide +kernel
theorem dX9_boiler_33 : decode cX9_boiler 33 = .ok (.ifCond .eq 5, 3) := by decide +kernel
theorem dX9_boiler_36 : decode cX9_boiler 36 = .ok (.iconst 0, 1) := by decide +kernel
theorem dX9_boiler_37 : decode cX9_boiler 37 = .ok (.ireturn, 1) := by decide +kernel
theorem dX9_boiler_38 : decode cX9_boiler 38 = .ok (.iload_n 2, 1) := by decide +kernel
theorem dX9_boiler_39 : decode cX9_boiler 39 = .ok (.bipush 7, 2) := by decide +kernel
theorem dX9_boiler_41 : decode cX9_boiler 41 = .ok (.if_icmp .ge 17, 3) := by decide +kernel
theorem dX9_boiler_44 : decode cX9_boiler 44 = .ok (.aload_n 0, 1) := by decide +kernel
theorem dX9_boiler_45 : decode cX9_boiler 45 = .ok (.getfield 23, 3) := by decide +kernel
theorem dX9_boiler_48 : decode cX9_boiler 48 = .ok (.iload_n 1, 1) := by decide +kernel
theorem dX9_boiler_49 : decode cX9_boiler 49 = .ok (.invokestatic 68, 3) := by decide +kernel
theorem dX9_boiler_52 : decode cX9_boiler 52 = .ok (.iload_n 2, 1) := by decide +kernel
theorem dX9_boiler_53 : decode cX9_boiler 53 = .ok (.iadd, 1) := by decide +kernel
theorem dX9_boiler_54 : decode cX9_boiler 54 = .ok (.iaload, 1) := by decide +kernel
theorem dX9_boiler_55 : decode cX9_boiler 55 = .ok (.goto 20, 3) := by decide +kernel
theorem dX9_boiler_58 : decode cX9_boiler 58 = .ok (.aload_n 0, 1) := by decide +kernel
theorem dX9_boiler_59 : decode cX9_boiler 59 = .ok (.aload_n 0, 1) := by decide +kernel
theorem dX9_boiler_60 : decode cX9_boiler 60 = .ok (.getfield 23, 3) := by decide +kernel
theorem dX9_boiler_63 : decode cX9_boiler 63 = .ok (.iload_n 1, 1) := by decide +kernel
theorem dX9_boiler_64 : decode cX9_boiler 64 = .ok (.invokevirtual 83, 3) := by decide +kernel
theorem dX9_boiler_67 : decode cX9_boiler 67 = .ok (.ifCond .eq 7, 3) := by decide +kernel
theorem dX9_boiler_70 : decode cX9_boiler 70 = .ok (.iconst 1, 1) := by decide +kernel
theorem dX9_boiler_71 : decode cX9_boiler 71 = .ok (.goto 4, 3) := by decide +kernel
theorem dX9_boiler_74 : decode cX9_boiler 74 = .ok (.iconst 0, 1) := by decide +kernel
theorem dX9_boiler_75 : decode cX9_boiler 75 = .ok (.ireturn, 1) := by decide +kernel
theorem dX9_flue_0 : decode cX9_flue 0 = .ok (.aload_n 0, 1) := by decide +kernel
theorem dX9_flue_1 : decode cX9_flue 1 = .ok (.iload_n 1, 1) := by decide +kernel
theorem dX9_flue_2 : decode cX9_flue 2 = .ok (.i2l, 1) := by decide +kernel
theorem dX9_flue_3 : decode cX9_flue 3 = .ok (.lconst 0, 1) := by decide +kernel
theorem dX9_flue_4 : decode cX9_flue 4 = .ok (.lconst 1, 1) := by decide +kernel
theorem dX9_flue_5 : decode cX9_flue 5 = .ok (.invokestatic 50, 3) := by decide +kernel
theorem dX9_flue_8 : decode cX9_flue 8 = .ok (.ifCond .ne 7, 3) := by decide +kernel
theorem dX9_flue_11 : decode cX9_flue 11 = .ok (.iconst 1, 1) := by decide +kernel
theorem dX9_flue_12 : decode cX9_flue 12 = .ok (.goto 20, 3) := by decide +kernel
theorem dX9_flue_15 : decode cX9_flue 15 = .ok (.iload_n 2, 1) := by decide +kernel
theorem dX9_flue_16 : decode cX9_flue 16 = .ok (.i2l, 1) := by decide +kernel
theorem dX9_flue_17 : decode cX9_flue 17 = .ok (.lconst 0, 1) := by decide +kernel
theorem dX9_flue_18 : decode cX9_flue 18 = .ok (.ldc2_w 173, 3) := by decide +kernel
theorem dX9_flue_21 : decode cX9_flue 21 = .ok (.invokestatic 50, 3) := by decide +kernel
theorem dX9_flue_24 : decode cX9_flue 24 = .ok (.ifCond .ne 7, 3) := by decide +kernel
theorem dX9_flue_27 : decode cX9_flue 27 = .ok (.iconst 2, 1) := by decide +kernel
theorem dX9_flue_28 : decode cX9_flue 28 = .ok (.goto 4, 3) := by decide +kernel
theorem dX9_flue_31 : decode cX9_flue 31 = .ok (.iconst 0, 1) := by decide +kernel
theorem dX9_flue_32 : decode cX9_flue 32 = .ok (.invokevirtual 127, 3) := by decide +kernel
theorem dX9_flue_35 : decode cX9_flue 35 = .ok (.ifCond .eq 5, 3) := by decide +kernel
theorem dX9_flue_38 : decode cX9_flue 38 = .ok (.iconst 0, 1) := by decide +kernel
theorem dX9_flue_39 : decode cX9_flue 39 = .ok (.ireturn, 1) := by decide +kernel
theorem dX9_flue_40 : decode cX9_flue 40 = .ok (.iconst 0, 1) := by decide +kernel
theorem dX9_flue_41 : decode cX9_flue 41 = .ok (.istore_n 3, 1) := by decide +kernel
theorem dX9_flue_42 : decode cX9_flue 42 = .ok (.iconst 0, 1) := by decide +kernel
theorem dX9_flue_43 : decode cX9_flue 43 = .ok (.istore 4, 2) := by decide +kernel
theorem dX9_flue_45 : decode cX9_flue 45 = .ok (.iload 4, 2) := by decide +kernel
theorem dX9_flue_47 : decode cX9_flue 47 = .ok (.aload_n 0, 1) := by decide +kernel
theorem dX9_flue_48 : decode cX9_flue 48 = .ok (.getfield 13, 3) := by decide +kernel
theorem dX9_flue_51 : decode cX9_flue 51 = .ok (.if_icmp .ge 33, 3) := by decide +kernel
theorem dX9_flue_54 : decode cX9_flue 54 = .ok (.iload_n 3, 1) := by decide +kernel
theorem dX9_flue_55 : decode cX9_flue 55 = .ok (.aload_n 0, 1) := by decide +kernel
theorem dX9_flue_56 : decode cX9_flue 56 = .ok (.getfield 23, 3) := by decide +kernel
theorem dX9_flue_59 : decode cX9_flue 59 = .ok (.iload 4, 2) := by decide +kernel
theorem dX9_flue_61 : decode cX9_flue 61 = .ok (.invokestatic 68, 3) := by decide +kernel
theorem dX9_flue_64 : decode cX9_flue 64 = .ok (.iconst 1, 1) := by decide +kernel
theorem dX9_flue_65 : decode cX9_flue 65 = .ok (.iadd, 1) := by decide +kernel
theorem dX9_flue_66 : decode cX9_flue 66 = .ok (.iaload, 1) := by decide +kernel
theorem dX9_flue_67 : decode cX9_flue 67 = .ok (.iload_n 1, 1) := by decide +kernel
theorem dX9_flue_68 : decode cX9_flue 68 = .ok (.if_icmp .ne 7, 3) := by decide +kernel
theorem dX9_flue_71 : decode cX9_flue 71 = .ok (.iconst 1, 1) := by decide +kernel
theorem dX9_flue_72 : decode cX9_flue 72 = .ok (.goto 4, 3) := by decide +kernel
theorem dX9_flue_75 : decode cX9_flue 75 = .ok (.iconst 0, 1) := by decide +kernel
theorem dX9_flue_76 : decode cX9_flue 76 = .ok (.iadd, 1) := by decide +kernel
theorem dX9_flue_77 : decode cX9_flue 77 = .ok (.istore_n 3, 1) := by decide +kernel
theorem dX9_flue_78 : decode cX9_flue 78 = .ok (.iinc 4 1, 3) := by decide +kernel
theorem dX9_flue_81 : decode cX9_flue 81 = .ok (.goto (-36), 3) := by decide +kernel
theorem dX9_flue_84 : decode cX9_flue 84 = .ok (.iload_n 2, 1) := by decide +kernel
theorem dX9_flue_85 : decode cX9_flue 85 = .ok (.ifCond .ne 15, 3) := by decide +kernel
theorem dX9_flue_88 : decode cX9_flue 88 = .ok (.aload_n 0, 1) := by decide +kernel
theorem dX9_flue_89 : decode cX9_flue 89 = .ok (.getfield 23, 3) := by decide +kernel
theorem dX9_flue_92 : decode cX9_flue 92 = .ok (.bipush 18, 2) := by decide +kernel
theorem dX9_flue_94 : decode cX9_flue 94 = .ok (.iload_n 1, 1) := by decide +kernel
theorem dX9_flue_95 : decode cX9_flue 95 = .ok (.iadd, 1) := by decide +kernel
theorem dX9_flue_96 : decode cX9_flue 96 = .ok (.iaload, 1) := by decide +kernel
theorem dX9_flue_97 : decode cX9_flue 97 = .ok (.goto 38, 3) := by decide +kernel
theorem dX9_flue_100 : decode cX9_flue 100 = .ok (.iload_n 2, 1) := by decide +kernel
theorem dX9_flue_101 : decode cX9_flue 101 = .ok (.iconst 1, 1) := by decide +kernel
theorem dX9_flue_102 : decode cX9_flue 102 = .ok (.if_icmp .ne 15, 3) := by decide +kernel
theorem dX9_flue_105 : decode cX9_flue 105 = .ok (.aload_n 0, 1) := by decide +kernel
theorem dX9_flue_106 : decode cX9_flue 106 = .ok (.aload_n 0, 1) := by decide +kernel
theorem dX9_flue_107 : decode cX9_flue 107 = .ok (.getfield 23, 3) := by decide +kernel
theorem dX9_flue_110 : decode cX9_flue 110 = .ok (.iload_n 1, 1) := by decide +kernel
theorem dX9_flue_111 : decode cX9_flue 111 = .ok (.invokevirtual 76, 3) := by decide +kernel
theorem dX9_flue_114 : decode cX9_flue 114 = .ok (.goto 21, 3) := by decide +kernel
theorem dX9_flue_117 : decode cX9_flue 117 = .ok (.iload_n 2, 1) := by decide +kernel
theorem dX9_flue_118 : decode cX9_flue 118 = .ok (.iconst 2, 1) := by decide +kernel
theorem dX9_flue_119 : decode cX9_flue 119 = .ok (.if_icmp .ne 15, 3) := by decide +kernel
theorem dX9_flue_122 : decode cX9_flue 122 = .ok (.aload_n 0, 1) := by decide +kernel
theorem dX9_flue_123 : decode cX9_flue 123 = .ok (.getfield 23, 3) := by decide +kernel
theorem dX9_flue_126 : decode cX9_flue 126 = .ok (.bipush 20, 2) := by decide +kernel
theorem dX9_flue_128 : decode cX9_flue 128 = .ok (.iload_n 1, 1) := by decide +kernel
theorem dX9_flue_129 : decode cX9_flue 129 = .ok (.iadd, 1) := by decide +kernel
theorem dX9_flue_130 : decode cX9_flue 130 = .ok (.iaload, 1) := by decide +kernel
theorem dX9_flue_131 : decode cX9_flue 131 = .ok (.goto 4, 3) := by decide +kernel
theorem dX9_flue_134 : decode cX9_flue 134 = .ok (.iload_n 3, 1) := by decide +kernel
theorem dX9_flue_135 : decode cX9_flue 135 = .ok (.ireturn, 1) := by decide +kernel
theorem dX9_layer_0 : decode cX9_layer 0 = .ok (.aload_n 0, 1) := by decide +kernel
theorem dX9_layer_1 : decode cX9_layer 1 = .ok (.iload_n 1, 1) := by decide +kernel
theorem dX9_layer_2 : decode cX9_layer 2 = .ok (.i2l, 1) := by decide +kernel
theorem dX9_layer_3 : decode cX9_layer 3 = .ok (.lconst 0, 1) := by decide +kernel
theorem dX9_layer_4 : decode cX9_layer 4 = .ok (.aload_n 0, 1) := by decide +kernel
theorem dX9_layer_5 : decode cX9_layer 5 = .ok (.getfield 17, 3) := by decide +kernel
theorem dX9_layer_8 : decode cX9_layer 8 = .ok (.iconst 1, 1) := by decide +kernel
theorem dX9_layer_9 : decode cX9_layer 9 = .ok (.isub, 1) := by decide +kernel
theorem dX9_layer_10 : decode cX9_layer 10 = .ok (.i2l, 1) := by decide +kernel
theorem dX9_layer_11 : decode cX9_layer 11 = .ok (.invokestatic 50, 3) := by decide +kernel
theorem dX9_layer_14 : decode cX9_layer 14 = .ok (.ifCond .eq 7, 3) := by decide +kernel
theorem dX9_layer_17 : decode cX9_layer 17 = .ok (.iconst 0, 1) := by decide +kernel
theorem dX9_layer_18 : decode cX9_layer 18 = .ok (.goto 4, 3) := by decide +kernel
theorem dX9_layer_21 : decode cX9_layer 21 = .ok (.iconst 1, 1) := by decide +kernel
theorem dX9_layer_22 : decode cX9_layer 22 = .ok (.invokevirtual 127, 3) := by decide +kernel
theorem dX9_layer_25 : decode cX9_layer 25 = .ok (.ifCond .eq 7, 3) := by decide +kernel
theorem dX9_layer_28 : decode cX9_layer 28 = .ok (.iconst 0, 1) := by decide +kernel
theorem dX9_layer_29 : decode cX9_layer 29 = .ok (.goto 12, 3) := by decide +kernel
theorem dX9_layer_32 : decode cX9_layer 32 = .ok (.aload_n 0, 1) := by decide +kernel
theorem dX9_layer_33 : decode cX9_layer 33 = .ok (.getfield 23, 3) := by decide +kernel
theorem dX9_layer_36 : decode cX9_layer 36 = .ok (.bipush 22, 2) := by decide +kernel
theorem dX9_layer_38 : decode cX9_layer 38 = .ok (.iload_n 1, 1) := by decide +kernel
theorem dX9_layer_39 : decode cX9_layer 39 = .ok (.iadd, 1) := by decide +kernel
theorem dX9_layer_40 : decode cX9_layer 40 = .ok (.iaload, 1) := by decide +kernel
theorem dX9_layer_41 : decode cX9_layer 41 = .ok (.ireturn, 1) := by decide +kernel
theorem dX9_account_0 : decode cX9_account 0 = .ok (.aload_n 0, 1) := by decide +kernel
theorem dX9_account_1 : decode cX9_account 1 = .ok (.iload_n 1, 1) := by decide +kernel
theorem dX9_account_2 : decode cX9_account 2 = .ok (.i2l, 1) := by decide +kernel
theorem dX9_account_3 : decode cX9_account 3 = .ok (.lconst 0, 1) := by decide +kernel
theorem dX9_account_4 : decode cX9_account 4 = .ok (.ldc2_w 60, 3) := by decide +kernel
theorem dX9_account_7 : decode cX9_account 7 = .ok (.invokestatic 50, 3) := by decide +kernel
theorem dX9_account_10 : decode cX9_account 10 = .ok (.ifCond .eq 7, 3) := by decide +kernel
theorem dX9_account_13 : decode cX9_account 13 = .ok (.iconst 0, 1) := by decide +kernel
theorem dX9_account_14 : decode cX9_account 14 = .ok (.goto 4, 3) := by decide +kernel
theorem dX9_account_17 : decode cX9_account 17 = .ok (.iconst 1, 1) := by decide +kernel
theorem dX9_account_18 : decode cX9_account 18 = .ok (.invokevirtual 127, 3) := by decide +kernel
theorem dX9_account_21 : decode cX9_account 21 = .ok (.ifCond .eq 5, 3) := by decide +kernel
theorem dX9_account_24 : decode cX9_account 24 = .ok (.iconst 0, 1) := by decide +kernel
theorem dX9_account_25 : decode cX9_account 25 = .ok (.ireturn, 1) := by decide +kernel
theorem dX9_account_26 : decode cX9_account 26 = .ok (.iload_n 1, 1) := by decide +kernel
theorem dX9_account_27 : decode cX9_account 27 = .ok (.iconst 4, 1) := by decide +kernel
theorem dX9_account_28 : decode cX9_account 28 = .ok (.if_icmp .ge 15, 3) := by decide +kernel
theorem dX9_account_31 : decode cX9_account 31 = .ok (.aload_n 0, 1) := by decide +kernel
theorem dX9_account_32 : decode cX9_account 32 = .ok (.getfield 23, 3) := by decide +kernel
theorem dX9_account_35 : decode cX9_account 35 = .ok (.bipush 13, 2) := by decide +kernel
theorem dX9_account_37 : decode cX9_account 37 = .ok (.iload_n 1, 1) := by decide +kernel
theorem dX9_account_38 : decode cX9_account 38 = .ok (.iadd, 1) := by decide +kernel
theorem dX9_account_39 : decode cX9_account 39 = .ok (.iaload, 1) := by decide +kernel
theorem dX9_account_40 : decode cX9_account 40 = .ok (.goto 26, 3) := by decide +kernel
theorem dX9_account_43 : decode cX9_account 43 = .ok (.iload_n 1, 1) := by decide +kernel
theorem dX9_account_44 : decode cX9_account 44 = .ok (.iconst 4, 1) := by decide +kernel
theorem dX9_account_45 : decode cX9_account 45 = .ok (.if_icmp .ne 14, 3) := by decide +kernel
theorem dX9_account_48 : decode cX9_account 48 = .ok (.aload_n 0, 1) := by decide +kernel
theorem dX9_account_49 : decode cX9_account 49 = .ok (.aload_n 0, 1) := by decide +kernel
theorem dX9_account_50 : decode cX9_account 50 = .ok (.getfield 23, 3) := by decide +kernel
theorem dX9_account_53 : decode cX9_account 53 = .ok (.invokevirtual 175, 3) := by decide +kernel
theorem dX9_account_56 : decode cX9_account 56 = .ok (.goto 10, 3) := by decide +kernel
theorem dX9_account_59 : decode cX9_account 59 = .ok (.aload_n 0, 1) := by decide +kernel
theorem dX9_account_60 : decode cX9_account 60 = .ok (.getfield 23, 3) := by decide +kernel
theorem dX9_account_63 : decode cX9_account 63 = .ok (.bipush 17, 2) := by decide +kernel
theorem dX9_account_65 : decode cX9_account 65 = .ok (.iaload, 1) := by decide +kernel
theorem dX9_account_66 : decode cX9_account 66 = .ok (.ireturn, 1) := by decide +kernel
theorem dX9_note_0 : decode cX9_note 0 = .ok (.aload_n 0, 1) := by decide +kernel
theorem dX9_note_1 : decode cX9_note 1 = .ok (.getfield 160, 3) := by decide +kernel
theorem dX9_note_4 : decode cX9_note 4 = .ok (.bipush 14, 2) := by decide +kernel
theorem dX9_note_6 : decode cX9_note 6 = .ok (.if_icmp .ne 43, 3) := by decide +kernel
theorem dX9_note_9 : decode cX9_note 9 = .ok (.iconst 0, 1) := by decide +kernel
theorem dX9_note_10 : decode cX9_note 10 = .ok (.istore_n 1, 1) := by decide +kernel
theorem dX9_note_11 : decode cX9_note 11 = .ok (.iload_n 1, 1) := by decide +kernel
theorem dX9_note_12 : decode cX9_note 12 = .ok (.sipush 845, 3) := by decide +kernel
theorem dX9_note_15 : decode cX9_note 15 = .ok (.if_icmp .ge 24, 3) := by decide +kernel
theorem dX9_note_18 : decode cX9_note 18 = .ok (.aload_n 0, 1) := by decide +kernel
theorem dX9_note_19 : decode cX9_note 19 = .ok (.getfield 29, 3) := by decide +kernel
theorem dX9_note_22 : decode cX9_note 22 = .ok (.iload_n 1, 1) := by decide +kernel
theorem dX9_note_23 : decode cX9_note 23 = .ok (.aload_n 0, 1) := by decide +kernel
theorem dX9_note_24 : decode cX9_note 24 = .ok (.getfield 29, 3) := by decide +kernel
theorem dX9_note_27 : decode cX9_note 27 = .ok (.iload_n 1, 1) := by decide +kernel
theorem dX9_note_28 : decode cX9_note 28 = .ok (.bipush 65, 2) := by decide +kernel
theorem dX9_note_30 : decode cX9_note 30 = .ok (.iadd, 1) := by decide +kernel
theorem dX9_note_31 : decode cX9_note 31 = .ok (.iaload, 1) := by decide +kernel
theorem dX9_note_32 : decode cX9_note 32 = .ok (.iastore, 1) := by decide +kernel
theorem dX9_note_33 : decode cX9_note 33 = .ok (.iinc 1 1, 3) := by decide +kernel
theorem dX9_note_36 : decode cX9_note 36 = .ok (.goto (-25), 3) := by decide +kernel
theorem dX9_note_39 : decode cX9_note 39 = .ok (.aload_n 0, 1) := by decide +kernel
theorem dX9_note_40 : decode cX9_note 40 = .ok (.dup, 1) := by decide +kernel
theorem dX9_note_41 : decode cX9_note 41 = .ok (.getfield 160, 3) := by decide +kernel
theorem dX9_note_44 : decode cX9_note 44 = .ok (.iconst 1, 1) := by decide +kernel
theorem dX9_note_45 : decode cX9_note 45 = .ok (.isub, 1) := by decide +kernel
theorem dX9_note_46 : decode cX9_note 46 = .ok (.putfield 160, 3) := by decide +kernel
theorem dX9_note_49 : decode cX9_note 49 = .ok (.aload_n 0, 1) := by decide +kernel
theorem dX9_note_50 : decode cX9_note 50 = .ok (.getfield 23, 3) := by decide +kernel
theorem dX9_note_53 : decode cX9_note 53 = .ok (.iconst 0, 1) := by decide +kernel
theorem dX9_note_54 : decode cX9_note 54 = .ok (.aload_n 0, 1) := by decide +kernel
theorem dX9_note_55 : decode cX9_note 55 = .ok (.getfield 29, 3) := by decide +kernel
theorem dX9_note_58 : decode cX9_note 58 = .ok (.bipush 65, 2) := by decide +kernel
theorem dX9_note_60 : decode cX9_note 60 = .ok (.aload_n 0, 1) := by decide +kernel
theorem dX9_note_61 : decode cX9_note 61 = .ok (.getfield 160, 3) := by decide +kernel
theorem dX9_note_64 : decode cX9_note 64 = .ok (.imul, 1) := by decide +kernel
theorem dX9_note_65 : decode cX9_note 65 = .ok (.invokestatic 156, 3) := by decide +kernel
theorem dX9_note_68 : decode cX9_note 68 = .ok (.aload_n 0, 1) := by decide +kernel
theorem dX9_note_69 : decode cX9_note 69 = .ok (.dup, 1) := by decide +kernel
theorem dX9_note_70 : decode cX9_note 70 = .ok (.getfield 160, 3) := by decide +kernel
theorem dX9_note_73 : decode cX9_note 73 = .ok (.iconst 1, 1) := by decide +kernel
theorem dX9_note_74 : decode cX9_note 74 = .ok (.iadd, 1) := by decide +kernel
theorem dX9_note_75 : decode cX9_note 75 = .ok (.putfield 160, 3) := by decide +kernel
theorem dX9_note_78 : decode cX9_note 78 = .ok (.return_, 1) := by decide +kernel
theorem dX9_areTicks_0 : decode cX9_areTicks 0 = .ok (.iload_n 0, 1) := by decide +kernel
theorem dX9_areTicks_1 : decode cX9_areTicks 1 = .ok (.i2l, 1) := by decide +kernel
theorem dX9_areTicks_2 : decode cX9_areTicks 2 = .ok (.lconst 1, 1) := by decide +kernel
theorem dX9_areTicks_3 : decode cX9_areTicks 3 = .ok (.ldc2_w 178, 3) := by decide +kernel
theorem dX9_areTicks_6 : decode cX9_areTicks 6 = .ok (.invokestatic 50, 3) := by decide +kernel
theorem dX9_areTicks_9 : decode cX9_areTicks 9 = .ok (.ifCond .eq 19, 3) := by decide +kernel
theorem dX9_areTicks_12 : decode cX9_areTicks 12 = .ok (.iload_n 1, 1) := by decide +kernel
theorem dX9_areTicks_13 : decode cX9_areTicks 13 = .ok (.i2l, 1) := by decide +kernel
theorem dX9_areTicks_14 : decode cX9_areTicks 14 = .ok (.lconst 0, 1) := by decide +kernel
theorem dX9_areTicks_15 : decode cX9_areTicks 15 = .ok (.ldc2_w 60, 3) := by decide +kernel
theorem dX9_areTicks_18 : decode cX9_areTicks 18 = .ok (.invokestatic 50, 3) := by decide +kernel
theorem dX9_areTicks_21 : decode cX9_areTicks 21 = .ok (.ifCond .eq 7, 3) := by decide +kernel
theorem dX9_areTicks_24 : decode cX9_areTicks 24 = .ok (.iconst 1, 1) := by decide +kernel
theorem dX9_areTicks_25 : decode cX9_areTicks 25 = .ok (.goto 4, 3) := by decide +kernel
theorem dX9_areTicks_28 : decode cX9_areTicks 28 = .ok (.iconst 0, 1) := by decide +kernel
theorem dX9_areTicks_29 : decode cX9_areTicks 29 = .ok (.ireturn, 1) := by decide +kernel
theorem dX9_tick_0 : decode cX9_tick 0 = .ok (.aload_n 0, 1) := by decide +kernel
theorem dX9_tick_1 : decode cX9_tick 1 = .ok (.iload_n 1, 1) := by decide +kernel
theorem dX9_tick_2 : decode cX9_tick 2 = .ok (.iload_n 2, 1) := by decide +kernel
theorem dX9_tick_3 : decode cX9_tick 3 = .ok (.invokestatic 180, 3) := by decide +kernel
theorem dX9_tick_6 : decode cX9_tick 6 = .ok (.ifCond .eq 7, 3) := by decide +kernel
theorem dX9_tick_9 : decode cX9_tick 9 = .ok (.iconst 0, 1) := by decide +kernel
theorem dX9_tick_10 : decode cX9_tick 10 = .ok (.goto 4, 3) := by decide +kernel
theorem dX9_tick_13 : decode cX9_tick 13 = .ok (.iconst 1, 1) := by decide +kernel
theorem dX9_tick_14 : decode cX9_tick 14 = .ok (.invokevirtual 127, 3) := by decide +kernel
theorem dX9_tick_17 : decode cX9_tick 17 = .ok (.ifCond .eq 5, 3) := by decide +kernel
theorem dX9_tick_20 : decode cX9_tick 20 = .ok (.iconst 0, 1) := by decide +kernel
theorem dX9_tick_21 : decode cX9_tick 21 = .ok (.ireturn, 1) := by decide +kernel
theorem dX9_tick_22 : decode cX9_tick 22 = .ok (.aload_n 0, 1) := by decide +kernel
theorem dX9_tick_23 : decode cX9_tick 23 = .ok (.invokevirtual 184, 3) := by decide +kernel
theorem dX9_tick_26 : decode cX9_tick 26 = .ok (.aload_n 0, 1) := by decide +kernel
theorem dX9_tick_27 : decode cX9_tick 27 = .ok (.aload_n 0, 1) := by decide +kernel
theorem dX9_tick_28 : decode cX9_tick 28 = .ok (.getfield 23, 3) := by decide +kernel
theorem dX9_tick_31 : decode cX9_tick 31 = .ok (.iload_n 1, 1) := by decide +kernel
theorem dX9_tick_32 : decode cX9_tick 32 = .ok (.iload_n 2, 1) := by decide +kernel
theorem dX9_tick_33 : decode cX9_tick 33 = .ok (.invokevirtual 187, 3) := by decide +kernel
theorem dX9_tick_36 : decode cX9_tick 36 = .ok (.aload_n 0, 1) := by decide +kernel
theorem dX9_tick_37 : decode cX9_tick 37 = .ok (.aload_n 0, 1) := by decide +kernel
theorem dX9_tick_38 : decode cX9_tick 38 = .ok (.getfield 23, 3) := by decide +kernel
theorem dX9_tick_41 : decode cX9_tick 41 = .ok (.invokevirtual 87, 3) := by decide +kernel
theorem dX9_tick_44 : decode cX9_tick 44 = .ok (.ireturn, 1) := by decide +kernel
theorem dX9_draw_0 : decode cX9_draw 0 = .ok (.aload_n 0, 1) := by decide +kernel
theorem dX9_draw_1 : decode cX9_draw 1 = .ok (.iload_n 1, 1) := by decide +kernel
theorem dX9_draw_2 : decode cX9_draw 2 = .ok (.i2l, 1) := by decide +kernel
theorem dX9_draw_3 : decode cX9_draw 3 = .ok (.lconst 1, 1) := by decide +kernel
theorem dX9_draw_4 : decode cX9_draw 4 = .ok (.ldc2_w 191, 3) := by decide +kernel
theorem dX9_draw_7 : decode cX9_draw 7 = .ok (.invokestatic 50, 3) := by decide +kernel
theorem dX9_draw_10 : decode cX9_draw 10 = .ok (.ifCond .eq 7, 3) := by decide +kernel
theorem dX9_draw_13 : decode cX9_draw 13 = .ok (.iconst 0, 1) := by decide +kernel
theorem dX9_draw_14 : decode cX9_draw 14 = .ok (.goto 4, 3) := by decide +kernel
theorem dX9_draw_17 : decode cX9_draw 17 = .ok (.iconst 1, 1) := by decide +kernel
theorem dX9_draw_18 : decode cX9_draw 18 = .ok (.invokevirtual 127, 3) := by decide +kernel
theorem dX9_draw_21 : decode cX9_draw 21 = .ok (.ifCond .eq 5, 3) := by decide +kernel
theorem dX9_draw_24 : decode cX9_draw 24 = .ok (.iconst 0, 1) := by decide +kernel
theorem dX9_draw_25 : decode cX9_draw 25 = .ok (.ireturn, 1) := by decide +kernel
theorem dX9_draw_26 : decode cX9_draw 26 = .ok (.aload_n 0, 1) := by decide +kernel
theorem dX9_draw_27 : decode cX9_draw 27 = .ok (.invokevirtual 184, 3) := by decide +kernel
theorem dX9_draw_30 : decode cX9_draw 30 = .ok (.aload_n 0, 1) := by decide +kernel
theorem dX9_draw_31 : decode cX9_draw 31 = .ok (.aload_n 0, 1) := by decide +kernel
theorem dX9_draw_32 : decode cX9_draw 32 = .ok (.getfield 23, 3) := by decide +kernel
theorem dX9_draw_35 : decode cX9_draw 35 = .ok (.iload_n 1, 1) := by decide +kernel
theorem dX9_draw_36 : decode cX9_draw 36 = .ok (.invokevirtual 104, 3) := by decide +kernel
theorem dX9_draw_39 : decode cX9_draw 39 = .ok (.ireturn, 1) := by decide +kernel
theorem dX9_set_0 : decode cX9_set 0 = .ok (.aload_n 0, 1) := by decide +kernel
theorem dX9_set_1 : decode cX9_set 1 = .ok (.iload_n 1, 1) := by decide +kernel
theorem dX9_set_2 : decode cX9_set 2 = .ok (.iload_n 2, 1) := by decide +kernel
theorem dX9_set_3 : decode cX9_set 3 = .ok (.invokestatic 193, 3) := by decide +kernel
theorem dX9_set_6 : decode cX9_set 6 = .ok (.ifCond .eq 7, 3) := by decide +kernel
theorem dX9_set_9 : decode cX9_set 9 = .ok (.iconst 0, 1) := by decide +kernel
theorem dX9_set_10 : decode cX9_set 10 = .ok (.goto 4, 3) := by decide +kernel
theorem dX9_set_13 : decode cX9_set 13 = .ok (.iconst 1, 1) := by decide +kernel
theorem dX9_set_14 : decode cX9_set 14 = .ok (.invokevirtual 127, 3) := by decide +kernel
theorem dX9_set_17 : decode cX9_set 17 = .ok (.ifCond .eq 5, 3) := by decide +kernel
theorem dX9_set_20 : decode cX9_set 20 = .ok (.iconst 0, 1) := by decide +kernel
theorem dX9_set_21 : decode cX9_set 21 = .ok (.ireturn, 1) := by decide +kernel
theorem dX9_set_22 : decode cX9_set 22 = .ok (.aload_n 0, 1) := by decide +kernel
theorem dX9_set_23 : decode cX9_set 23 = .ok (.invokevirtual 184, 3) := by decide +kernel
theorem dX9_set_26 : decode cX9_set 26 = .ok (.aload_n 0, 1) := by decide +kernel
theorem dX9_set_27 : decode cX9_set 27 = .ok (.getfield 23, 3) := by decide +kernel
theorem dX9_set_30 : decode cX9_set 30 = .ok (.iload_n 1, 1) := by decide +kernel
theorem dX9_set_31 : decode cX9_set 31 = .ok (.iaload, 1) := by decide +kernel
theorem dX9_set_32 : decode cX9_set 32 = .ok (.istore_n 3, 1) := by decide +kernel
theorem dX9_set_33 : decode cX9_set 33 = .ok (.aload_n 0, 1) := by decide +kernel
theorem dX9_set_34 : decode cX9_set 34 = .ok (.getfield 23, 3) := by decide +kernel
theorem dX9_set_37 : decode cX9_set 37 = .ok (.iload_n 1, 1) := by decide +kernel
theorem dX9_set_38 : decode cX9_set 38 = .ok (.iload_n 2, 1) := by decide +kernel
theorem dX9_set_39 : decode cX9_set 39 = .ok (.iastore, 1) := by decide +kernel
theorem dX9_set_40 : decode cX9_set 40 = .ok (.iload_n 3, 1) := by decide +kernel
theorem dX9_set_41 : decode cX9_set 41 = .ok (.ireturn, 1) := by decide +kernel
theorem dX9_setFlue_0 : decode cX9_setFlue 0 = .ok (.aload_n 0, 1) := by decide +kernel
theorem dX9_setFlue_1 : decode cX9_setFlue 1 = .ok (.iload_n 1, 1) := by decide +kernel
theorem dX9_setFlue_2 : decode cX9_setFlue 2 = .ok (.i2l, 1) := by decide +kernel
theorem dX9_setFlue_3 : decode cX9_setFlue 3 = .ok (.lconst 0, 1) := by decide +kernel
theorem dX9_setFlue_4 : decode cX9_setFlue 4 = .ok (.lconst 1, 1) := by decide +kernel
theorem dX9_setFlue_5 : decode cX9_setFlue 5 = .ok (.invokestatic 50, 3) := by decide +kernel
theorem dX9_setFlue_8 : decode cX9_setFlue 8 = .ok (.ifCond .eq 7, 3) := by decide +kernel
theorem dX9_setFlue_11 : decode cX9_setFlue 11 = .ok (.iconst 0, 1) := by decide +kernel
theorem dX9_setFlue_12 : decode cX9_setFlue 12 = .ok (.goto 4, 3) := by decide +kernel
theorem dX9_setFlue_15 : decode cX9_setFlue 15 = .ok (.iconst 1, 1) := by decide +kernel
theorem dX9_setFlue_16 : decode cX9_setFlue 16 = .ok (.invokevirtual 127, 3) := by decide +kernel
theorem dX9_setFlue_19 : decode cX9_setFlue 19 = .ok (.ifCond .eq 5, 3) := by decide +kernel
theorem dX9_setFlue_22 : decode cX9_setFlue 22 = .ok (.iconst 0, 1) := by decide +kernel
theorem dX9_setFlue_23 : decode cX9_setFlue 23 = .ok (.ireturn, 1) := by decide +kernel
theorem dX9_setFlue_24 : decode cX9_setFlue 24 = .ok (.aload_n 0, 1) := by decide +kernel
theorem dX9_setFlue_25 : decode cX9_setFlue 25 = .ok (.invokevirtual 184, 3) := by decide +kernel
theorem dX9_setFlue_28 : decode cX9_setFlue 28 = .ok (.aload_n 0, 1) := by decide +kernel
theorem dX9_setFlue_29 : decode cX9_setFlue 29 = .ok (.aload_n 0, 1) := by decide +kernel
theorem dX9_setFlue_30 : decode cX9_setFlue 30 = .ok (.getfield 23, 3) := by decide +kernel
theorem dX9_setFlue_33 : decode cX9_setFlue 33 = .ok (.iload_n 1, 1) := by decide +kernel
theorem dX9_setFlue_34 : decode cX9_setFlue 34 = .ok (.iload_n 2, 1) := by decide +kernel
theorem dX9_setFlue_35 : decode cX9_setFlue 35 = .ok (.invokevirtual 196, 3) := by decide +kernel
theorem dX9_setFlue_38 : decode cX9_setFlue 38 = .ok (.ireturn, 1) := by decide +kernel
theorem dX9_setDraft_0 : decode cX9_setDraft 0 = .ok (.aload_n 0, 1) := by decide +kernel
theorem dX9_setDraft_1 : decode cX9_setDraft 1 = .ok (.iload_n 1, 1) := by decide +kernel
theorem dX9_setDraft_2 : decode cX9_setDraft 2 = .ok (.i2l, 1) := by decide +kernel
theorem dX9_setDraft_3 : decode cX9_setDraft 3 = .ok (.lconst 0, 1) := by decide +kernel
theorem dX9_setDraft_4 : decode cX9_setDraft 4 = .ok (.lconst 1, 1) := by decide +kernel
theorem dX9_setDraft_5 : decode cX9_setDraft 5 = .ok (.invokestatic 50, 3) := by decide +kernel
theorem dX9_setDraft_8 : decode cX9_setDraft 8 = .ok (.ifCond .ne 7, 3) := by decide +kernel
theorem dX9_setDraft_11 : decode cX9_setDraft 11 = .ok (.iconst 1, 1) := by decide +kernel
theorem dX9_setDraft_12 : decode cX9_setDraft 12 = .ok (.goto 20, 3) := by decide +kernel
theorem dX9_setDraft_15 : decode cX9_setDraft 15 = .ok (.iload_n 2, 1) := by decide +kernel
theorem dX9_setDraft_16 : decode cX9_setDraft 16 = .ok (.i2l, 1) := by decide +kernel
theorem dX9_setDraft_17 : decode cX9_setDraft 17 = .ok (.lconst 0, 1) := by decide +kernel
theorem dX9_setDraft_18 : decode cX9_setDraft 18 = .ok (.ldc2_w 200, 3) := by decide +kernel
theorem dX9_setDraft_21 : decode cX9_setDraft 21 = .ok (.invokestatic 50, 3) := by decide +kernel
theorem dX9_setDraft_24 : decode cX9_setDraft 24 = .ok (.ifCond .ne 7, 3) := by decide +kernel
theorem dX9_setDraft_27 : decode cX9_setDraft 27 = .ok (.iconst 2, 1) := by decide +kernel
theorem dX9_setDraft_28 : decode cX9_setDraft 28 = .ok (.goto 4, 3) := by decide +kernel
theorem dX9_setDraft_31 : decode cX9_setDraft 31 = .ok (.iconst 0, 1) := by decide +kernel
theorem dX9_setDraft_32 : decode cX9_setDraft 32 = .ok (.invokevirtual 127, 3) := by decide +kernel
theorem dX9_setDraft_35 : decode cX9_setDraft 35 = .ok (.ifCond .eq 5, 3) := by decide +kernel
theorem dX9_setDraft_38 : decode cX9_setDraft 38 = .ok (.iconst 0, 1) := by decide +kernel
theorem dX9_setDraft_39 : decode cX9_setDraft 39 = .ok (.ireturn, 1) := by decide +kernel
theorem dX9_setDraft_40 : decode cX9_setDraft 40 = .ok (.aload_n 0, 1) := by decide +kernel
theorem dX9_setDraft_41 : decode cX9_setDraft 41 = .ok (.invokevirtual 184, 3) := by decide +kernel
theorem dX9_setDraft_44 : decode cX9_setDraft 44 = .ok (.aload_n 0, 1) := by decide +kernel
theorem dX9_setDraft_45 : decode cX9_setDraft 45 = .ok (.getfield 23, 3) := by decide +kernel
theorem dX9_setDraft_48 : decode cX9_setDraft 48 = .ok (.bipush 18, 2) := by decide +kernel
theorem dX9_setDraft_50 : decode cX9_setDraft 50 = .ok (.iload_n 1, 1) := by decide +kernel
theorem dX9_setDraft_51 : decode cX9_setDraft 51 = .ok (.iadd, 1) := by decide +kernel
theorem dX9_setDraft_52 : decode cX9_setDraft 52 = .ok (.iaload, 1) := by decide +kernel
theorem dX9_setDraft_53 : decode cX9_setDraft 53 = .ok (.istore_n 3, 1) := by decide +kernel
theorem dX9_setDraft_54 : decode cX9_setDraft 54 = .ok (.aload_n 0, 1) := by decide +kernel
theorem dX9_setDraft_55 : decode cX9_setDraft 55 = .ok (.getfield 23, 3) := by decide +kernel
theorem dX9_setDraft_58 : decode cX9_setDraft 58 = .ok (.bipush 18, 2) := by decide +kernel
theorem dX9_setDraft_60 : decode cX9_setDraft 60 = .ok (.iload_n 1, 1) := by decide +kernel
theorem dX9_setDraft_61 : decode cX9_setDraft 61 = .ok (.iadd, 1) := by decide +kernel
theorem dX9_setDraft_62 : decode cX9_setDraft 62 = .ok (.iload_n 2, 1) := by decide +kernel
theorem dX9_setDraft_63 : decode cX9_setDraft 63 = .ok (.iastore, 1) := by decide +kernel
theorem dX9_setDraft_64 : decode cX9_setDraft 64 = .ok (.iload_n 3, 1) := by decide +kernel
theorem dX9_setDraft_65 : decode cX9_setDraft 65 = .ok (.ireturn, 1) := by decide +kernel
theorem dX9_lock_0 : decode cX9_lock 0 = .ok (.aload_n 0, 1) := by decide +kernel
theorem dX9_lock_1 : decode cX9_lock 1 = .ok (.aload_n 0, 1) := by decide +kernel
theorem dX9_lock_2 : decode cX9_lock 2 = .ok (.iload_n 1, 1) := by decide +kernel
theorem dX9_lock_3 : decode cX9_lock 3 = .ok (.invokevirtual 168, 3) := by decide +kernel
theorem dX9_lock_6 : decode cX9_lock 6 = .ok (.ifCond .ne 7, 3) := by decide +kernel
theorem dX9_lock_9 : decode cX9_lock 9 = .ok (.iconst 1, 1) := by decide +kernel
theorem dX9_lock_10 : decode cX9_lock 10 = .ok (.goto 23, 3) := by decide +kernel
theorem dX9_lock_13 : decode cX9_lock 13 = .ok (.aload_n 0, 1) := by decide +kernel
theorem dX9_lock_14 : decode cX9_lock 14 = .ok (.getfield 23, 3) := by decide +kernel
theorem dX9_lock_17 : decode cX9_lock 17 = .ok (.iload_n 1, 1) := by decide +kernel
theorem dX9_lock_18 : decode cX9_lock 18 = .ok (.invokestatic 68, 3) := by decide +kernel
theorem dX9_lock_21 : decode cX9_lock 21 = .ok (.iconst 2, 1) := by decide +kernel
theorem dX9_lock_22 : decode cX9_lock 22 = .ok (.iadd, 1) := by decide +kernel
theorem dX9_lock_23 : decode cX9_lock 23 = .ok (.iaload, 1) := by decide +kernel
theorem dX9_lock_24 : decode cX9_lock 24 = .ok (.iconst 4, 1) := by decide +kernel
theorem dX9_lock_25 : decode cX9_lock 25 = .ok (.if_icmp .ne 7, 3) := by decide +kernel
theorem dX9_lock_28 : decode cX9_lock 28 = .ok (.iconst 2, 1) := by decide +kernel
theorem dX9_lock_29 : decode cX9_lock 29 = .ok (.goto 4, 3) := by decide +kernel
theorem dX9_lock_32 : decode cX9_lock 32 = .ok (.iconst 0, 1) := by decide +kernel
theorem dX9_lock_33 : decode cX9_lock 33 = .ok (.invokevirtual 127, 3) := by decide +kernel
theorem dX9_lock_36 : decode cX9_lock 36 = .ok (.ifCond .eq 5, 3) := by decide +kernel
theorem dX9_lock_39 : decode cX9_lock 39 = .ok (.iconst 0, 1) := by decide +kernel
theorem dX9_lock_40 : decode cX9_lock 40 = .ok (.ireturn, 1) := by decide +kernel
theorem dX9_lock_41 : decode cX9_lock 41 = .ok (.aload_n 0, 1) := by decide +kernel
theorem dX9_lock_42 : decode cX9_lock 42 = .ok (.invokevirtual 184, 3) := by decide +kernel
theorem dX9_lock_45 : decode cX9_lock 45 = .ok (.aload_n 0, 1) := by decide +kernel
theorem dX9_lock_46 : decode cX9_lock 46 = .ok (.getfield 23, 3) := by decide +kernel
theorem dX9_lock_49 : decode cX9_lock 49 = .ok (.iload_n 1, 1) := by decide +kernel
theorem dX9_lock_50 : decode cX9_lock 50 = .ok (.invokestatic 68, 3) := by decide +kernel
theorem dX9_lock_53 : decode cX9_lock 53 = .ok (.iconst 2, 1) := by decide +kernel
theorem dX9_lock_54 : decode cX9_lock 54 = .ok (.iadd, 1) := by decide +kernel
theorem dX9_lock_55 : decode cX9_lock 55 = .ok (.iaload, 1) := by decide +kernel
theorem dX9_lock_56 : decode cX9_lock 56 = .ok (.istore_n 2, 1) := by decide +kernel
theorem dX9_lock_57 : decode cX9_lock 57 = .ok (.aload_n 0, 1) := by decide +kernel
theorem dX9_lock_58 : decode cX9_lock 58 = .ok (.getfield 23, 3) := by decide +kernel
theorem dX9_lock_61 : decode cX9_lock 61 = .ok (.iload_n 1, 1) := by decide +kernel
theorem dX9_lock_62 : decode cX9_lock 62 = .ok (.iconst 4, 1) := by decide +kernel
theorem dX9_lock_63 : decode cX9_lock 63 = .ok (.invokestatic 202, 3) := by decide +kernel
theorem dX9_lock_66 : decode cX9_lock 66 = .ok (.iload_n 2, 1) := by decide +kernel
theorem dX9_lock_67 : decode cX9_lock 67 = .ok (.ireturn, 1) := by decide +kernel
theorem dX9_unlock_0 : decode cX9_unlock 0 = .ok (.aload_n 0, 1) := by decide +kernel
theorem dX9_unlock_1 : decode cX9_unlock 1 = .ok (.aload_n 0, 1) := by decide +kernel
theorem dX9_unlock_2 : decode cX9_unlock 2 = .ok (.iload_n 1, 1) := by decide +kernel
theorem dX9_unlock_3 : decode cX9_unlock 3 = .ok (.invokevirtual 168, 3) := by decide +kernel
theorem dX9_unlock_6 : decode cX9_unlock 6 = .ok (.ifCond .ne 7, 3) := by decide +kernel
theorem dX9_unlock_9 : decode cX9_unlock 9 = .ok (.iconst 1, 1) := by decide +kernel
theorem dX9_unlock_10 : decode cX9_unlock 10 = .ok (.goto 23, 3) := by decide +kernel
theorem dX9_unlock_13 : decode cX9_unlock 13 = .ok (.aload_n 0, 1) := by decide +kernel
theorem dX9_unlock_14 : decode cX9_unlock 14 = .ok (.getfield 23, 3) := by decide +kernel
theorem dX9_unlock_17 : decode cX9_unlock 17 = .ok (.iload_n 1, 1) := by decide +kernel
theorem dX9_unlock_18 : decode cX9_unlock 18 = .ok (.invokestatic 68, 3) := by decide +kernel
theorem dX9_unlock_21 : decode cX9_unlock 21 = .ok (.iconst 2, 1) := by decide +kernel
theorem dX9_unlock_22 : decode cX9_unlock 22 = .ok (.iadd, 1) := by decide +kernel
theorem dX9_unlock_23 : decode cX9_unlock 23 = .ok (.iaload, 1) := by decide +kernel
theorem dX9_unlock_24 : decode cX9_unlock 24 = .ok (.iconst 4, 1) := by decide +kernel
theorem dX9_unlock_25 : decode cX9_unlock 25 = .ok (.if_icmp .eq 7, 3) := by decide +kernel
theorem dX9_unlock_28 : decode cX9_unlock 28 = .ok (.iconst 2, 1) := by decide +kernel
theorem dX9_unlock_29 : decode cX9_unlock 29 = .ok (.goto 4, 3) := by decide +kernel
theorem dX9_unlock_32 : decode cX9_unlock 32 = .ok (.iconst 0, 1) := by decide +kernel
theorem dX9_unlock_33 : decode cX9_unlock 33 = .ok (.invokevirtual 127, 3) := by decide +kernel
theorem dX9_unlock_36 : decode cX9_unlock 36 = .ok (.ifCond .eq 5, 3) := by decide +kernel
theorem dX9_unlock_39 : decode cX9_unlock 39 = .ok (.iconst 0, 1) := by decide +kernel
theorem dX9_unlock_40 : decode cX9_unlock 40 = .ok (.ireturn, 1) := by decide +kernel
theorem dX9_unlock_41 : decode cX9_unlock 41 = .ok (.aload_n 0, 1) := by decide +kernel
theorem dX9_unlock_42 : decode cX9_unlock 42 = .ok (.invokevirtual 184, 3) := by decide +kernel
theorem dX9_unlock_45 : decode cX9_unlock 45 = .ok (.aload_n 0, 1) := by decide +kernel
theorem dX9_unlock_46 : decode cX9_unlock 46 = .ok (.getfield 23, 3) := by decide +kernel
theorem dX9_unlock_49 : decode cX9_unlock 49 = .ok (.iload_n 1, 1) := by decide +kernel
theorem dX9_unlock_50 : decode cX9_unlock 50 = .ok (.iconst 0, 1) := by decide +kernel
theorem dX9_unlock_51 : decode cX9_unlock 51 = .ok (.invokestatic 202, 3) := by decide +kernel
theorem dX9_unlock_54 : decode cX9_unlock 54 = .ok (.aload_n 0, 1) := by decide +kernel
theorem dX9_unlock_55 : decode cX9_unlock 55 = .ok (.aload_n 0, 1) := by decide +kernel
theorem dX9_unlock_56 : decode cX9_unlock 56 = .ok (.getfield 23, 3) := by decide +kernel
theorem dX9_unlock_59 : decode cX9_unlock 59 = .ok (.iconst 4, 1) := by decide +kernel
theorem dX9_unlock_60 : decode cX9_unlock 60 = .ok (.invokevirtual 165, 3) := by decide +kernel
theorem dX9_unlock_63 : decode cX9_unlock 63 = .ok (.ireturn, 1) := by decide +kernel
theorem dX9_putOff_0 : decode cX9_putOff 0 = .ok (.aload_n 0, 1) := by decide +kernel
theorem dX9_putOff_1 : decode cX9_putOff 1 = .ok (.aload_n 0, 1) := by decide +kernel
theorem dX9_putOff_2 : decode cX9_putOff 2 = .ok (.iload_n 1, 1) := by decide +kernel
theorem dX9_putOff_3 : decode cX9_putOff 3 = .ok (.invokevirtual 168, 3) := by decide +kernel
theorem dX9_putOff_6 : decode cX9_putOff 6 = .ok (.ifCond .ne 7, 3) := by decide +kernel
theorem dX9_putOff_9 : decode cX9_putOff 9 = .ok (.iconst 1, 1) := by decide +kernel
theorem dX9_putOff_10 : decode cX9_putOff 10 = .ok (.goto 23, 3) := by decide +kernel
theorem dX9_putOff_13 : decode cX9_putOff 13 = .ok (.aload_n 0, 1) := by decide +kernel
theorem dX9_putOff_14 : decode cX9_putOff 14 = .ok (.getfield 23, 3) := by decide +kernel
theorem dX9_putOff_17 : decode cX9_putOff 17 = .ok (.iload_n 1, 1) := by decide +kernel
theorem dX9_putOff_18 : decode cX9_putOff 18 = .ok (.invokestatic 68, 3) := by decide +kernel
theorem dX9_putOff_21 : decode cX9_putOff 21 = .ok (.iconst 2, 1) := by decide +kernel
theorem dX9_putOff_22 : decode cX9_putOff 22 = .ok (.iadd, 1) := by decide +kernel
theorem dX9_putOff_23 : decode cX9_putOff 23 = .ok (.iaload, 1) := by decide +kernel
theorem dX9_putOff_24 : decode cX9_putOff 24 = .ok (.iconst 3, 1) := by decide +kernel
theorem dX9_putOff_25 : decode cX9_putOff 25 = .ok (.if_icmp .eq 7, 3) := by decide +kernel
theorem dX9_putOff_28 : decode cX9_putOff 28 = .ok (.iconst 2, 1) := by decide +kernel
theorem dX9_putOff_29 : decode cX9_putOff 29 = .ok (.goto 4, 3) := by decide +kernel
theorem dX9_putOff_32 : decode cX9_putOff 32 = .ok (.iconst 0, 1) := by decide +kernel
theorem dX9_putOff_33 : decode cX9_putOff 33 = .ok (.invokevirtual 127, 3) := by decide +kernel
theorem dX9_putOff_36 : decode cX9_putOff 36 = .ok (.ifCond .eq 5, 3) := by decide +kernel
theorem dX9_putOff_39 : decode cX9_putOff 39 = .ok (.iconst 0, 1) := by decide +kernel
theorem dX9_putOff_40 : decode cX9_putOff 40 = .ok (.ireturn, 1) := by decide +kernel
theorem dX9_putOff_41 : decode cX9_putOff 41 = .ok (.aload_n 0, 1) := by decide +kernel
theorem dX9_putOff_42 : decode cX9_putOff 42 = .ok (.invokevirtual 184, 3) := by decide +kernel
theorem dX9_putOff_45 : decode cX9_putOff 45 = .ok (.aload_n 0, 1) := by decide +kernel
theorem dX9_putOff_46 : decode cX9_putOff 46 = .ok (.getfield 23, 3) := by decide +kernel
theorem dX9_putOff_49 : decode cX9_putOff 49 = .ok (.iload_n 1, 1) := by decide +kernel
theorem dX9_putOff_50 : decode cX9_putOff 50 = .ok (.iconst 0, 1) := by decide +kernel
theorem dX9_putOff_51 : decode cX9_putOff 51 = .ok (.invokestatic 202, 3) := by decide +kernel
theorem dX9_putOff_54 : decode cX9_putOff 54 = .ok (.aload_n 0, 1) := by decide +kernel
theorem dX9_putOff_55 : decode cX9_putOff 55 = .ok (.getfield 23, 3) := by decide +kernel
theorem dX9_putOff_58 : decode cX9_putOff 58 = .ok (.iload_n 1, 1) := by decide +kernel
theorem dX9_putOff_59 : decode cX9_putOff 59 = .ok (.invokestatic 68, 3) := by decide +kernel
theorem dX9_putOff_62 : decode cX9_putOff 62 = .ok (.bipush 6, 2) := by decide +kernel
theorem dX9_putOff_64 : decode cX9_putOff 64 = .ok (.iadd, 1) := by decide +kernel
theorem dX9_putOff_65 : decode cX9_putOff 65 = .ok (.iaload, 1) := by decide +kernel
theorem dX9_putOff_66 : decode cX9_putOff 66 = .ok (.ireturn, 1) := by decide +kernel
theorem dX9_undo_0 : decode cX9_undo 0 = .ok (.aload_n 0, 1) := by decide +kernel
theorem dX9_undo_1 : decode cX9_undo 1 = .ok (.aload_n 0, 1) := by decide +kernel
theorem dX9_undo_2 : decode cX9_undo 2 = .ok (.getfield 160, 3) := by decide +kernel
theorem dX9_undo_5 : decode cX9_undo 5 = .ok (.ifCond .ne 7, 3) := by decide +kernel
theorem dX9_undo_8 : decode cX9_undo 8 = .ok (.iconst 1, 1) := by decide +kernel
theorem dX9_undo_9 : decode cX9_undo 9 = .ok (.goto 4, 3) := by decide +kernel
theorem dX9_undo_12 : decode cX9_undo 12 = .ok (.iconst 0, 1) := by decide +kernel
theorem dX9_undo_13 : decode cX9_undo 13 = .ok (.invokevirtual 127, 3) := by decide +kernel
theorem dX9_undo_16 : decode cX9_undo 16 = .ok (.ifCond .eq 5, 3) := by decide +kernel
theorem dX9_undo_19 : decode cX9_undo 19 = .ok (.iconst 0, 1) := by decide +kernel
theorem dX9_undo_20 : decode cX9_undo 20 = .ok (.ireturn, 1) := by decide +kernel
theorem dX9_undo_21 : decode cX9_undo 21 = .ok (.aload_n 0, 1) := by decide +kernel
theorem dX9_undo_22 : decode cX9_undo 22 = .ok (.dup, 1) := by decide +kernel
theorem dX9_undo_23 : decode cX9_undo 23 = .ok (.getfield 160, 3) := by decide +kernel
theorem dX9_undo_26 : decode cX9_undo 26 = .ok (.iconst 1, 1) := by decide +kernel
theorem dX9_undo_27 : decode cX9_undo 27 = .ok (.isub, 1) := by decide +kernel
theorem dX9_undo_28 : decode cX9_undo 28 = .ok (.putfield 160, 3) := by decide +kernel
theorem dX9_undo_31 : decode cX9_undo 31 = .ok (.aload_n 0, 1) := by decide +kernel
theorem dX9_undo_32 : decode cX9_undo 32 = .ok (.getfield 29, 3) := by decide +kernel
theorem dX9_undo_35 : decode cX9_undo 35 = .ok (.bipush 65, 2) := by decide +kernel
theorem dX9_undo_37 : decode cX9_undo 37 = .ok (.aload_n 0, 1) := by decide +kernel
theorem dX9_undo_38 : decode cX9_undo 38 = .ok (.getfield 160, 3) := by decide +kernel
theorem dX9_undo_41 : decode cX9_undo 41 = .ok (.imul, 1) := by decide +kernel
theorem dX9_undo_42 : decode cX9_undo 42 = .ok (.aload_n 0, 1) := by decide +kernel
theorem dX9_undo_43 : decode cX9_undo 43 = .ok (.getfield 23, 3) := by decide +kernel
theorem dX9_undo_46 : decode cX9_undo 46 = .ok (.iconst 0, 1) := by decide +kernel
theorem dX9_undo_47 : decode cX9_undo 47 = .ok (.invokestatic 156, 3) := by decide +kernel
theorem dX9_undo_50 : decode cX9_undo 50 = .ok (.aload_n 0, 1) := by decide +kernel
theorem dX9_undo_51 : decode cX9_undo 51 = .ok (.getfield 160, 3) := by decide +kernel
theorem dX9_undo_54 : decode cX9_undo 54 = .ok (.ireturn, 1) := by decide +kernel
theorem dX9_next_0 : decode cX9_next 0 = .ok (.aload_n 0, 1) := by decide +kernel
theorem dX9_next_1 : decode cX9_next 1 = .ok (.iconst 0, 1) := by decide +kernel
theorem dX9_next_2 : decode cX9_next 2 = .ok (.putfield 43, 3) := by decide +kernel
theorem dX9_next_5 : decode cX9_next 5 = .ok (.aload_n 0, 1) := by decide +kernel
theorem dX9_next_6 : decode cX9_next 6 = .ok (.aload_n 0, 1) := by decide +kernel
theorem dX9_next_7 : decode cX9_next 7 = .ok (.getfield 23, 3) := by decide +kernel
theorem dX9_next_10 : decode cX9_next 10 = .ok (.invokevirtual 91, 3) := by decide +kernel
theorem dX9_next_13 : decode cX9_next 13 = .ok (.ireturn, 1) := by decide +kernel
theorem dX9_whyNot_0 : decode cX9_whyNot 0 = .ok (.aload_n 0, 1) := by decide +kernel
theorem dX9_whyNot_1 : decode cX9_whyNot 1 = .ok (.aload_n 0, 1) := by decide +kernel
theorem dX9_whyNot_2 : decode cX9_whyNot 2 = .ok (.iload_n 1, 1) := by decide +kernel
theorem dX9_whyNot_3 : decode cX9_whyNot 3 = .ok (.invokevirtual 168, 3) := by decide +kernel
theorem dX9_whyNot_6 : decode cX9_whyNot 6 = .ok (.ifCond .eq 7, 3) := by decide +kernel
theorem dX9_whyNot_9 : decode cX9_whyNot 9 = .ok (.iconst 0, 1) := by decide +kernel
theorem dX9_whyNot_10 : decode cX9_whyNot 10 = .ok (.goto 4, 3) := by decide +kernel
theorem dX9_whyNot_13 : decode cX9_whyNot 13 = .ok (.iconst 1, 1) := by decide +kernel
theorem dX9_whyNot_14 : decode cX9_whyNot 14 = .ok (.invokevirtual 127, 3) := by decide +kernel
theorem dX9_whyNot_17 : decode cX9_whyNot 17 = .ok (.ifCond .eq 5, 3) := by decide +kernel
theorem dX9_whyNot_20 : decode cX9_whyNot 20 = .ok (.iconst 0, 1) := by decide +kernel
theorem dX9_whyNot_21 : decode cX9_whyNot 21 = .ok (.ireturn, 1) := by decide +kernel
theorem dX9_whyNot_22 : decode cX9_whyNot 22 = .ok (.aload_n 0, 1) := by decide +kernel
theorem dX9_whyNot_23 : decode cX9_whyNot 23 = .ok (.getfield 23, 3) := by decide +kernel
theorem dX9_whyNot_26 : decode cX9_whyNot 26 = .ok (.iload_n 1, 1) := by decide +kernel
theorem dX9_whyNot_27 : decode cX9_whyNot 27 = .ok (.invokestatic 68, 3) := by decide +kernel
theorem dX9_whyNot_30 : decode cX9_whyNot 30 = .ok (.iconst 2, 1) := by decide +kernel
theorem dX9_whyNot_31 : decode cX9_whyNot 31 = .ok (.iadd, 1) := by decide +kernel
theorem dX9_whyNot_32 : decode cX9_whyNot 32 = .ok (.iaload, 1) := by decide +kernel
theorem dX9_whyNot_33 : decode cX9_whyNot 33 = .ok (.istore_n 2, 1) := by decide +kernel
theorem dX9_whyNot_34 : decode cX9_whyNot 34 = .ok (.iload_n 2, 1) := by decide +kernel
theorem dX9_whyNot_35 : decode cX9_whyNot 35 = .ok (.invokestatic 72, 3) := by decide +kernel
theorem dX9_whyNot_38 : decode cX9_whyNot 38 = .ok (.ifCond .eq 7, 3) := by decide +kernel
theorem dX9_whyNot_41 : decode cX9_whyNot 41 = .ok (.iconst 1, 1) := by decide +kernel
theorem dX9_whyNot_42 : decode cX9_whyNot 42 = .ok (.goto 55, 3) := by decide +kernel
theorem dX9_whyNot_45 : decode cX9_whyNot 45 = .ok (.iload_n 2, 1) := by decide +kernel
theorem dX9_whyNot_46 : decode cX9_whyNot 46 = .ok (.iconst 4, 1) := by decide +kernel
theorem dX9_whyNot_47 : decode cX9_whyNot 47 = .ok (.if_icmp .ne 7, 3) := by decide +kernel
theorem dX9_whyNot_50 : decode cX9_whyNot 50 = .ok (.iconst 2, 1) := by decide +kernel
theorem dX9_whyNot_51 : decode cX9_whyNot 51 = .ok (.goto 46, 3) := by decide +kernel
theorem dX9_whyNot_54 : decode cX9_whyNot 54 = .ok (.aload_n 0, 1) := by decide +kernel
theorem dX9_whyNot_55 : decode cX9_whyNot 55 = .ok (.aload_n 0, 1) := by decide +kernel
theorem dX9_whyNot_56 : decode cX9_whyNot 56 = .ok (.getfield 23, 3) := by decide +kernel
theorem dX9_whyNot_59 : decode cX9_whyNot 59 = .ok (.iload_n 1, 1) := by decide +kernel
theorem dX9_whyNot_60 : decode cX9_whyNot 60 = .ok (.invokevirtual 83, 3) := by decide +kernel
theorem dX9_whyNot_63 : decode cX9_whyNot 63 = .ok (.ifCond .eq 7, 3) := by decide +kernel
theorem dX9_whyNot_66 : decode cX9_whyNot 66 = .ok (.iconst 0, 1) := by decide +kernel
theorem dX9_whyNot_67 : decode cX9_whyNot 67 = .ok (.goto 30, 3) := by decide +kernel
theorem dX9_whyNot_70 : decode cX9_whyNot 70 = .ok (.aload_n 0, 1) := by decide +kernel
theorem dX9_whyNot_71 : decode cX9_whyNot 71 = .ok (.getfield 23, 3) := by decide +kernel
theorem dX9_whyNot_74 : decode cX9_whyNot 74 = .ok (.bipush 20, 2) := by decide +kernel
theorem dX9_whyNot_76 : decode cX9_whyNot 76 = .ok (.aload_n 0, 1) := by decide +kernel
theorem dX9_whyNot_77 : decode cX9_whyNot 77 = .ok (.getfield 23, 3) := by decide +kernel
theorem dX9_whyNot_80 : decode cX9_whyNot 80 = .ok (.iload_n 1, 1) := by decide +kernel
theorem dX9_whyNot_81 : decode cX9_whyNot 81 = .ok (.invokestatic 68, 3) := by decide +kernel
theorem dX9_whyNot_84 : decode cX9_whyNot 84 = .ok (.iconst 1, 1) := by decide +kernel
theorem dX9_whyNot_85 : decode cX9_whyNot 85 = .ok (.iadd, 1) := by decide +kernel
theorem dX9_whyNot_86 : decode cX9_whyNot 86 = .ok (.iaload, 1) := by decide +kernel
theorem dX9_whyNot_87 : decode cX9_whyNot 87 = .ok (.iadd, 1) := by decide +kernel
theorem dX9_whyNot_88 : decode cX9_whyNot 88 = .ok (.iaload, 1) := by decide +kernel
theorem dX9_whyNot_89 : decode cX9_whyNot 89 = .ok (.ifCond .ne 7, 3) := by decide +kernel
theorem dX9_whyNot_92 : decode cX9_whyNot 92 = .ok (.iconst 3, 1) := by decide +kernel
theorem dX9_whyNot_93 : decode cX9_whyNot 93 = .ok (.goto 4, 3) := by decide +kernel
theorem dX9_whyNot_96 : decode cX9_whyNot 96 = .ok (.iconst 4, 1) := by decide +kernel
theorem dX9_whyNot_97 : decode cX9_whyNot 97 = .ok (.ireturn, 1) := by decide +kernel
theorem dX9_smallestSet_0 : decode cX9_smallestSet 0 = .ok (.aload_n 0, 1) := by decide +kernel
theorem dX9_smallestSet_1 : decode cX9_smallestSet 1 = .ok (.iload_n 1, 1) := by decide +kernel
theorem dX9_smallestSet_2 : decode cX9_smallestSet 2 = .ok (.i2l, 1) := by decide +kernel
theorem dX9_smallestSet_3 : decode cX9_smallestSet 3 = .ok (.lconst 1, 1) := by decide +kernel
theorem dX9_smallestSet_4 : decode cX9_smallestSet 4 = .ok (.ldc2_w 205, 3) := by decide +kernel
theorem dX9_smallestSet_7 : decode cX9_smallestSet 7 = .ok (.invokestatic 50, 3) := by decide +kernel
theorem dX9_smallestSet_10 : decode cX9_smallestSet 10 = .ok (.ifCond .eq 7, 3) := by decide +kernel
theorem dX9_smallestSet_13 : decode cX9_smallestSet 13 = .ok (.iconst 0, 1) := by decide +kernel
theorem dX9_smallestSet_14 : decode cX9_smallestSet 14 = .ok (.goto 4, 3) := by decide +kernel
theorem dX9_smallestSet_17 : decode cX9_smallestSet 17 = .ok (.iconst 1, 1) := by decide +kernel
theorem dX9_smallestSet_18 : decode cX9_smallestSet 18 = .ok (.invokevirtual 127, 3) := by decide +kernel
theorem dX9_smallestSet_21 : decode cX9_smallestSet 21 = .ok (.ifCond .eq 5, 3) := by decide +kernel
theorem dX9_smallestSet_24 : decode cX9_smallestSet 24 = .ok (.iconst 0, 1) := by decide +kernel
theorem dX9_smallestSet_25 : decode cX9_smallestSet 25 = .ok (.ireturn, 1) := by decide +kernel
theorem dX9_smallestSet_26 : decode cX9_smallestSet 26 = .ok (.bipush (-9), 2) := by decide +kernel
theorem dX9_smallestSet_28 : decode cX9_smallestSet 28 = .ok (.istore_n 3, 1) := by decide +kernel
theorem dX9_smallestSet_29 : decode cX9_smallestSet 29 = .ok (.iconst 0, 1) := by decide +kernel
theorem dX9_smallestSet_30 : decode cX9_smallestSet 30 = .ok (.istore 4, 2) := by decide +kernel
theorem dX9_smallestSet_32 : decode cX9_smallestSet 32 = .ok (.iconst 0, 1) := by decide +kernel
theorem dX9_smallestSet_33 : decode cX9_smallestSet 33 = .ok (.istore 5, 2) := by decide +kernel
theorem dX9_smallestSet_35 : decode cX9_smallestSet 35 = .ok (.iconst 1, 1) := by decide +kernel
theorem dX9_smallestSet_36 : decode cX9_smallestSet 36 = .ok (.istore 6, 2) := by decide +kernel
theorem dX9_smallestSet_38 : decode cX9_smallestSet 38 = .ok (.iload 6, 2) := by decide +kernel
theorem dX9_smallestSet_40 : decode cX9_smallestSet 40 = .ok (.iconst 1, 1) := by decide +kernel
theorem dX9_smallestSet_41 : decode cX9_smallestSet 41 = .ok (.aload_n 0, 1) := by decide +kernel
theorem dX9_smallestSet_42 : decode cX9_smallestSet 42 = .ok (.getfield 13, 3) := by decide +kernel
theorem dX9_smallestSet_45 : decode cX9_smallestSet 45 = .ok (.ishl, 1) := by decide +kernel
theorem dX9_smallestSet_46 : decode cX9_smallestSet 46 = .ok (.if_icmp .ge 235, 3) := by decide +kernel
theorem dX9_smallestSet_49 : decode cX9_smallestSet 49 = .ok (.iconst 0, 1) := by decide +kernel
theorem dX9_smallestSet_50 : decode cX9_smallestSet 50 = .ok (.istore 7, 2) := by decide +kernel
theorem dX9_smallestSet_52 : decode cX9_smallestSet 52 = .ok (.iconst 0, 1) := by decide +kernel
theorem dX9_smallestSet_53 : decode cX9_smallestSet 53 = .ok (.istore 8, 2) := by decide +kernel
theorem dX9_smallestSet_55 : decode cX9_smallestSet 55 = .ok (.iconst 0, 1) := by decide +kernel
theorem dX9_smallestSet_56 : decode cX9_smallestSet 56 = .ok (.istore 9, 2) := by decide +kernel
theorem dX9_smallestSet_58 : decode cX9_smallestSet 58 = .ok (.iconst 0, 1) := by decide +kernel
theorem dX9_smallestSet_59 : decode cX9_smallestSet 59 = .ok (.istore 10, 2) := by decide +kernel
theorem dX9_smallestSet_61 : decode cX9_smallestSet 61 = .ok (.iload 10, 2) := by decide +kernel
theorem dX9_smallestSet_63 : decode cX9_smallestSet 63 = .ok (.aload_n 0, 1) := by decide +kernel
theorem dX9_smallestSet_64 : decode cX9_smallestSet 64 = .ok (.getfield 13, 3) := by decide +kernel
theorem dX9_smallestSet_67 : decode cX9_smallestSet 67 = .ok (.if_icmp .ge 121, 3) := by decide +kernel
theorem dX9_smallestSet_70 : decode cX9_smallestSet 70 = .ok (.iload 6, 2) := by decide +kernel
theorem dX9_smallestSet_72 : decode cX9_smallestSet 72 = .ok (.iload 10, 2) := by decide +kernel
theorem dX9_smallestSet_74 : decode cX9_smallestSet 74 = .ok (.ishr, 1) := by decide +kernel
theorem dX9_smallestSet_75 : decode cX9_smallestSet 75 = .ok (.iconst 1, 1) := by decide +kernel
theorem dX9_smallestSet_76 : decode cX9_smallestSet 76 = .ok (.iand, 1) := by decide +kernel
theorem dX9_smallestSet_77 : decode cX9_smallestSet 77 = .ok (.iconst 1, 1) := by decide +kernel
theorem dX9_smallestSet_78 : decode cX9_smallestSet 78 = .ok (.if_icmp .ne 7, 3) := by decide +kernel
theorem dX9_smallestSet_81 : decode cX9_smallestSet 81 = .ok (.iconst 1, 1) := by decide +kernel
theorem dX9_smallestSet_82 : decode cX9_smallestSet 82 = .ok (.goto 4, 3) := by decide +kernel
theorem dX9_smallestSet_85 : decode cX9_smallestSet 85 = .ok (.iconst 0, 1) := by decide +kernel
theorem dX9_smallestSet_86 : decode cX9_smallestSet 86 = .ok (.istore 11, 2) := by decide +kernel
theorem dX9_smallestSet_88 : decode cX9_smallestSet 88 = .ok (.iload 7, 2) := by decide +kernel
theorem dX9_smallestSet_90 : decode cX9_smallestSet 90 = .ok (.iload 11, 2) := by decide +kernel
theorem dX9_smallestSet_92 : decode cX9_smallestSet 92 = .ok (.ifCond .eq 7, 3) := by decide +kernel
theorem dX9_smallestSet_95 : decode cX9_smallestSet 95 = .ok (.iconst 1, 1) := by decide +kernel
theorem dX9_smallestSet_96 : decode cX9_smallestSet 96 = .ok (.goto 4, 3) := by decide +kernel
theorem dX9_smallestSet_99 : decode cX9_smallestSet 99 = .ok (.iconst 0, 1) := by decide +kernel
theorem dX9_smallestSet_100 : decode cX9_smallestSet 100 = .ok (.iadd, 1) := by decide +kernel
theorem dX9_smallestSet_101 : decode cX9_smallestSet 101 = .ok (.istore 7, 2) := by decide +kernel
theorem dX9_smallestSet_103 : decode cX9_smallestSet 103 = .ok (.iload 8, 2) := by decide +kernel
theorem dX9_smallestSet_105 : decode cX9_smallestSet 105 = .ok (.iload 11, 2) := by decide +kernel
theorem dX9_smallestSet_107 : decode cX9_smallestSet 107 = .ok (.ifCond .eq 31, 3) := by decide +kernel
theorem dX9_smallestSet_110 : decode cX9_smallestSet 110 = .ok (.aload_n 0, 1) := by decide +kernel
theorem dX9_smallestSet_111 : decode cX9_smallestSet 111 = .ok (.getfield 23, 3) := by decide +kernel
theorem dX9_smallestSet_114 : decode cX9_smallestSet 114 = .ok (.iload 10, 2) := by decide +kernel
theorem dX9_smallestSet_116 : decode cX9_smallestSet 116 = .ok (.invokestatic 68, 3) := by decide +kernel
theorem dX9_smallestSet_119 : decode cX9_smallestSet 119 = .ok (.iconst 1, 1) := by decide +kernel
theorem dX9_smallestSet_120 : decode cX9_smallestSet 120 = .ok (.iadd, 1) := by decide +kernel
theorem dX9_smallestSet_121 : decode cX9_smallestSet 121 = .ok (.iaload, 1) := by decide +kernel
theorem dX9_smallestSet_122 : decode cX9_smallestSet 122 = .ok (.ifCond .ne 16, 3) := by decide +kernel
theorem dX9_smallestSet_125 : decode cX9_smallestSet 125 = .ok (.aload_n 0, 1) := by decide +kernel
theorem dX9_smallestSet_126 : decode cX9_smallestSet 126 = .ok (.getfield 23, 3) := by decide +kernel
theorem dX9_smallestSet_129 : decode cX9_smallestSet 129 = .ok (.iload 10, 2) := by decide +kernel
theorem dX9_smallestSet_131 : decode cX9_smallestSet 131 = .ok (.invokestatic 68, 3) := by decide +kernel
theorem dX9_smallestSet_134 : decode cX9_smallestSet 134 = .ok (.iaload, 1) := by decide +kernel
theorem dX9_smallestSet_135 : decode cX9_smallestSet 135 = .ok (.goto 4, 3) := by decide +kernel
theorem dX9_smallestSet_138 : decode cX9_smallestSet 138 = .ok (.iconst 0, 1) := by decide +kernel
theorem dX9_smallestSet_139 : decode cX9_smallestSet 139 = .ok (.iadd, 1) := by decide +kernel
theorem dX9_smallestSet_140 : decode cX9_smallestSet 140 = .ok (.istore 8, 2) := by decide +kernel
theorem dX9_smallestSet_142 : decode cX9_smallestSet 142 = .ok (.iload 9, 2) := by decide +kernel
theorem dX9_smallestSet_144 : decode cX9_smallestSet 144 = .ok (.iload 11, 2) := by decide +kernel
theorem dX9_smallestSet_146 : decode cX9_smallestSet 146 = .ok (.ifCond .eq 32, 3) := by decide +kernel
theorem dX9_smallestSet_149 : decode cX9_smallestSet 149 = .ok (.aload_n 0, 1) := by decide +kernel
theorem dX9_smallestSet_150 : decode cX9_smallestSet 150 = .ok (.getfield 23, 3) := by decide +kernel
theorem dX9_smallestSet_153 : decode cX9_smallestSet 153 = .ok (.iload 10, 2) := by decide +kernel
theorem dX9_smallestSet_155 : decode cX9_smallestSet 155 = .ok (.invokestatic 68, 3) := by decide +kernel
theorem dX9_smallestSet_158 : decode cX9_smallestSet 158 = .ok (.iconst 1, 1) := by decide +kernel
theorem dX9_smallestSet_159 : decode cX9_smallestSet 159 = .ok (.iadd, 1) := by decide +kernel
theorem dX9_smallestSet_160 : decode cX9_smallestSet 160 = .ok (.iaload, 1) := by decide +kernel
theorem dX9_smallestSet_161 : decode cX9_smallestSet 161 = .ok (.iconst 1, 1) := by decide +kernel
theorem dX9_smallestSet_162 : decode cX9_smallestSet 162 = .ok (.if_icmp .ne 16, 3) := by decide +kernel
theorem dX9_smallestSet_165 : decode cX9_smallestSet 165 = .ok (.aload_n 0, 1) := by decide +kernel
theorem dX9_smallestSet_166 : decode cX9_smallestSet 166 = .ok (.getfield 23, 3) := by decide +kernel
theorem dX9_smallestSet_169 : decode cX9_smallestSet 169 = .ok (.iload 10, 2) := by decide +kernel
theorem dX9_smallestSet_171 : decode cX9_smallestSet 171 = .ok (.invokestatic 68, 3) := by decide +kernel
theorem dX9_smallestSet_174 : decode cX9_smallestSet 174 = .ok (.iaload, 1) := by decide +kernel
theorem dX9_smallestSet_175 : decode cX9_smallestSet 175 = .ok (.goto 4, 3) := by decide +kernel
theorem dX9_smallestSet_178 : decode cX9_smallestSet 178 = .ok (.iconst 0, 1) := by decide +kernel
theorem dX9_smallestSet_179 : decode cX9_smallestSet 179 = .ok (.iadd, 1) := by decide +kernel
theorem dX9_smallestSet_180 : decode cX9_smallestSet 180 = .ok (.istore 9, 2) := by decide +kernel
theorem dX9_smallestSet_182 : decode cX9_smallestSet 182 = .ok (.iinc 10 1, 3) := by decide +kernel
theorem dX9_smallestSet_185 : decode cX9_smallestSet 185 = .ok (.goto (-124), 3) := by decide +kernel
theorem dX9_smallestSet_188 : decode cX9_smallestSet 188 = .ok (.iload 8, 2) := by decide +kernel
theorem dX9_smallestSet_190 : decode cX9_smallestSet 190 = .ok (.iload 9, 2) := by decide +kernel
theorem dX9_smallestSet_192 : decode cX9_smallestSet 192 = .ok (.iadd, 1) := by decide +kernel
theorem dX9_smallestSet_193 : decode cX9_smallestSet 193 = .ok (.istore 10, 2) := by decide +kernel
theorem dX9_smallestSet_195 : decode cX9_smallestSet 195 = .ok (.iload 8, 2) := by decide +kernel
theorem dX9_smallestSet_197 : decode cX9_smallestSet 197 = .ok (.aload_n 0, 1) := by decide +kernel
theorem dX9_smallestSet_198 : decode cX9_smallestSet 198 = .ok (.getfield 23, 3) := by decide +kernel
theorem dX9_smallestSet_201 : decode cX9_smallestSet 201 = .ok (.bipush 18, 2) := by decide +kernel
theorem dX9_smallestSet_203 : decode cX9_smallestSet 203 = .ok (.iaload, 1) := by decide +kernel
theorem dX9_smallestSet_204 : decode cX9_smallestSet 204 = .ok (.if_icmp .gt 25, 3) := by decide +kernel
theorem dX9_smallestSet_207 : decode cX9_smallestSet 207 = .ok (.iload 9, 2) := by decide +kernel
theorem dX9_smallestSet_209 : decode cX9_smallestSet 209 = .ok (.aload_n 0, 1) := by decide +kernel
theorem dX9_smallestSet_210 : decode cX9_smallestSet 210 = .ok (.getfield 23, 3) := by decide +kernel
theorem dX9_smallestSet_213 : decode cX9_smallestSet 213 = .ok (.bipush 19, 2) := by decide +kernel
theorem dX9_smallestSet_215 : decode cX9_smallestSet 215 = .ok (.iaload, 1) := by decide +kernel
theorem dX9_smallestSet_216 : decode cX9_smallestSet 216 = .ok (.if_icmp .gt 13, 3) := by decide +kernel
theorem dX9_smallestSet_219 : decode cX9_smallestSet 219 = .ok (.iload 10, 2) := by decide +kernel
theorem dX9_smallestSet_221 : decode cX9_smallestSet 221 = .ok (.iload_n 1, 1) := by decide +kernel
theorem dX9_smallestSet_222 : decode cX9_smallestSet 222 = .ok (.if_icmp .lt 7, 3) := by decide +kernel
theorem dX9_smallestSet_225 : decode cX9_smallestSet 225 = .ok (.iconst 1, 1) := by decide +kernel
theorem dX9_smallestSet_226 : decode cX9_smallestSet 226 = .ok (.goto 4, 3) := by decide +kernel
theorem dX9_smallestSet_229 : decode cX9_smallestSet 229 = .ok (.iconst 0, 1) := by decide +kernel
theorem dX9_smallestSet_230 : decode cX9_smallestSet 230 = .ok (.istore 11, 2) := by decide +kernel
theorem dX9_smallestSet_232 : decode cX9_smallestSet 232 = .ok (.iload 11, 2) := by decide +kernel
theorem dX9_smallestSet_234 : decode cX9_smallestSet 234 = .ok (.ifCond .eq 41, 3) := by decide +kernel
theorem dX9_smallestSet_237 : decode cX9_smallestSet 237 = .ok (.iload_n 3, 1) := by decide +kernel
theorem dX9_smallestSet_238 : decode cX9_smallestSet 238 = .ok (.bipush (-9), 2) := by decide +kernel
theorem dX9_smallestSet_240 : decode cX9_smallestSet 240 = .ok (.if_icmp .eq 24, 3) := by decide +kernel
theorem dX9_smallestSet_243 : decode cX9_smallestSet 243 = .ok (.iload 7, 2) := by decide +kernel
theorem dX9_smallestSet_245 : decode cX9_smallestSet 245 = .ok (.iload 4, 2) := by decide +kernel
theorem dX9_smallestSet_247 : decode cX9_smallestSet 247 = .ok (.if_icmp .lt 17, 3) := by decide +kernel
theorem dX9_smallestSet_250 : decode cX9_smallestSet 250 = .ok (.iload 7, 2) := by decide +kernel
theorem dX9_smallestSet_252 : decode cX9_smallestSet 252 = .ok (.iload 4, 2) := by decide +kernel
theorem dX9_smallestSet_254 : decode cX9_smallestSet 254 = .ok (.if_icmp .ne 21, 3) := by decide +kernel
theorem dX9_smallestSet_257 : decode cX9_smallestSet 257 = .ok (.iload 10, 2) := by decide +kernel
theorem dX9_smallestSet_259 : decode cX9_smallestSet 259 = .ok (.iload 5, 2) := by decide +kernel
theorem dX9_smallestSet_261 : decode cX9_smallestSet 261 = .ok (.if_icmp .ge 14, 3) := by decide +kernel
theorem dX9_smallestSet_264 : decode cX9_smallestSet 264 = .ok (.iload 6, 2) := by decide +kernel
theorem dX9_smallestSet_266 : decode cX9_smallestSet 266 = .ok (.istore_n 3, 1) := by decide +kernel
theorem dX9_smallestSet_267 : decode cX9_smallestSet 267 = .ok (.iload 7, 2) := by decide +kernel
theorem dX9_smallestSet_269 : decode cX9_smallestSet 269 = .ok (.istore 4, 2) := by decide +kernel
theorem dX9_smallestSet_271 : decode cX9_smallestSet 271 = .ok (.iload 10, 2) := by decide +kernel
theorem dX9_smallestSet_273 : decode cX9_smallestSet 273 = .ok (.istore 5, 2) := by decide +kernel
theorem dX9_smallestSet_275 : decode cX9_smallestSet 275 = .ok (.iinc 6 1, 3) := by decide +kernel
theorem dX9_smallestSet_278 : decode cX9_smallestSet 278 = .ok (.goto (-240), 3) := by decide +kernel
theorem dX9_smallestSet_281 : decode cX9_smallestSet 281 = .ok (.iload_n 3, 1) := by decide +kernel
theorem dX9_smallestSet_282 : decode cX9_smallestSet 282 = .ok (.bipush (-9), 2) := by decide +kernel
theorem dX9_smallestSet_284 : decode cX9_smallestSet 284 = .ok (.if_icmp .eq 7, 3) := by decide +kernel
theorem dX9_smallestSet_287 : decode cX9_smallestSet 287 = .ok (.iload_n 2, 1) := by decide +kernel
theorem dX9_smallestSet_288 : decode cX9_smallestSet 288 = .ok (.ifCond .eq 7, 3) := by decide +kernel
theorem dX9_smallestSet_291 : decode cX9_smallestSet 291 = .ok (.iload_n 3, 1) := by decide +kernel
theorem dX9_smallestSet_292 : decode cX9_smallestSet 292 = .ok (.goto 5, 3) := by decide +kernel
theorem dX9_smallestSet_295 : decode cX9_smallestSet 295 = .ok (.iload 5, 2) := by decide +kernel
theorem dX9_smallestSet_297 : decode cX9_smallestSet 297 = .ok (.ireturn, 1) := by decide +kernel
theorem dX9_ahead_0 : decode cX9_ahead 0 = .ok (.aload_n 0, 1) := by decide +kernel
theorem dX9_ahead_1 : decode cX9_ahead 1 = .ok (.iload_n 1, 1) := by decide +kernel
theorem dX9_ahead_2 : decode cX9_ahead 2 = .ok (.iload_n 2, 1) := by decide +kernel
theorem dX9_ahead_3 : decode cX9_ahead 3 = .ok (.invokestatic 180, 3) := by decide +kernel
theorem dX9_ahead_6 : decode cX9_ahead 6 = .ok (.ifCond .eq 19, 3) := by decide +kernel
theorem dX9_ahead_9 : decode cX9_ahead 9 = .ok (.iload_n 3, 1) := by decide +kernel
theorem dX9_ahead_10 : decode cX9_ahead 10 = .ok (.i2l, 1) := by decide +kernel
theorem dX9_ahead_11 : decode cX9_ahead 11 = .ok (.lconst 0, 1) := by decide +kernel
theorem dX9_ahead_12 : decode cX9_ahead 12 = .ok (.ldc2_w 207, 3) := by decide +kernel
theorem dX9_ahead_15 : decode cX9_ahead 15 = .ok (.invokestatic 50, 3) := by decide +kernel
theorem dX9_ahead_18 : decode cX9_ahead 18 = .ok (.ifCond .eq 7, 3) := by decide +kernel
theorem dX9_ahead_21 : decode cX9_ahead 21 = .ok (.iconst 0, 1) := by decide +kernel
theorem dX9_ahead_22 : decode cX9_ahead 22 = .ok (.goto 4, 3) := by decide +kernel
theorem dX9_ahead_25 : decode cX9_ahead 25 = .ok (.iconst 1, 1) := by decide +kernel
theorem dX9_ahead_26 : decode cX9_ahead 26 = .ok (.invokevirtual 127, 3) := by decide +kernel
theorem dX9_ahead_29 : decode cX9_ahead 29 = .ok (.ifCond .eq 5, 3) := by decide +kernel
theorem dX9_ahead_32 : decode cX9_ahead 32 = .ok (.iconst 0, 1) := by decide +kernel
theorem dX9_ahead_33 : decode cX9_ahead 33 = .ok (.ireturn, 1) := by decide +kernel
theorem dX9_ahead_34 : decode cX9_ahead 34 = .ok (.aload_n 0, 1) := by decide +kernel
theorem dX9_ahead_35 : decode cX9_ahead 35 = .ok (.getfield 23, 3) := by decide +kernel
theorem dX9_ahead_38 : decode cX9_ahead 38 = .ok (.iconst 0, 1) := by decide +kernel
theorem dX9_ahead_39 : decode cX9_ahead 39 = .ok (.aload_n 0, 1) := by decide +kernel
theorem dX9_ahead_40 : decode cX9_ahead 40 = .ok (.getfield 26, 3) := by decide +kernel
theorem dX9_ahead_43 : decode cX9_ahead 43 = .ok (.iconst 0, 1) := by decide +kernel
theorem dX9_ahead_44 : decode cX9_ahead 44 = .ok (.invokestatic 156, 3) := by decide +kernel
theorem dX9_ahead_47 : decode cX9_ahead 47 = .ok (.bipush 99, 2) := by decide +kernel
theorem dX9_ahead_49 : decode cX9_ahead 49 = .ok (.istore 4, 2) := by decide +kernel
theorem dX9_ahead_51 : decode cX9_ahead 51 = .ok (.iconst 0, 1) := by decide +kernel
theorem dX9_ahead_52 : decode cX9_ahead 52 = .ok (.istore 5, 2) := by decide +kernel
theorem dX9_ahead_54 : decode cX9_ahead 54 = .ok (.iload 5, 2) := by decide +kernel
theorem dX9_ahead_56 : decode cX9_ahead 56 = .ok (.iload_n 1, 1) := by decide +kernel
theorem dX9_ahead_57 : decode cX9_ahead 57 = .ok (.if_icmp .ge 44, 3) := by decide +kernel
theorem dX9_ahead_60 : decode cX9_ahead 60 = .ok (.aload_n 0, 1) := by decide +kernel
theorem dX9_ahead_61 : decode cX9_ahead 61 = .ok (.aload_n 0, 1) := by decide +kernel
theorem dX9_ahead_62 : decode cX9_ahead 62 = .ok (.getfield 26, 3) := by decide +kernel
theorem dX9_ahead_65 : decode cX9_ahead 65 = .ok (.iload_n 2, 1) := by decide +kernel
theorem dX9_ahead_66 : decode cX9_ahead 66 = .ok (.invokevirtual 119, 3) := by decide +kernel
theorem dX9_ahead_69 : decode cX9_ahead 69 = .ok (.aload_n 0, 1) := by decide +kernel
theorem dX9_ahead_70 : decode cX9_ahead 70 = .ok (.aload_n 0, 1) := by decide +kernel
theorem dX9_ahead_71 : decode cX9_ahead 71 = .ok (.getfield 26, 3) := by decide +kernel
theorem dX9_ahead_74 : decode cX9_ahead 74 = .ok (.invokevirtual 87, 3) := by decide +kernel
theorem dX9_ahead_77 : decode cX9_ahead 77 = .ok (.istore 6, 2) := by decide +kernel
theorem dX9_ahead_79 : decode cX9_ahead 79 = .ok (.iload 6, 2) := by decide +kernel
theorem dX9_ahead_81 : decode cX9_ahead 81 = .ok (.iload 4, 2) := by decide +kernel
theorem dX9_ahead_83 : decode cX9_ahead 83 = .ok (.if_icmp .ge 8, 3) := by decide +kernel
theorem dX9_ahead_86 : decode cX9_ahead 86 = .ok (.iload 6, 2) := by decide +kernel
theorem dX9_ahead_88 : decode cX9_ahead 88 = .ok (.goto 5, 3) := by decide +kernel
theorem dX9_ahead_91 : decode cX9_ahead 91 = .ok (.iload 4, 2) := by decide +kernel
theorem dX9_ahead_93 : decode cX9_ahead 93 = .ok (.istore 4, 2) := by decide +kernel
theorem dX9_ahead_95 : decode cX9_ahead 95 = .ok (.iinc 5 1, 3) := by decide +kernel
theorem dX9_ahead_98 : decode cX9_ahead 98 = .ok (.goto (-44), 3) := by decide +kernel
theorem dX9_ahead_101 : decode cX9_ahead 101 = .ok (.iload_n 3, 1) := by decide +kernel
theorem dX9_ahead_102 : decode cX9_ahead 102 = .ok (.tableswitch 130 0 5 #[38, 47, 62, 78, 96, 114], 38) := by decide +kernel
theorem dX9_ahead_140 : decode cX9_ahead 140 = .ok (.aload_n 0, 1) := by decide +kernel
theorem dX9_ahead_141 : decode cX9_ahead 141 = .ok (.aload_n 0, 1) := by decide +kernel
theorem dX9_ahead_142 : decode cX9_ahead 142 = .ok (.getfield 26, 3) := by decide +kernel
theorem dX9_ahead_145 : decode cX9_ahead 145 = .ok (.invokevirtual 87, 3) := by decide +kernel
theorem dX9_ahead_148 : decode cX9_ahead 148 = .ok (.ireturn, 1) := by decide +kernel
theorem dX9_ahead_149 : decode cX9_ahead 149 = .ok (.aload_n 0, 1) := by decide +kernel
theorem dX9_ahead_150 : decode cX9_ahead 150 = .ok (.getfield 26, 3) := by decide +kernel
theorem dX9_ahead_153 : decode cX9_ahead 153 = .ok (.bipush 22, 2) := by decide +kernel
theorem dX9_ahead_155 : decode cX9_ahead 155 = .ok (.aload_n 0, 1) := by decide +kernel
theorem dX9_ahead_156 : decode cX9_ahead 156 = .ok (.getfield 17, 3) := by decide +kernel
theorem dX9_ahead_159 : decode cX9_ahead 159 = .ok (.iadd, 1) := by decide +kernel
theorem dX9_ahead_160 : decode cX9_ahead 160 = .ok (.iconst 1, 1) := by decide +kernel
theorem dX9_ahead_161 : decode cX9_ahead 161 = .ok (.isub, 1) := by decide +kernel
theorem dX9_ahead_162 : decode cX9_ahead 162 = .ok (.iaload, 1) := by decide +kernel
theorem dX9_ahead_163 : decode cX9_ahead 163 = .ok (.ireturn, 1) := by decide +kernel
theorem dX9_ahead_164 : decode cX9_ahead 164 = .ok (.aload_n 0, 1) := by decide +kernel
theorem dX9_ahead_165 : decode cX9_ahead 165 = .ok (.getfield 26, 3) := by decide +kernel
theorem dX9_ahead_168 : decode cX9_ahead 168 = .ok (.bipush 15, 2) := by decide +kernel
theorem dX9_ahead_170 : decode cX9_ahead 170 = .ok (.iaload, 1) := by decide +kernel
theorem dX9_ahead_171 : decode cX9_ahead 171 = .ok (.aload_n 0, 1) := by decide +kernel
theorem dX9_ahead_172 : decode cX9_ahead 172 = .ok (.getfield 23, 3) := by decide +kernel
theorem dX9_ahead_175 : decode cX9_ahead 175 = .ok (.bipush 15, 2) := by decide +kernel
theorem dX9_ahead_177 : decode cX9_ahead 177 = .ok (.iaload, 1) := by decide +kernel
theorem dX9_ahead_178 : decode cX9_ahead 178 = .ok (.isub, 1) := by decide +kernel
theorem dX9_ahead_179 : decode cX9_ahead 179 = .ok (.ireturn, 1) := by decide +kernel
theorem dX9_ahead_180 : decode cX9_ahead 180 = .ok (.aload_n 0, 1) := by decide +kernel
theorem dX9_ahead_181 : decode cX9_ahead 181 = .ok (.aload_n 0, 1) := by decide +kernel
theorem dX9_ahead_182 : decode cX9_ahead 182 = .ok (.getfield 26, 3) := by decide +kernel
theorem dX9_ahead_185 : decode cX9_ahead 185 = .ok (.invokevirtual 175, 3) := by decide +kernel
theorem dX9_ahead_188 : decode cX9_ahead 188 = .ok (.aload_n 0, 1) := by decide +kernel
theorem dX9_ahead_189 : decode cX9_ahead 189 = .ok (.aload_n 0, 1) := by decide +kernel
theorem dX9_ahead_190 : decode cX9_ahead 190 = .ok (.getfield 23, 3) := by decide +kernel
theorem dX9_ahead_193 : decode cX9_ahead 193 = .ok (.invokevirtual 175, 3) := by decide +kernel
theorem dX9_ahead_196 : decode cX9_ahead 196 = .ok (.isub, 1) := by decide +kernel
theorem dX9_ahead_197 : decode cX9_ahead 197 = .ok (.ireturn, 1) := by decide +kernel
theorem dX9_ahead_198 : decode cX9_ahead 198 = .ok (.aload_n 0, 1) := by decide +kernel
theorem dX9_ahead_199 : decode cX9_ahead 199 = .ok (.aload_n 0, 1) := by decide +kernel
theorem dX9_ahead_200 : decode cX9_ahead 200 = .ok (.getfield 26, 3) := by decide +kernel
theorem dX9_ahead_203 : decode cX9_ahead 203 = .ok (.invokevirtual 209, 3) := by decide +kernel
theorem dX9_ahead_206 : decode cX9_ahead 206 = .ok (.aload_n 0, 1) := by decide +kernel
theorem dX9_ahead_207 : decode cX9_ahead 207 = .ok (.aload_n 0, 1) := by decide +kernel
theorem dX9_ahead_208 : decode cX9_ahead 208 = .ok (.getfield 23, 3) := by decide +kernel
theorem dX9_ahead_211 : decode cX9_ahead 211 = .ok (.invokevirtual 209, 3) := by decide +kernel
theorem dX9_ahead_214 : decode cX9_ahead 214 = .ok (.isub, 1) := by decide +kernel
theorem dX9_ahead_215 : decode cX9_ahead 215 = .ok (.ireturn, 1) := by decide +kernel
theorem dX9_ahead_216 : decode cX9_ahead 216 = .ok (.aload_n 0, 1) := by decide +kernel
theorem dX9_ahead_217 : decode cX9_ahead 217 = .ok (.getfield 26, 3) := by decide +kernel
theorem dX9_ahead_220 : decode cX9_ahead 220 = .ok (.bipush 11, 2) := by decide +kernel
theorem dX9_ahead_222 : decode cX9_ahead 222 = .ok (.iaload, 1) := by decide +kernel
theorem dX9_ahead_223 : decode cX9_ahead 223 = .ok (.aload_n 0, 1) := by decide +kernel
theorem dX9_ahead_224 : decode cX9_ahead 224 = .ok (.getfield 23, 3) := by decide +kernel
theorem dX9_ahead_227 : decode cX9_ahead 227 = .ok (.bipush 11, 2) := by decide +kernel
theorem dX9_ahead_229 : decode cX9_ahead 229 = .ok (.iaload, 1) := by decide +kernel
theorem dX9_ahead_230 : decode cX9_ahead 230 = .ok (.isub, 1) := by decide +kernel
theorem dX9_ahead_231 : decode cX9_ahead 231 = .ok (.ireturn, 1) := by decide +kernel
theorem dX9_ahead_232 : decode cX9_ahead 232 = .ok (.iload 4, 2) := by decide +kernel
theorem dX9_ahead_234 : decode cX9_ahead 234 = .ok (.ireturn, 1) := by decide +kernel
theorem dX9_warmAfter_0 : decode cX9_warmAfter 0 = .ok (.aload_n 0, 1) := by decide +kernel
theorem dX9_warmAfter_1 : decode cX9_warmAfter 1 = .ok (.iload_n 1, 1) := by decide +kernel
theorem dX9_warmAfter_2 : decode cX9_warmAfter 2 = .ok (.i2l, 1) := by decide +kernel
theorem dX9_warmAfter_3 : decode cX9_warmAfter 3 = .ok (.lconst 0, 1) := by decide +kernel
theorem dX9_warmAfter_4 : decode cX9_warmAfter 4 = .ok (.ldc2_w 200, 3) := by decide +kernel
theorem dX9_warmAfter_7 : decode cX9_warmAfter 7 = .ok (.invokestatic 50, 3) := by decide +kernel
theorem dX9_warmAfter_10 : decode cX9_warmAfter 10 = .ok (.ifCond .eq 19, 3) := by decide +kernel
theorem dX9_warmAfter_13 : decode cX9_warmAfter 13 = .ok (.iload_n 2, 1) := by decide +kernel
theorem dX9_warmAfter_14 : decode cX9_warmAfter 14 = .ok (.i2l, 1) := by decide +kernel
theorem dX9_warmAfter_15 : decode cX9_warmAfter 15 = .ok (.lconst 0, 1) := by decide +kernel
theorem dX9_warmAfter_16 : decode cX9_warmAfter 16 = .ok (.ldc2_w 60, 3) := by decide +kernel
theorem dX9_warmAfter_19 : decode cX9_warmAfter 19 = .ok (.invokestatic 50, 3) := by decide +kernel
theorem dX9_warmAfter_22 : decode cX9_warmAfter 22 = .ok (.ifCond .eq 7, 3) := by decide +kernel
theorem dX9_warmAfter_25 : decode cX9_warmAfter 25 = .ok (.iconst 0, 1) := by decide +kernel
theorem dX9_warmAfter_26 : decode cX9_warmAfter 26 = .ok (.goto 4, 3) := by decide +kernel
theorem dX9_warmAfter_29 : decode cX9_warmAfter 29 = .ok (.iconst 1, 1) := by decide +kernel
theorem dX9_warmAfter_30 : decode cX9_warmAfter 30 = .ok (.invokevirtual 127, 3) := by decide +kernel
theorem dX9_warmAfter_33 : decode cX9_warmAfter 33 = .ok (.ifCond .eq 5, 3) := by decide +kernel
theorem dX9_warmAfter_36 : decode cX9_warmAfter 36 = .ok (.iconst 0, 1) := by decide +kernel
theorem dX9_warmAfter_37 : decode cX9_warmAfter 37 = .ok (.ireturn, 1) := by decide +kernel
theorem dX9_warmAfter_38 : decode cX9_warmAfter 38 = .ok (.aload_n 0, 1) := by decide +kernel
theorem dX9_warmAfter_39 : decode cX9_warmAfter 39 = .ok (.getfield 23, 3) := by decide +kernel
theorem dX9_warmAfter_42 : decode cX9_warmAfter 42 = .ok (.iconst 0, 1) := by decide +kernel
theorem dX9_warmAfter_43 : decode cX9_warmAfter 43 = .ok (.aload_n 0, 1) := by decide +kernel
theorem dX9_warmAfter_44 : decode cX9_warmAfter 44 = .ok (.getfield 26, 3) := by decide +kernel
theorem dX9_warmAfter_47 : decode cX9_warmAfter 47 = .ok (.iconst 0, 1) := by decide +kernel
theorem dX9_warmAfter_48 : decode cX9_warmAfter 48 = .ok (.invokestatic 156, 3) := by decide +kernel
theorem dX9_warmAfter_51 : decode cX9_warmAfter 51 = .ok (.iconst 0, 1) := by decide +kernel
theorem dX9_warmAfter_52 : decode cX9_warmAfter 52 = .ok (.istore_n 3, 1) := by decide +kernel
theorem dX9_warmAfter_53 : decode cX9_warmAfter 53 = .ok (.iload_n 3, 1) := by decide +kernel
theorem dX9_warmAfter_54 : decode cX9_warmAfter 54 = .ok (.sipush 200, 3) := by decide +kernel
theorem dX9_warmAfter_57 : decode cX9_warmAfter 57 = .ok (.if_icmp .gt 32, 3) := by decide +kernel
theorem dX9_warmAfter_60 : decode cX9_warmAfter 60 = .ok (.aload_n 0, 1) := by decide +kernel
theorem dX9_warmAfter_61 : decode cX9_warmAfter 61 = .ok (.aload_n 0, 1) := by decide +kernel
theorem dX9_warmAfter_62 : decode cX9_warmAfter 62 = .ok (.getfield 26, 3) := by decide +kernel
theorem dX9_warmAfter_65 : decode cX9_warmAfter 65 = .ok (.invokevirtual 87, 3) := by decide +kernel
theorem dX9_warmAfter_68 : decode cX9_warmAfter 68 = .ok (.iload_n 1, 1) := by decide +kernel
theorem dX9_warmAfter_69 : decode cX9_warmAfter 69 = .ok (.if_icmp .lt 5, 3) := by decide +kernel
theorem dX9_warmAfter_72 : decode cX9_warmAfter 72 = .ok (.iload_n 3, 1) := by decide +kernel
theorem dX9_warmAfter_73 : decode cX9_warmAfter 73 = .ok (.ireturn, 1) := by decide +kernel
theorem dX9_warmAfter_74 : decode cX9_warmAfter 74 = .ok (.aload_n 0, 1) := by decide +kernel
theorem dX9_warmAfter_75 : decode cX9_warmAfter 75 = .ok (.aload_n 0, 1) := by decide +kernel
theorem dX9_warmAfter_76 : decode cX9_warmAfter 76 = .ok (.getfield 26, 3) := by decide +kernel
theorem dX9_warmAfter_79 : decode cX9_warmAfter 79 = .ok (.iload_n 2, 1) := by decide +kernel
theorem dX9_warmAfter_80 : decode cX9_warmAfter 80 = .ok (.invokevirtual 119, 3) := by decide +kernel
theorem dX9_warmAfter_83 : decode cX9_warmAfter 83 = .ok (.iinc 3 1, 3) := by decide +kernel
theorem dX9_warmAfter_86 : decode cX9_warmAfter 86 = .ok (.goto (-33), 3) := by decide +kernel
theorem dX9_warmAfter_89 : decode cX9_warmAfter 89 = .ok (.bipush (-9), 2) := by decide +kernel
theorem dX9_warmAfter_91 : decode cX9_warmAfter 91 = .ok (.ireturn, 1) := by decide +kernel
theorem dX9_bearable_0 : decode cX9_bearable 0 = .ok (.aload_n 0, 1) := by decide +kernel
theorem dX9_bearable_1 : decode cX9_bearable 1 = .ok (.iload_n 1, 1) := by decide +kernel
theorem dX9_bearable_2 : decode cX9_bearable 2 = .ok (.i2l, 1) := by decide +kernel
theorem dX9_bearable_3 : decode cX9_bearable 3 = .ok (.lconst 1, 1) := by decide +kernel
theorem dX9_bearable_4 : decode cX9_bearable 4 = .ok (.ldc2_w 178, 3) := by decide +kernel
theorem dX9_bearable_7 : decode cX9_bearable 7 = .ok (.invokestatic 50, 3) := by decide +kernel
theorem dX9_bearable_10 : decode cX9_bearable 10 = .ok (.ifCond .eq 21, 3) := by decide +kernel
theorem dX9_bearable_13 : decode cX9_bearable 13 = .ok (.iload_n 2, 1) := by decide +kernel
theorem dX9_bearable_14 : decode cX9_bearable 14 = .ok (.i2l, 1) := by decide +kernel
theorem dX9_bearable_15 : decode cX9_bearable 15 = .ok (.ldc2_w 212, 3) := by decide +kernel
theorem dX9_bearable_18 : decode cX9_bearable 18 = .ok (.ldc2_w 56, 3) := by decide +kernel
theorem dX9_bearable_21 : decode cX9_bearable 21 = .ok (.invokestatic 50, 3) := by decide +kernel
theorem dX9_bearable_24 : decode cX9_bearable 24 = .ok (.ifCond .eq 7, 3) := by decide +kernel
theorem dX9_bearable_27 : decode cX9_bearable 27 = .ok (.iconst 0, 1) := by decide +kernel
theorem dX9_bearable_28 : decode cX9_bearable 28 = .ok (.goto 4, 3) := by decide +kernel
theorem dX9_bearable_31 : decode cX9_bearable 31 = .ok (.iconst 1, 1) := by decide +kernel
theorem dX9_bearable_32 : decode cX9_bearable 32 = .ok (.invokevirtual 127, 3) := by decide +kernel
theorem dX9_bearable_35 : decode cX9_bearable 35 = .ok (.ifCond .eq 5, 3) := by decide +kernel
theorem dX9_bearable_38 : decode cX9_bearable 38 = .ok (.iconst 0, 1) := by decide +kernel
theorem dX9_bearable_39 : decode cX9_bearable 39 = .ok (.ireturn, 1) := by decide +kernel
theorem dX9_bearable_40 : decode cX9_bearable 40 = .ok (.iconst 5, 1) := by decide +kernel
theorem dX9_bearable_41 : decode cX9_bearable 41 = .ok (.istore_n 3, 1) := by decide +kernel
theorem dX9_bearable_42 : decode cX9_bearable 42 = .ok (.iload_n 3, 1) := by decide +kernel
theorem dX9_bearable_43 : decode cX9_bearable 43 = .ok (.ifCond .lt 86, 3) := by decide +kernel
theorem dX9_bearable_46 : decode cX9_bearable 46 = .ok (.aload_n 0, 1) := by decide +kernel
theorem dX9_bearable_47 : decode cX9_bearable 47 = .ok (.getfield 23, 3) := by decide +kernel
theorem dX9_bearable_50 : decode cX9_bearable 50 = .ok (.iconst 0, 1) := by decide +kernel
theorem dX9_bearable_51 : decode cX9_bearable 51 = .ok (.aload_n 0, 1) := by decide +kernel
theorem dX9_bearable_52 : decode cX9_bearable 52 = .ok (.getfield 26, 3) := by decide +kernel
theorem dX9_bearable_55 : decode cX9_bearable 55 = .ok (.iconst 0, 1) := by decide +kernel
theorem dX9_bearable_56 : decode cX9_bearable 56 = .ok (.invokestatic 156, 3) := by decide +kernel
theorem dX9_bearable_59 : decode cX9_bearable 59 = .ok (.iconst 1, 1) := by decide +kernel
theorem dX9_bearable_60 : decode cX9_bearable 60 = .ok (.istore 4, 2) := by decide +kernel
theorem dX9_bearable_62 : decode cX9_bearable 62 = .ok (.iconst 0, 1) := by decide +kernel
theorem dX9_bearable_63 : decode cX9_bearable 63 = .ok (.istore 5, 2) := by decide +kernel
theorem dX9_bearable_65 : decode cX9_bearable 65 = .ok (.iload 5, 2) := by decide +kernel
theorem dX9_bearable_67 : decode cX9_bearable 67 = .ok (.iload_n 1, 1) := by decide +kernel
theorem dX9_bearable_68 : decode cX9_bearable 68 = .ok (.if_icmp .ge 48, 3) := by decide +kernel
theorem dX9_bearable_71 : decode cX9_bearable 71 = .ok (.iload 4, 2) := by decide +kernel
theorem dX9_bearable_73 : decode cX9_bearable 73 = .ok (.ifCond .eq 43, 3) := by decide +kernel
theorem dX9_bearable_76 : decode cX9_bearable 76 = .ok (.aload_n 0, 1) := by decide +kernel
theorem dX9_bearable_77 : decode cX9_bearable 77 = .ok (.aload_n 0, 1) := by decide +kernel
theorem dX9_bearable_78 : decode cX9_bearable 78 = .ok (.getfield 26, 3) := by decide +kernel
theorem dX9_bearable_81 : decode cX9_bearable 81 = .ok (.iload_n 3, 1) := by decide +kernel
theorem dX9_bearable_82 : decode cX9_bearable 82 = .ok (.invokevirtual 119, 3) := by decide +kernel
theorem dX9_bearable_85 : decode cX9_bearable 85 = .ok (.aload_n 0, 1) := by decide +kernel
theorem dX9_bearable_86 : decode cX9_bearable 86 = .ok (.getfield 26, 3) := by decide +kernel
theorem dX9_bearable_89 : decode cX9_bearable 89 = .ok (.bipush 22, 2) := by decide +kernel
theorem dX9_bearable_91 : decode cX9_bearable 91 = .ok (.aload_n 0, 1) := by decide +kernel
theorem dX9_bearable_92 : decode cX9_bearable 92 = .ok (.getfield 17, 3) := by decide +kernel
theorem dX9_bearable_95 : decode cX9_bearable 95 = .ok (.iadd, 1) := by decide +kernel
theorem dX9_bearable_96 : decode cX9_bearable 96 = .ok (.iconst 1, 1) := by decide +kernel
theorem dX9_bearable_97 : decode cX9_bearable 97 = .ok (.isub, 1) := by decide +kernel
theorem dX9_bearable_98 : decode cX9_bearable 98 = .ok (.iaload, 1) := by decide +kernel
theorem dX9_bearable_99 : decode cX9_bearable 99 = .ok (.iload_n 2, 1) := by decide +kernel
theorem dX9_bearable_100 : decode cX9_bearable 100 = .ok (.if_icmp .lt 7, 3) := by decide +kernel
theorem dX9_bearable_103 : decode cX9_bearable 103 = .ok (.iconst 1, 1) := by decide +kernel
theorem dX9_bearable_104 : decode cX9_bearable 104 = .ok (.goto 4, 3) := by decide +kernel
theorem dX9_bearable_107 : decode cX9_bearable 107 = .ok (.iconst 0, 1) := by decide +kernel
theorem dX9_bearable_108 : decode cX9_bearable 108 = .ok (.istore 4, 2) := by decide +kernel
theorem dX9_bearable_110 : decode cX9_bearable 110 = .ok (.iinc 5 1, 3) := by decide +kernel
theorem dX9_bearable_113 : decode cX9_bearable 113 = .ok (.goto (-48), 3) := by decide +kernel
theorem dX9_bearable_116 : decode cX9_bearable 116 = .ok (.iload 4, 2) := by decide +kernel
theorem dX9_bearable_118 : decode cX9_bearable 118 = .ok (.ifCond .eq 5, 3) := by decide +kernel
theorem dX9_bearable_121 : decode cX9_bearable 121 = .ok (.iload_n 3, 1) := by decide +kernel
theorem dX9_bearable_122 : decode cX9_bearable 122 = .ok (.ireturn, 1) := by decide +kernel
theorem dX9_bearable_123 : decode cX9_bearable 123 = .ok (.iinc 3 (-1), 3) := by decide +kernel
theorem dX9_bearable_126 : decode cX9_bearable 126 = .ok (.goto (-84), 3) := by decide +kernel
theorem dX9_bearable_129 : decode cX9_bearable 129 = .ok (.bipush (-9), 2) := by decide +kernel
theorem dX9_bearable_131 : decode cX9_bearable 131 = .ok (.ireturn, 1) := by decide +kernel
theorem dX9_cheapestPurge_0 : decode cX9_cheapestPurge 0 = .ok (.aload_n 0, 1) := by decide +kernel
theorem dX9_cheapestPurge_1 : decode cX9_cheapestPurge 1 = .ok (.iload_n 1, 1) := by decide +kernel
theorem dX9_cheapestPurge_2 : decode cX9_cheapestPurge 2 = .ok (.iload_n 2, 1) := by decide +kernel
theorem dX9_cheapestPurge_3 : decode cX9_cheapestPurge 3 = .ok (.invokestatic 180, 3) := by decide +kernel
theorem dX9_cheapestPurge_6 : decode cX9_cheapestPurge 6 = .ok (.ifCond .eq 7, 3) := by decide +kernel
theorem dX9_cheapestPurge_9 : decode cX9_cheapestPurge 9 = .ok (.iconst 0, 1) := by decide +kernel
theorem dX9_cheapestPurge_10 : decode cX9_cheapestPurge 10 = .ok (.goto 4, 3) := by decide +kernel
theorem dX9_cheapestPurge_13 : decode cX9_cheapestPurge 13 = .ok (.iconst 1, 1) := by decide +kernel
theorem dX9_cheapestPurge_14 : decode cX9_cheapestPurge 14 = .ok (.invokevirtual 127, 3) := by decide +kernel
theorem dX9_cheapestPurge_17 : decode cX9_cheapestPurge 17 = .ok (.ifCond .eq 5, 3) := by decide +kernel
theorem dX9_cheapestPurge_20 : decode cX9_cheapestPurge 20 = .ok (.iconst 0, 1) := by decide +kernel
theorem dX9_cheapestPurge_21 : decode cX9_cheapestPurge 21 = .ok (.ireturn, 1) := by decide +kernel
theorem dX9_cheapestPurge_22 : decode cX9_cheapestPurge 22 = .ok (.iconst 0, 1) := by decide +kernel
theorem dX9_cheapestPurge_23 : decode cX9_cheapestPurge 23 = .ok (.istore_n 3, 1) := by decide +kernel
theorem dX9_cheapestPurge_24 : decode cX9_cheapestPurge 24 = .ok (.iconst 0, 1) := by decide +kernel
theorem dX9_cheapestPurge_25 : decode cX9_cheapestPurge 25 = .ok (.istore 4, 2) := by decide +kernel
theorem dX9_cheapestPurge_27 : decode cX9_cheapestPurge 27 = .ok (.iconst 1, 1) := by decide +kernel
theorem dX9_cheapestPurge_28 : decode cX9_cheapestPurge 28 = .ok (.istore 5, 2) := by decide +kernel
theorem dX9_cheapestPurge_30 : decode cX9_cheapestPurge 30 = .ok (.iload 5, 2) := by decide +kernel
theorem dX9_cheapestPurge_32 : decode cX9_cheapestPurge 32 = .ok (.iconst 5, 1) := by decide +kernel
theorem dX9_cheapestPurge_33 : decode cX9_cheapestPurge 33 = .ok (.if_icmp .gt 94, 3) := by decide +kernel
theorem dX9_cheapestPurge_36 : decode cX9_cheapestPurge 36 = .ok (.aload_n 0, 1) := by decide +kernel
theorem dX9_cheapestPurge_37 : decode cX9_cheapestPurge 37 = .ok (.getfield 23, 3) := by decide +kernel
theorem dX9_cheapestPurge_40 : decode cX9_cheapestPurge 40 = .ok (.iconst 0, 1) := by decide +kernel
theorem dX9_cheapestPurge_41 : decode cX9_cheapestPurge 41 = .ok (.aload_n 0, 1) := by decide +kernel
theorem dX9_cheapestPurge_42 : decode cX9_cheapestPurge 42 = .ok (.getfield 26, 3) := by decide +kernel
theorem dX9_cheapestPurge_45 : decode cX9_cheapestPurge 45 = .ok (.iconst 0, 1) := by decide +kernel
theorem dX9_cheapestPurge_46 : decode cX9_cheapestPurge 46 = .ok (.invokestatic 156, 3) := by decide +kernel
theorem dX9_cheapestPurge_49 : decode cX9_cheapestPurge 49 = .ok (.aload_n 0, 1) := by decide +kernel
theorem dX9_cheapestPurge_50 : decode cX9_cheapestPurge 50 = .ok (.getfield 26, 3) := by decide +kernel
theorem dX9_cheapestPurge_53 : decode cX9_cheapestPurge 53 = .ok (.iconst 2, 1) := by decide +kernel
theorem dX9_cheapestPurge_54 : decode cX9_cheapestPurge 54 = .ok (.iload 5, 2) := by decide +kernel
theorem dX9_cheapestPurge_56 : decode cX9_cheapestPurge 56 = .ok (.iastore, 1) := by decide +kernel
theorem dX9_cheapestPurge_57 : decode cX9_cheapestPurge 57 = .ok (.aload_n 0, 1) := by decide +kernel
theorem dX9_cheapestPurge_58 : decode cX9_cheapestPurge 58 = .ok (.aload_n 0, 1) := by decide +kernel
theorem dX9_cheapestPurge_59 : decode cX9_cheapestPurge 59 = .ok (.getfield 26, 3) := by decide +kernel
theorem dX9_cheapestPurge_62 : decode cX9_cheapestPurge 62 = .ok (.iload_n 1, 1) := by decide +kernel
theorem dX9_cheapestPurge_63 : decode cX9_cheapestPurge 63 = .ok (.iload_n 2, 1) := by decide +kernel
theorem dX9_cheapestPurge_64 : decode cX9_cheapestPurge 64 = .ok (.invokevirtual 187, 3) := by decide +kernel
theorem dX9_cheapestPurge_67 : decode cX9_cheapestPurge 67 = .ok (.aload_n 0, 1) := by decide +kernel
theorem dX9_cheapestPurge_68 : decode cX9_cheapestPurge 68 = .ok (.aload_n 0, 1) := by decide +kernel
theorem dX9_cheapestPurge_69 : decode cX9_cheapestPurge 69 = .ok (.getfield 26, 3) := by decide +kernel
theorem dX9_cheapestPurge_72 : decode cX9_cheapestPurge 72 = .ok (.invokevirtual 175, 3) := by decide +kernel
theorem dX9_cheapestPurge_75 : decode cX9_cheapestPurge 75 = .ok (.istore 6, 2) := by decide +kernel
theorem dX9_cheapestPurge_77 : decode cX9_cheapestPurge 77 = .ok (.iload_n 3, 1) := by decide +kernel
theorem dX9_cheapestPurge_78 : decode cX9_cheapestPurge 78 = .ok (.ifCond .eq 10, 3) := by decide +kernel
theorem dX9_cheapestPurge_81 : decode cX9_cheapestPurge 81 = .ok (.iload 6, 2) := by decide +kernel
theorem dX9_cheapestPurge_83 : decode cX9_cheapestPurge 83 = .ok (.iload 4, 2) := by decide +kernel
theorem dX9_cheapestPurge_85 : decode cX9_cheapestPurge 85 = .ok (.if_icmp .ge 7, 3) := by decide +kernel
theorem dX9_cheapestPurge_88 : decode cX9_cheapestPurge 88 = .ok (.iconst 1, 1) := by decide +kernel
theorem dX9_cheapestPurge_89 : decode cX9_cheapestPurge 89 = .ok (.goto 4, 3) := by decide +kernel
theorem dX9_cheapestPurge_92 : decode cX9_cheapestPurge 92 = .ok (.iconst 0, 1) := by decide +kernel
theorem dX9_cheapestPurge_93 : decode cX9_cheapestPurge 93 = .ok (.istore 7, 2) := by decide +kernel
theorem dX9_cheapestPurge_95 : decode cX9_cheapestPurge 95 = .ok (.iload 7, 2) := by decide +kernel
theorem dX9_cheapestPurge_97 : decode cX9_cheapestPurge 97 = .ok (.ifCond .eq 8, 3) := by decide +kernel
theorem dX9_cheapestPurge_100 : decode cX9_cheapestPurge 100 = .ok (.iload 5, 2) := by decide +kernel
theorem dX9_cheapestPurge_102 : decode cX9_cheapestPurge 102 = .ok (.goto 4, 3) := by decide +kernel
theorem dX9_cheapestPurge_105 : decode cX9_cheapestPurge 105 = .ok (.iload_n 3, 1) := by decide +kernel
theorem dX9_cheapestPurge_106 : decode cX9_cheapestPurge 106 = .ok (.istore_n 3, 1) := by decide +kernel
theorem dX9_cheapestPurge_107 : decode cX9_cheapestPurge 107 = .ok (.iload 7, 2) := by decide +kernel
theorem dX9_cheapestPurge_109 : decode cX9_cheapestPurge 109 = .ok (.ifCond .eq 8, 3) := by decide +kernel
theorem dX9_cheapestPurge_112 : decode cX9_cheapestPurge 112 = .ok (.iload 6, 2) := by decide +kernel
theorem dX9_cheapestPurge_114 : decode cX9_cheapestPurge 114 = .ok (.goto 5, 3) := by decide +kernel
theorem dX9_cheapestPurge_117 : decode cX9_cheapestPurge 117 = .ok (.iload 4, 2) := by decide +kernel
theorem dX9_cheapestPurge_119 : decode cX9_cheapestPurge 119 = .ok (.istore 4, 2) := by decide +kernel
theorem dX9_cheapestPurge_121 : decode cX9_cheapestPurge 121 = .ok (.iinc 5 1, 3) := by decide +kernel
theorem dX9_cheapestPurge_124 : decode cX9_cheapestPurge 124 = .ok (.goto (-94), 3) := by decide +kernel
theorem dX9_cheapestPurge_127 : decode cX9_cheapestPurge 127 = .ok (.iload_n 3, 1) := by decide +kernel
theorem dX9_cheapestPurge_128 : decode cX9_cheapestPurge 128 = .ok (.ireturn, 1) := by decide +kernel
theorem dX9_does_0 : decode cX9_does 0 = .ok (.aload_n 0, 1) := by decide +kernel
theorem dX9_does_1 : decode cX9_does 1 = .ok (.iload_n 2, 1) := by decide +kernel
theorem dX9_does_2 : decode cX9_does 2 = .ok (.invokevirtual 168, 3) := by decide +kernel
theorem dX9_does_5 : decode cX9_does 5 = .ok (.istore 4, 2) := by decide +kernel
theorem dX9_does_7 : decode cX9_does 7 = .ok (.iload_n 1, 1) := by decide +kernel
theorem dX9_does_8 : decode cX9_does 8 = .ok (.tableswitch 330 1 9 #[52, 80, 110, 135, 169, 206, 243, 271, 303], 52) := by decide +kernel
theorem dX9_does_60 : decode cX9_does 60 = .ok (.iload_n 3, 1) := by decide +kernel
theorem dX9_does_61 : decode cX9_does 61 = .ok (.bipush 99, 2) := by decide +kernel
theorem dX9_does_63 : decode cX9_does 63 = .ok (.if_icmp .gt 11, 3) := by decide +kernel
theorem dX9_does_66 : decode cX9_does 66 = .ok (.iload_n 3, 1) := by decide +kernel
theorem dX9_does_67 : decode cX9_does 67 = .ok (.iload_n 2, 1) := by decide +kernel
theorem dX9_does_68 : decode cX9_does 68 = .ok (.invokestatic 180, 3) := by decide +kernel
theorem dX9_does_71 : decode cX9_does 71 = .ok (.ifCond .ne 5, 3) := by decide +kernel
theorem dX9_does_74 : decode cX9_does 74 = .ok (.iconst 0, 1) := by decide +kernel
theorem dX9_does_75 : decode cX9_does 75 = .ok (.ireturn, 1) := by decide +kernel
theorem dX9_does_76 : decode cX9_does 76 = .ok (.aload_n 0, 1) := by decide +kernel
theorem dX9_does_77 : decode cX9_does 77 = .ok (.aload_n 0, 1) := by decide +kernel
theorem dX9_does_78 : decode cX9_does 78 = .ok (.getfield 26, 3) := by decide +kernel
theorem dX9_does_81 : decode cX9_does 81 = .ok (.iload_n 3, 1) := by decide +kernel
theorem dX9_does_82 : decode cX9_does 82 = .ok (.iload_n 2, 1) := by decide +kernel
theorem dX9_does_83 : decode cX9_does 83 = .ok (.invokevirtual 187, 3) := by decide +kernel
theorem dX9_does_86 : decode cX9_does 86 = .ok (.iconst 1, 1) := by decide +kernel
theorem dX9_does_87 : decode cX9_does 87 = .ok (.ireturn, 1) := by decide +kernel
theorem dX9_does_88 : decode cX9_does 88 = .ok (.iload_n 2, 1) := by decide +kernel
theorem dX9_does_89 : decode cX9_does 89 = .ok (.ifCond .ne 15, 3) := by decide +kernel
theorem dX9_does_92 : decode cX9_does 92 = .ok (.iload_n 3, 1) := by decide +kernel
theorem dX9_does_93 : decode cX9_does 93 = .ok (.i2l, 1) := by decide +kernel
theorem dX9_does_94 : decode cX9_does 94 = .ok (.lconst 1, 1) := by decide +kernel
theorem dX9_does_95 : decode cX9_does 95 = .ok (.ldc2_w 191, 3) := by decide +kernel
theorem dX9_does_98 : decode cX9_does 98 = .ok (.invokestatic 50, 3) := by decide +kernel
theorem dX9_does_101 : decode cX9_does 101 = .ok (.ifCond .ne 5, 3) := by decide +kernel
theorem dX9_does_104 : decode cX9_does 104 = .ok (.iconst 0, 1) := by decide +kernel
theorem dX9_does_105 : decode cX9_does 105 = .ok (.ireturn, 1) := by decide +kernel
theorem dX9_does_106 : decode cX9_does 106 = .ok (.aload_n 0, 1) := by decide +kernel
theorem dX9_does_107 : decode cX9_does 107 = .ok (.aload_n 0, 1) := by decide +kernel
theorem dX9_does_108 : decode cX9_does 108 = .ok (.getfield 26, 3) := by decide +kernel
theorem dX9_does_111 : decode cX9_does 111 = .ok (.iload_n 3, 1) := by decide +kernel
theorem dX9_does_112 : decode cX9_does 112 = .ok (.invokevirtual 104, 3) := by decide +kernel
theorem dX9_does_115 : decode cX9_does 115 = .ok (.pop, 1) := by decide +kernel
theorem dX9_does_116 : decode cX9_does 116 = .ok (.iconst 1, 1) := by decide +kernel
theorem dX9_does_117 : decode cX9_does 117 = .ok (.ireturn, 1) := by decide +kernel
theorem dX9_does_118 : decode cX9_does 118 = .ok (.iload_n 3, 1) := by decide +kernel
theorem dX9_does_119 : decode cX9_does 119 = .ok (.bipush 99, 2) := by decide +kernel
theorem dX9_does_121 : decode cX9_does 121 = .ok (.if_icmp .gt 11, 3) := by decide +kernel
theorem dX9_does_124 : decode cX9_does 124 = .ok (.iload_n 2, 1) := by decide +kernel
theorem dX9_does_125 : decode cX9_does 125 = .ok (.iload_n 3, 1) := by decide +kernel
theorem dX9_does_126 : decode cX9_does 126 = .ok (.invokestatic 193, 3) := by decide +kernel
theorem dX9_does_129 : decode cX9_does 129 = .ok (.ifCond .ne 5, 3) := by decide +kernel
theorem dX9_does_132 : decode cX9_does 132 = .ok (.iconst 0, 1) := by decide +kernel
theorem dX9_does_133 : decode cX9_does 133 = .ok (.ireturn, 1) := by decide +kernel
theorem dX9_does_134 : decode cX9_does 134 = .ok (.aload_n 0, 1) := by decide +kernel
theorem dX9_does_135 : decode cX9_does 135 = .ok (.getfield 26, 3) := by decide +kernel
theorem dX9_does_138 : decode cX9_does 138 = .ok (.iload_n 2, 1) := by decide +kernel
theorem dX9_does_139 : decode cX9_does 139 = .ok (.iload_n 3, 1) := by decide +kernel
theorem dX9_does_140 : decode cX9_does 140 = .ok (.iastore, 1) := by decide +kernel
theorem dX9_does_141 : decode cX9_does 141 = .ok (.iconst 1, 1) := by decide +kernel
theorem dX9_does_142 : decode cX9_does 142 = .ok (.ireturn, 1) := by decide +kernel
theorem dX9_does_143 : decode cX9_does 143 = .ok (.iload_n 2, 1) := by decide +kernel
theorem dX9_does_144 : decode cX9_does 144 = .ok (.iconst 1, 1) := by decide +kernel
theorem dX9_does_145 : decode cX9_does 145 = .ok (.if_icmp .gt 8, 3) := by decide +kernel
theorem dX9_does_148 : decode cX9_does 148 = .ok (.iload_n 3, 1) := by decide +kernel
theorem dX9_does_149 : decode cX9_does 149 = .ok (.iconst 1, 1) := by decide +kernel
theorem dX9_does_150 : decode cX9_does 150 = .ok (.if_icmp .le 5, 3) := by decide +kernel
theorem dX9_does_153 : decode cX9_does 153 = .ok (.iconst 0, 1) := by decide +kernel
theorem dX9_does_154 : decode cX9_does 154 = .ok (.ireturn, 1) := by decide +kernel
theorem dX9_does_155 : decode cX9_does 155 = .ok (.aload_n 0, 1) := by decide +kernel
theorem dX9_does_156 : decode cX9_does 156 = .ok (.aload_n 0, 1) := by decide +kernel
theorem dX9_does_157 : decode cX9_does 157 = .ok (.getfield 26, 3) := by decide +kernel
theorem dX9_does_160 : decode cX9_does 160 = .ok (.iload_n 2, 1) := by decide +kernel
theorem dX9_does_161 : decode cX9_does 161 = .ok (.iload_n 3, 1) := by decide +kernel
theorem dX9_does_162 : decode cX9_does 162 = .ok (.iconst 1, 1) := by decide +kernel
theorem dX9_does_163 : decode cX9_does 163 = .ok (.if_icmp .ne 7, 3) := by decide +kernel
theorem dX9_does_166 : decode cX9_does 166 = .ok (.iconst 1, 1) := by decide +kernel
theorem dX9_does_167 : decode cX9_does 167 = .ok (.goto 4, 3) := by decide +kernel
theorem dX9_does_170 : decode cX9_does 170 = .ok (.iconst 0, 1) := by decide +kernel
theorem dX9_does_171 : decode cX9_does 171 = .ok (.invokevirtual 196, 3) := by decide +kernel
theorem dX9_does_174 : decode cX9_does 174 = .ok (.pop, 1) := by decide +kernel
theorem dX9_does_175 : decode cX9_does 175 = .ok (.iconst 1, 1) := by decide +kernel
theorem dX9_does_176 : decode cX9_does 176 = .ok (.ireturn, 1) := by decide +kernel
theorem dX9_does_177 : decode cX9_does 177 = .ok (.iload 4, 2) := by decide +kernel
theorem dX9_does_179 : decode cX9_does 179 = .ok (.ifCond .eq 22, 3) := by decide +kernel
theorem dX9_does_182 : decode cX9_does 182 = .ok (.iload_n 3, 1) := by decide +kernel
theorem dX9_does_183 : decode cX9_does 183 = .ok (.ifCond .ne 18, 3) := by decide +kernel
theorem dX9_does_186 : decode cX9_does 186 = .ok (.aload_n 0, 1) := by decide +kernel
theorem dX9_does_187 : decode cX9_does 187 = .ok (.getfield 26, 3) := by decide +kernel
theorem dX9_does_190 : decode cX9_does 190 = .ok (.iload_n 2, 1) := by decide +kernel
theorem dX9_does_191 : decode cX9_does 191 = .ok (.invokestatic 68, 3) := by decide +kernel
theorem dX9_does_194 : decode cX9_does 194 = .ok (.iconst 2, 1) := by decide +kernel
theorem dX9_does_195 : decode cX9_does 195 = .ok (.iadd, 1) := by decide +kernel
theorem dX9_does_196 : decode cX9_does 196 = .ok (.iaload, 1) := by decide +kernel
theorem dX9_does_197 : decode cX9_does 197 = .ok (.iconst 4, 1) := by decide +kernel
theorem dX9_does_198 : decode cX9_does 198 = .ok (.if_icmp .ne 5, 3) := by decide +kernel
theorem dX9_does_201 : decode cX9_does 201 = .ok (.iconst 0, 1) := by decide +kernel
theorem dX9_does_202 : decode cX9_does 202 = .ok (.ireturn, 1) := by decide +kernel
theorem dX9_does_203 : decode cX9_does 203 = .ok (.aload_n 0, 1) := by decide +kernel
theorem dX9_does_204 : decode cX9_does 204 = .ok (.getfield 26, 3) := by decide +kernel
theorem dX9_does_207 : decode cX9_does 207 = .ok (.iload_n 2, 1) := by decide +kernel
theorem dX9_does_208 : decode cX9_does 208 = .ok (.iconst 4, 1) := by decide +kernel
theorem dX9_does_209 : decode cX9_does 209 = .ok (.invokestatic 202, 3) := by decide +kernel
theorem dX9_does_212 : decode cX9_does 212 = .ok (.iconst 1, 1) := by decide +kernel
theorem dX9_does_213 : decode cX9_does 213 = .ok (.ireturn, 1) := by decide +kernel
theorem dX9_does_214 : decode cX9_does 214 = .ok (.iload 4, 2) := by decide +kernel
theorem dX9_does_216 : decode cX9_does 216 = .ok (.ifCond .eq 22, 3) := by decide +kernel
theorem dX9_does_219 : decode cX9_does 219 = .ok (.iload_n 3, 1) := by decide +kernel
theorem dX9_does_220 : decode cX9_does 220 = .ok (.ifCond .ne 18, 3) := by decide +kernel
theorem dX9_does_223 : decode cX9_does 223 = .ok (.aload_n 0, 1) := by decide +kernel
theorem dX9_does_224 : decode cX9_does 224 = .ok (.getfield 26, 3) := by decide +kernel
theorem dX9_does_227 : decode cX9_does 227 = .ok (.iload_n 2, 1) := by decide +kernel
theorem dX9_does_228 : decode cX9_does 228 = .ok (.invokestatic 68, 3) := by decide +kernel
theorem dX9_does_231 : decode cX9_does 231 = .ok (.iconst 2, 1) := by decide +kernel
theorem dX9_does_232 : decode cX9_does 232 = .ok (.iadd, 1) := by decide +kernel
theorem dX9_does_233 : decode cX9_does 233 = .ok (.iaload, 1) := by decide +kernel
theorem dX9_does_234 : decode cX9_does 234 = .ok (.iconst 4, 1) := by decide +kernel
theorem dX9_does_235 : decode cX9_does 235 = .ok (.if_icmp .eq 5, 3) := by decide +kernel
theorem dX9_does_238 : decode cX9_does 238 = .ok (.iconst 0, 1) := by decide +kernel
theorem dX9_does_239 : decode cX9_does 239 = .ok (.ireturn, 1) := by decide +kernel
theorem dX9_does_240 : decode cX9_does 240 = .ok (.aload_n 0, 1) := by decide +kernel
theorem dX9_does_241 : decode cX9_does 241 = .ok (.getfield 26, 3) := by decide +kernel
theorem dX9_does_244 : decode cX9_does 244 = .ok (.iload_n 2, 1) := by decide +kernel
theorem dX9_does_245 : decode cX9_does 245 = .ok (.iconst 0, 1) := by decide +kernel
theorem dX9_does_246 : decode cX9_does 246 = .ok (.invokestatic 202, 3) := by decide +kernel
theorem dX9_does_249 : decode cX9_does 249 = .ok (.iconst 1, 1) := by decide +kernel
theorem dX9_does_250 : decode cX9_does 250 = .ok (.ireturn, 1) := by decide +kernel
theorem dX9_does_251 : decode cX9_does 251 = .ok (.iload_n 2, 1) := by decide +kernel
theorem dX9_does_252 : decode cX9_does 252 = .ok (.ifCond .ne 25, 3) := by decide +kernel
theorem dX9_does_255 : decode cX9_does 255 = .ok (.iload_n 3, 1) := by decide +kernel
theorem dX9_does_256 : decode cX9_does 256 = .ok (.bipush 100, 2) := by decide +kernel
theorem dX9_does_258 : decode cX9_does 258 = .ok (.if_icmp .ge 19, 3) := by decide +kernel
theorem dX9_does_261 : decode cX9_does 261 = .ok (.aload_n 0, 1) := by decide +kernel
theorem dX9_does_262 : decode cX9_does 262 = .ok (.aload_n 0, 1) := by decide +kernel
theorem dX9_does_263 : decode cX9_does 263 = .ok (.getfield 26, 3) := by decide +kernel
theorem dX9_does_266 : decode cX9_does 266 = .ok (.invokevirtual 87, 3) := by decide +kernel
theorem dX9_does_269 : decode cX9_does 269 = .ok (.iload_n 3, 1) := by decide +kernel
theorem dX9_does_270 : decode cX9_does 270 = .ok (.if_icmp .lt 7, 3) := by decide +kernel
theorem dX9_does_273 : decode cX9_does 273 = .ok (.iconst 1, 1) := by decide +kernel
theorem dX9_does_274 : decode cX9_does 274 = .ok (.goto 4, 3) := by decide +kernel
theorem dX9_does_277 : decode cX9_does 277 = .ok (.iconst 0, 1) := by decide +kernel
theorem dX9_does_278 : decode cX9_does 278 = .ok (.ireturn, 1) := by decide +kernel
theorem dX9_does_279 : decode cX9_does 279 = .ok (.iload 4, 2) := by decide +kernel
theorem dX9_does_281 : decode cX9_does 281 = .ok (.ifCond .eq 28, 3) := by decide +kernel
theorem dX9_does_284 : decode cX9_does 284 = .ok (.iload_n 3, 1) := by decide +kernel
theorem dX9_does_285 : decode cX9_does 285 = .ok (.bipush 10, 2) := by decide +kernel
theorem dX9_does_287 : decode cX9_does 287 = .ok (.if_icmp .ge 22, 3) := by decide +kernel
theorem dX9_does_290 : decode cX9_does 290 = .ok (.aload_n 0, 1) := by decide +kernel
theorem dX9_does_291 : decode cX9_does 291 = .ok (.getfield 26, 3) := by decide +kernel
theorem dX9_does_294 : decode cX9_does 294 = .ok (.iload_n 2, 1) := by decide +kernel
theorem dX9_does_295 : decode cX9_does 295 = .ok (.invokestatic 68, 3) := by decide +kernel
theorem dX9_does_298 : decode cX9_does 298 = .ok (.iconst 2, 1) := by decide +kernel
theorem dX9_does_299 : decode cX9_does 299 = .ok (.iadd, 1) := by decide +kernel
theorem dX9_does_300 : decode cX9_does 300 = .ok (.iaload, 1) := by decide +kernel
theorem dX9_does_301 : decode cX9_does 301 = .ok (.iload_n 3, 1) := by decide +kernel
theorem dX9_does_302 : decode cX9_does 302 = .ok (.if_icmp .ne 7, 3) := by decide +kernel
theorem dX9_does_305 : decode cX9_does 305 = .ok (.iconst 1, 1) := by decide +kernel
theorem dX9_does_306 : decode cX9_does 306 = .ok (.goto 4, 3) := by decide +kernel
theorem dX9_does_309 : decode cX9_does 309 = .ok (.iconst 0, 1) := by decide +kernel
theorem dX9_does_310 : decode cX9_does 310 = .ok (.ireturn, 1) := by decide +kernel
theorem dX9_does_311 : decode cX9_does 311 = .ok (.iload_n 2, 1) := by decide +kernel
theorem dX9_does_312 : decode cX9_does 312 = .ok (.ifCond .ne 24, 3) := by decide +kernel
theorem dX9_does_315 : decode cX9_does 315 = .ok (.iload_n 3, 1) := by decide +kernel
theorem dX9_does_316 : decode cX9_does 316 = .ok (.bipush 10, 2) := by decide +kernel
theorem dX9_does_318 : decode cX9_does 318 = .ok (.if_icmp .ge 18, 3) := by decide +kernel
theorem dX9_does_321 : decode cX9_does 321 = .ok (.aload_n 0, 1) := by decide +kernel
theorem dX9_does_322 : decode cX9_does 322 = .ok (.getfield 26, 3) := by decide +kernel
theorem dX9_does_325 : decode cX9_does 325 = .ok (.bipush 11, 2) := by decide +kernel
theorem dX9_does_327 : decode cX9_does 327 = .ok (.iaload, 1) := by decide +kernel
theorem dX9_does_328 : decode cX9_does 328 = .ok (.iload_n 3, 1) := by decide +kernel
theorem dX9_does_329 : decode cX9_does 329 = .ok (.if_icmp .ne 7, 3) := by decide +kernel
theorem dX9_does_332 : decode cX9_does 332 = .ok (.iconst 1, 1) := by decide +kernel
theorem dX9_does_333 : decode cX9_does 333 = .ok (.goto 4, 3) := by decide +kernel
theorem dX9_does_336 : decode cX9_does 336 = .ok (.iconst 0, 1) := by decide +kernel
theorem dX9_does_337 : decode cX9_does 337 = .ok (.ireturn, 1) := by decide +kernel
theorem dX9_does_338 : decode cX9_does 338 = .ok (.iconst 0, 1) := by decide +kernel
theorem dX9_does_339 : decode cX9_does 339 = .ok (.ireturn, 1) := by decide +kernel
theorem dX9_runScript_0 : decode cX9_runScript 0 = .ok (.iload_n 1, 1) := by decide +kernel
theorem dX9_runScript_1 : decode cX9_runScript 1 = .ok (.iconst 1, 1) := by decide +kernel
theorem dX9_runScript_2 : decode cX9_runScript 2 = .ok (.if_icmp .ne 9, 3) := by decide +kernel
theorem dX9_runScript_5 : decode cX9_runScript 5 = .ok (.ldc2_w 214, 3) := by decide +kernel
theorem dX9_runScript_8 : decode cX9_runScript 8 = .ok (.goto 17, 3) := by decide +kernel
theorem dX9_runScript_11 : decode cX9_runScript 11 = .ok (.iload_n 1, 1) := by decide +kernel
theorem dX9_runScript_12 : decode cX9_runScript 12 = .ok (.iconst 2, 1) := by decide +kernel
theorem dX9_runScript_13 : decode cX9_runScript 13 = .ok (.if_icmp .ne 9, 3) := by decide +kernel
theorem dX9_runScript_16 : decode cX9_runScript 16 = .ok (.ldc2_w 216, 3) := by decide +kernel
theorem dX9_runScript_19 : decode cX9_runScript 19 = .ok (.goto 6, 3) := by decide +kernel
theorem dX9_runScript_22 : decode cX9_runScript 22 = .ok (.ldc2_w 218, 3) := by decide +kernel
theorem dX9_runScript_25 : decode cX9_runScript 25 = .ok (.lstore 4, 2) := by decide +kernel
theorem dX9_runScript_27 : decode cX9_runScript 27 = .ok (.aload_n 0, 1) := by decide +kernel
theorem dX9_runScript_28 : decode cX9_runScript 28 = .ok (.iload_n 1, 1) := by decide +kernel
theorem dX9_runScript_29 : decode cX9_runScript 29 = .ok (.i2l, 1) := by decide +kernel
theorem dX9_runScript_30 : decode cX9_runScript 30 = .ok (.lconst 1, 1) := by decide +kernel
theorem dX9_runScript_31 : decode cX9_runScript 31 = .ok (.ldc2_w 173, 3) := by decide +kernel
theorem dX9_runScript_34 : decode cX9_runScript 34 = .ok (.invokestatic 50, 3) := by decide +kernel
theorem dX9_runScript_37 : decode cX9_runScript 37 = .ok (.ifCond .eq 19, 3) := by decide +kernel
theorem dX9_runScript_40 : decode cX9_runScript 40 = .ok (.lload_n 2, 1) := by decide +kernel
theorem dX9_runScript_41 : decode cX9_runScript 41 = .ok (.lconst 0, 1) := by decide +kernel
theorem dX9_runScript_42 : decode cX9_runScript 42 = .ok (.lload 4, 2) := by decide +kernel
theorem dX9_runScript_44 : decode cX9_runScript 44 = .ok (.lconst 1, 1) := by decide +kernel
theorem dX9_runScript_45 : decode cX9_runScript 45 = .ok (.lsub, 1) := by decide +kernel
theorem dX9_runScript_46 : decode cX9_runScript 46 = .ok (.invokestatic 50, 3) := by decide +kernel
theorem dX9_runScript_49 : decode cX9_runScript 49 = .ok (.ifCond .eq 7, 3) := by decide +kernel
theorem dX9_runScript_52 : decode cX9_runScript 52 = .ok (.iconst 0, 1) := by decide +kernel
theorem dX9_runScript_53 : decode cX9_runScript 53 = .ok (.goto 4, 3) := by decide +kernel
theorem dX9_runScript_56 : decode cX9_runScript 56 = .ok (.iconst 1, 1) := by decide +kernel
theorem dX9_runScript_57 : decode cX9_runScript 57 = .ok (.invokevirtual 127, 3) := by decide +kernel
theorem dX9_runScript_60 : decode cX9_runScript 60 = .ok (.ifCond .eq 5, 3) := by decide +kernel
theorem dX9_runScript_63 : decode cX9_runScript 63 = .ok (.iconst 0, 1) := by decide +kernel
theorem dX9_runScript_64 : decode cX9_runScript 64 = .ok (.ireturn, 1) := by decide +kernel
theorem dX9_runScript_65 : decode cX9_runScript 65 = .ok (.aload_n 0, 1) := by decide +kernel
theorem dX9_runScript_66 : decode cX9_runScript 66 = .ok (.getfield 23, 3) := by decide +kernel
theorem dX9_runScript_69 : decode cX9_runScript 69 = .ok (.iconst 0, 1) := by decide +kernel
theorem dX9_runScript_70 : decode cX9_runScript 70 = .ok (.aload_n 0, 1) := by decide +kernel
theorem dX9_runScript_71 : decode cX9_runScript 71 = .ok (.getfield 26, 3) := by decide +kernel
theorem dX9_runScript_74 : decode cX9_runScript 74 = .ok (.iconst 0, 1) := by decide +kernel
theorem dX9_runScript_75 : decode cX9_runScript 75 = .ok (.invokestatic 156, 3) := by decide +kernel
theorem dX9_runScript_78 : decode cX9_runScript 78 = .ok (.lload_n 2, 1) := by decide +kernel
theorem dX9_runScript_79 : decode cX9_runScript 79 = .ok (.lstore 6, 2) := by decide +kernel
theorem dX9_runScript_81 : decode cX9_runScript 81 = .ok (.iconst 0, 1) := by decide +kernel
theorem dX9_runScript_82 : decode cX9_runScript 82 = .ok (.istore 8, 2) := by decide +kernel
theorem dX9_runScript_84 : decode cX9_runScript 84 = .ok (.iload 8, 2) := by decide +kernel
theorem dX9_runScript_86 : decode cX9_runScript 86 = .ok (.iload_n 1, 1) := by decide +kernel
theorem dX9_runScript_87 : decode cX9_runScript 87 = .ok (.if_icmp .ge 63, 3) := by decide +kernel
theorem dX9_runScript_90 : decode cX9_runScript 90 = .ok (.lload 4, 2) := by decide +kernel
theorem dX9_runScript_92 : decode cX9_runScript 92 = .ok (.ldc2_w 214, 3) := by decide +kernel
theorem dX9_runScript_95 : decode cX9_runScript 95 = .ok (.ldiv, 1) := by decide +kernel
theorem dX9_runScript_96 : decode cX9_runScript 96 = .ok (.lstore 4, 2) := by decide +kernel
theorem dX9_runScript_98 : decode cX9_runScript 98 = .ok (.lload 6, 2) := by decide +kernel
theorem dX9_runScript_100 : decode cX9_runScript 100 = .ok (.lload 4, 2) := by decide +kernel
theorem dX9_runScript_102 : decode cX9_runScript 102 = .ok (.ldiv, 1) := by decide +kernel
theorem dX9_runScript_103 : decode cX9_runScript 103 = .ok (.l2i, 1) := by decide +kernel
theorem dX9_runScript_104 : decode cX9_runScript 104 = .ok (.istore 9, 2) := by decide +kernel
theorem dX9_runScript_106 : decode cX9_runScript 106 = .ok (.lload 6, 2) := by decide +kernel
theorem dX9_runScript_108 : decode cX9_runScript 108 = .ok (.lload 4, 2) := by decide +kernel
theorem dX9_runScript_110 : decode cX9_runScript 110 = .ok (.lrem, 1) := by decide +kernel
theorem dX9_runScript_111 : decode cX9_runScript 111 = .ok (.lstore 6, 2) := by decide +kernel
theorem dX9_runScript_113 : decode cX9_runScript 113 = .ok (.aload_n 0, 1) := by decide +kernel
theorem dX9_runScript_114 : decode cX9_runScript 114 = .ok (.iload 9, 2) := by decide +kernel
theorem dX9_runScript_116 : decode cX9_runScript 116 = .ok (.sipush 10000, 3) := by decide +kernel
theorem dX9_runScript_119 : decode cX9_runScript 119 = .ok (.idiv, 1) := by decide +kernel
theorem dX9_runScript_120 : decode cX9_runScript 120 = .ok (.iload 9, 2) := by decide +kernel
theorem dX9_runScript_122 : decode cX9_runScript 122 = .ok (.sipush 1000, 3) := by decide +kernel
theorem dX9_runScript_125 : decode cX9_runScript 125 = .ok (.idiv, 1) := by decide +kernel
theorem dX9_runScript_126 : decode cX9_runScript 126 = .ok (.bipush 10, 2) := by decide +kernel
theorem dX9_runScript_128 : decode cX9_runScript 128 = .ok (.irem, 1) := by decide +kernel
theorem dX9_runScript_129 : decode cX9_runScript 129 = .ok (.iload 9, 2) := by decide +kernel
theorem dX9_runScript_131 : decode cX9_runScript 131 = .ok (.sipush 1000, 3) := by decide +kernel
theorem dX9_runScript_134 : decode cX9_runScript 134 = .ok (.irem, 1) := by decide +kernel
theorem dX9_runScript_135 : decode cX9_runScript 135 = .ok (.invokevirtual 220, 3) := by decide +kernel
theorem dX9_runScript_138 : decode cX9_runScript 138 = .ok (.ifCond .ne 6, 3) := by decide +kernel
theorem dX9_runScript_141 : decode cX9_runScript 141 = .ok (.iload 8, 2) := by decide +kernel
theorem dX9_runScript_143 : decode cX9_runScript 143 = .ok (.ireturn, 1) := by decide +kernel
theorem dX9_runScript_144 : decode cX9_runScript 144 = .ok (.iinc 8 1, 3) := by decide +kernel
theorem dX9_runScript_147 : decode cX9_runScript 147 = .ok (.goto (-63), 3) := by decide +kernel
theorem dX9_runScript_150 : decode cX9_runScript 150 = .ok (.bipush (-9), 2) := by decide +kernel
theorem dX9_runScript_152 : decode cX9_runScript 152 = .ok (.ireturn, 1) := by decide +kernel
theorem dX9_simulate_0 : decode cX9_simulate 0 = .ok (.aload_n 0, 1) := by decide +kernel
theorem dX9_simulate_1 : decode cX9_simulate 1 = .ok (.iload_n 3, 1) := by decide +kernel
theorem dX9_simulate_2 : decode cX9_simulate 2 = .ok (.i2l, 1) := by decide +kernel
theorem dX9_simulate_3 : decode cX9_simulate 3 = .ok (.lconst 1, 1) := by decide +kernel
theorem dX9_simulate_4 : decode cX9_simulate 4 = .ok (.ldc2_w 178, 3) := by decide +kernel
theorem dX9_simulate_7 : decode cX9_simulate 7 = .ok (.invokestatic 50, 3) := by decide +kernel
theorem dX9_simulate_10 : decode cX9_simulate 10 = .ok (.ifCond .eq 7, 3) := by decide +kernel
theorem dX9_simulate_13 : decode cX9_simulate 13 = .ok (.iconst 0, 1) := by decide +kernel
theorem dX9_simulate_14 : decode cX9_simulate 14 = .ok (.goto 4, 3) := by decide +kernel
theorem dX9_simulate_17 : decode cX9_simulate 17 = .ok (.iconst 1, 1) := by decide +kernel
theorem dX9_simulate_18 : decode cX9_simulate 18 = .ok (.invokevirtual 127, 3) := by decide +kernel
theorem dX9_simulate_21 : decode cX9_simulate 21 = .ok (.ifCond .eq 5, 3) := by decide +kernel
theorem dX9_simulate_24 : decode cX9_simulate 24 = .ok (.iconst 0, 1) := by decide +kernel
theorem dX9_simulate_25 : decode cX9_simulate 25 = .ok (.ireturn, 1) := by decide +kernel
theorem dX9_simulate_26 : decode cX9_simulate 26 = .ok (.aload_n 0, 1) := by decide +kernel
theorem dX9_simulate_27 : decode cX9_simulate 27 = .ok (.getfield 23, 3) := by decide +kernel
theorem dX9_simulate_30 : decode cX9_simulate 30 = .ok (.iconst 0, 1) := by decide +kernel
theorem dX9_simulate_31 : decode cX9_simulate 31 = .ok (.aload_n 0, 1) := by decide +kernel
theorem dX9_simulate_32 : decode cX9_simulate 32 = .ok (.getfield 26, 3) := by decide +kernel
theorem dX9_simulate_35 : decode cX9_simulate 35 = .ok (.iconst 0, 1) := by decide +kernel
theorem dX9_simulate_36 : decode cX9_simulate 36 = .ok (.invokestatic 156, 3) := by decide +kernel
theorem dX9_simulate_39 : decode cX9_simulate 39 = .ok (.lload_n 1, 1) := by decide +kernel
theorem dX9_simulate_40 : decode cX9_simulate 40 = .ok (.lstore 4, 2) := by decide +kernel
theorem dX9_simulate_42 : decode cX9_simulate 42 = .ok (.iconst 0, 1) := by decide +kernel
theorem dX9_simulate_43 : decode cX9_simulate 43 = .ok (.istore 6, 2) := by decide +kernel
theorem dX9_simulate_45 : decode cX9_simulate 45 = .ok (.iload 6, 2) := by decide +kernel
theorem dX9_simulate_47 : decode cX9_simulate 47 = .ok (.iload_n 3, 1) := by decide +kernel
theorem dX9_simulate_48 : decode cX9_simulate 48 = .ok (.if_icmp .ge 90, 3) := by decide +kernel
theorem dX9_simulate_51 : decode cX9_simulate 51 = .ok (.lload 4, 2) := by decide +kernel
theorem dX9_simulate_53 : decode cX9_simulate 53 = .ok (.ldc2_w 224, 3) := by decide +kernel
theorem dX9_simulate_56 : decode cX9_simulate 56 = .ok (.lmul, 1) := by decide +kernel
theorem dX9_simulate_57 : decode cX9_simulate 57 = .ok (.ldc2_w 226, 3) := by decide +kernel
theorem dX9_simulate_60 : decode cX9_simulate 60 = .ok (.ladd, 1) := by decide +kernel
theorem dX9_simulate_61 : decode cX9_simulate 61 = .ok (.lstore 4, 2) := by decide +kernel
theorem dX9_simulate_63 : decode cX9_simulate 63 = .ok (.lload 4, 2) := by decide +kernel
theorem dX9_simulate_65 : decode cX9_simulate 65 = .ok (.bipush 33, 2) := by decide +kernel
theorem dX9_simulate_67 : decode cX9_simulate 67 = .ok (.lushr, 1) := by decide +kernel
theorem dX9_simulate_68 : decode cX9_simulate 68 = .ok (.l2i, 1) := by decide +kernel
theorem dX9_simulate_69 : decode cX9_simulate 69 = .ok (.istore 7, 2) := by decide +kernel
theorem dX9_simulate_71 : decode cX9_simulate 71 = .ok (.iload 7, 2) := by decide +kernel
theorem dX9_simulate_73 : decode cX9_simulate 73 = .ok (.bipush 16, 2) := by decide +kernel
theorem dX9_simulate_75 : decode cX9_simulate 75 = .ok (.idiv, 1) := by decide +kernel
theorem dX9_simulate_76 : decode cX9_simulate 76 = .ok (.iconst 2, 1) := by decide +kernel
theorem dX9_simulate_77 : decode cX9_simulate 77 = .ok (.irem, 1) := by decide +kernel
theorem dX9_simulate_78 : decode cX9_simulate 78 = .ok (.istore 8, 2) := by decide +kernel
theorem dX9_simulate_80 : decode cX9_simulate 80 = .ok (.iload 7, 2) := by decide +kernel
theorem dX9_simulate_82 : decode cX9_simulate 82 = .ok (.bipush 16, 2) := by decide +kernel
theorem dX9_simulate_84 : decode cX9_simulate 84 = .ok (.irem, 1) := by decide +kernel
theorem dX9_simulate_85 : decode cX9_simulate 85 = .ok (.ifCond .ne 32, 3) := by decide +kernel
theorem dX9_simulate_88 : decode cX9_simulate 88 = .ok (.aload_n 0, 1) := by decide +kernel
theorem dX9_simulate_89 : decode cX9_simulate 89 = .ok (.aload_n 0, 1) := by decide +kernel
theorem dX9_simulate_90 : decode cX9_simulate 90 = .ok (.getfield 26, 3) := by decide +kernel
theorem dX9_simulate_93 : decode cX9_simulate 93 = .ok (.iload 8, 2) := by decide +kernel
theorem dX9_simulate_95 : decode cX9_simulate 95 = .ok (.aload_n 0, 1) := by decide +kernel
theorem dX9_simulate_96 : decode cX9_simulate 96 = .ok (.getfield 26, 3) := by decide +kernel
theorem dX9_simulate_99 : decode cX9_simulate 99 = .ok (.bipush 20, 2) := by decide +kernel
theorem dX9_simulate_101 : decode cX9_simulate 101 = .ok (.iload 8, 2) := by decide +kernel
theorem dX9_simulate_103 : decode cX9_simulate 103 = .ok (.iadd, 1) := by decide +kernel
theorem dX9_simulate_104 : decode cX9_simulate 104 = .ok (.iaload, 1) := by decide +kernel
theorem dX9_simulate_105 : decode cX9_simulate 105 = .ok (.ifCond .ne 7, 3) := by decide +kernel
theorem dX9_simulate_108 : decode cX9_simulate 108 = .ok (.iconst 1, 1) := by decide +kernel
theorem dX9_simulate_109 : decode cX9_simulate 109 = .ok (.goto 4, 3) := by decide +kernel
theorem dX9_simulate_112 : decode cX9_simulate 112 = .ok (.iconst 0, 1) := by decide +kernel
theorem dX9_simulate_113 : decode cX9_simulate 113 = .ok (.invokevirtual 196, 3) := by decide +kernel
theorem dX9_simulate_116 : decode cX9_simulate 116 = .ok (.pop, 1) := by decide +kernel
theorem dX9_simulate_117 : decode cX9_simulate 117 = .ok (.aload_n 0, 1) := by decide +kernel
theorem dX9_simulate_118 : decode cX9_simulate 118 = .ok (.aload_n 0, 1) := by decide +kernel
theorem dX9_simulate_119 : decode cX9_simulate 119 = .ok (.getfield 26, 3) := by decide +kernel
theorem dX9_simulate_122 : decode cX9_simulate 122 = .ok (.iload 7, 2) := by decide +kernel
theorem dX9_simulate_124 : decode cX9_simulate 124 = .ok (.bipush 64, 2) := by decide +kernel
theorem dX9_simulate_126 : decode cX9_simulate 126 = .ok (.idiv, 1) := by decide +kernel
theorem dX9_simulate_127 : decode cX9_simulate 127 = .ok (.iconst 4, 1) := by decide +kernel
theorem dX9_simulate_128 : decode cX9_simulate 128 = .ok (.irem, 1) := by decide +kernel
theorem dX9_simulate_129 : decode cX9_simulate 129 = .ok (.invokevirtual 119, 3) := by decide +kernel
theorem dX9_simulate_132 : decode cX9_simulate 132 = .ok (.iinc 6 1, 3) := by decide +kernel
theorem dX9_simulate_135 : decode cX9_simulate 135 = .ok (.goto (-90), 3) := by decide +kernel
theorem dX9_simulate_138 : decode cX9_simulate 138 = .ok (.sipush 1000, 3) := by decide +kernel
theorem dX9_simulate_141 : decode cX9_simulate 141 = .ok (.aload_n 0, 1) := by decide +kernel
theorem dX9_simulate_142 : decode cX9_simulate 142 = .ok (.aload_n 0, 1) := by decide +kernel
theorem dX9_simulate_143 : decode cX9_simulate 143 = .ok (.getfield 26, 3) := by decide +kernel
theorem dX9_simulate_146 : decode cX9_simulate 146 = .ok (.invokevirtual 175, 3) := by decide +kernel
theorem dX9_simulate_149 : decode cX9_simulate 149 = .ok (.aload_n 0, 1) := by decide +kernel
theorem dX9_simulate_150 : decode cX9_simulate 150 = .ok (.aload_n 0, 1) := by decide +kernel
theorem dX9_simulate_151 : decode cX9_simulate 151 = .ok (.getfield 23, 3) := by decide +kernel
theorem dX9_simulate_154 : decode cX9_simulate 154 = .ok (.invokevirtual 175, 3) := by decide +kernel
theorem dX9_simulate_157 : decode cX9_simulate 157 = .ok (.isub, 1) := by decide +kernel
theorem dX9_simulate_158 : decode cX9_simulate 158 = .ok (.imul, 1) := by decide +kernel
theorem dX9_simulate_159 : decode cX9_simulate 159 = .ok (.aload_n 0, 1) := by decide +kernel
theorem dX9_simulate_160 : decode cX9_simulate 160 = .ok (.aload_n 0, 1) := by decide +kernel
theorem dX9_simulate_161 : decode cX9_simulate 161 = .ok (.getfield 26, 3) := by decide +kernel
theorem dX9_simulate_164 : decode cX9_simulate 164 = .ok (.invokevirtual 87, 3) := by decide +kernel
theorem dX9_simulate_167 : decode cX9_simulate 167 = .ok (.iadd, 1) := by decide +kernel
theorem dX9_simulate_168 : decode cX9_simulate 168 = .ok (.ireturn, 1) := by decide +kernel
theorem dX9_save_0 : decode cX9_save 0 = .ok (.aload_n 0, 1) := by decide +kernel
theorem dX9_save_1 : decode cX9_save 1 = .ok (.iload_n 1, 1) := by decide +kernel
theorem dX9_save_2 : decode cX9_save 2 = .ok (.i2l, 1) := by decide +kernel
theorem dX9_save_3 : decode cX9_save 3 = .ok (.lconst 0, 1) := by decide +kernel
theorem dX9_save_4 : decode cX9_save 4 = .ok (.lconst 1, 1) := by decide +kernel
theorem dX9_save_5 : decode cX9_save 5 = .ok (.invokestatic 50, 3) := by decide +kernel
theorem dX9_save_8 : decode cX9_save 8 = .ok (.ifCond .eq 7, 3) := by decide +kernel
theorem dX9_save_11 : decode cX9_save 11 = .ok (.iconst 0, 1) := by decide +kernel
theorem dX9_save_12 : decode cX9_save 12 = .ok (.goto 4, 3) := by decide +kernel
theorem dX9_save_15 : decode cX9_save 15 = .ok (.iconst 1, 1) := by decide +kernel
theorem dX9_save_16 : decode cX9_save 16 = .ok (.invokevirtual 127, 3) := by decide +kernel
theorem dX9_save_19 : decode cX9_save 19 = .ok (.ifCond .eq 5, 3) := by decide +kernel
theorem dX9_save_22 : decode cX9_save 22 = .ok (.iconst 0, 1) := by decide +kernel
theorem dX9_save_23 : decode cX9_save 23 = .ok (.ireturn, 1) := by decide +kernel
theorem dX9_save_24 : decode cX9_save 24 = .ok (.aload_n 0, 1) := by decide +kernel
theorem dX9_save_25 : decode cX9_save 25 = .ok (.getfield 35, 3) := by decide +kernel
theorem dX9_save_28 : decode cX9_save 28 = .ok (.iload_n 1, 1) := by decide +kernel
theorem dX9_save_29 : decode cX9_save 29 = .ok (.iconst 1, 1) := by decide +kernel
theorem dX9_save_30 : decode cX9_save 30 = .ok (.bastore, 1) := by decide +kernel
theorem dX9_save_31 : decode cX9_save 31 = .ok (.aload_n 0, 1) := by decide +kernel
theorem dX9_save_32 : decode cX9_save 32 = .ok (.getfield 23, 3) := by decide +kernel
theorem dX9_save_35 : decode cX9_save 35 = .ok (.iconst 0, 1) := by decide +kernel
theorem dX9_save_36 : decode cX9_save 36 = .ok (.aload_n 0, 1) := by decide +kernel
theorem dX9_save_37 : decode cX9_save 37 = .ok (.getfield 32, 3) := by decide +kernel
theorem dX9_save_40 : decode cX9_save 40 = .ok (.bipush 65, 2) := by decide +kernel
theorem dX9_save_42 : decode cX9_save 42 = .ok (.iload_n 1, 1) := by decide +kernel
theorem dX9_save_43 : decode cX9_save 43 = .ok (.imul, 1) := by decide +kernel
theorem dX9_save_44 : decode cX9_save 44 = .ok (.invokestatic 156, 3) := by decide +kernel
theorem dX9_save_47 : decode cX9_save 47 = .ok (.aload_n 0, 1) := by decide +kernel
theorem dX9_save_48 : decode cX9_save 48 = .ok (.getfield 23, 3) := by decide +kernel
theorem dX9_save_51 : decode cX9_save 51 = .ok (.bipush 6, 2) := by decide +kernel
theorem dX9_save_53 : decode cX9_save 53 = .ok (.iaload, 1) := by decide +kernel
theorem dX9_save_54 : decode cX9_save 54 = .ok (.ireturn, 1) := by decide +kernel
theorem dX9_restore_0 : decode cX9_restore 0 = .ok (.aload_n 0, 1) := by decide +kernel
theorem dX9_restore_1 : decode cX9_restore 1 = .ok (.iload_n 1, 1) := by decide +kernel
theorem dX9_restore_2 : decode cX9_restore 2 = .ok (.i2l, 1) := by decide +kernel
theorem dX9_restore_3 : decode cX9_restore 3 = .ok (.lconst 0, 1) := by decide +kernel
theorem dX9_restore_4 : decode cX9_restore 4 = .ok (.lconst 1, 1) := by decide +kernel
theorem dX9_restore_5 : decode cX9_restore 5 = .ok (.invokestatic 50, 3) := by decide +kernel
theorem dX9_restore_8 : decode cX9_restore 8 = .ok (.ifCond .ne 7, 3) := by decide +kernel
theorem dX9_restore_11 : decode cX9_restore 11 = .ok (.iconst 1, 1) := by decide +kernel
theorem dX9_restore_12 : decode cX9_restore 12 = .ok (.goto 17, 3) := by decide +kernel
theorem dX9_restore_15 : decode cX9_restore 15 = .ok (.aload_n 0, 1) := by decide +kernel
theorem dX9_restore_16 : decode cX9_restore 16 = .ok (.getfield 35, 3) := by decide +kernel
theorem dX9_restore_19 : decode cX9_restore 19 = .ok (.iload_n 1, 1) := by decide +kernel
theorem dX9_restore_20 : decode cX9_restore 20 = .ok (.baload, 1) := by decide +kernel
theorem dX9_restore_21 : decode cX9_restore 21 = .ok (.ifCond .ne 7, 3) := by decide +kernel
theorem dX9_restore_24 : decode cX9_restore 24 = .ok (.iconst 2, 1) := by decide +kernel
theorem dX9_restore_25 : decode cX9_restore 25 = .ok (.goto 4, 3) := by decide +kernel
theorem dX9_restore_28 : decode cX9_restore 28 = .ok (.iconst 0, 1) := by decide +kernel
theorem dX9_restore_29 : decode cX9_restore 29 = .ok (.invokevirtual 127, 3) := by decide +kernel
theorem dX9_restore_32 : decode cX9_restore 32 = .ok (.ifCond .eq 5, 3) := by decide +kernel
theorem dX9_restore_35 : decode cX9_restore 35 = .ok (.iconst 0, 1) := by decide +kernel
theorem dX9_restore_36 : decode cX9_restore 36 = .ok (.ireturn, 1) := by decide +kernel
theorem dX9_restore_37 : decode cX9_restore 37 = .ok (.aload_n 0, 1) := by decide +kernel
theorem dX9_restore_38 : decode cX9_restore 38 = .ok (.getfield 32, 3) := by decide +kernel
theorem dX9_restore_41 : decode cX9_restore 41 = .ok (.bipush 65, 2) := by decide +kernel
theorem dX9_restore_43 : decode cX9_restore 43 = .ok (.iload_n 1, 1) := by decide +kernel
theorem dX9_restore_44 : decode cX9_restore 44 = .ok (.imul, 1) := by decide +kernel
theorem dX9_restore_45 : decode cX9_restore 45 = .ok (.aload_n 0, 1) := by decide +kernel
theorem dX9_restore_46 : decode cX9_restore 46 = .ok (.getfield 23, 3) := by decide +kernel
theorem dX9_restore_49 : decode cX9_restore 49 = .ok (.iconst 0, 1) := by decide +kernel
theorem dX9_restore_50 : decode cX9_restore 50 = .ok (.invokestatic 156, 3) := by decide +kernel
theorem dX9_restore_53 : decode cX9_restore 53 = .ok (.aload_n 0, 1) := by decide +kernel
theorem dX9_restore_54 : decode cX9_restore 54 = .ok (.iconst 0, 1) := by decide +kernel
theorem dX9_restore_55 : decode cX9_restore 55 = .ok (.putfield 160, 3) := by decide +kernel
theorem dX9_restore_58 : decode cX9_restore 58 = .ok (.aload_n 0, 1) := by decide +kernel
theorem dX9_restore_59 : decode cX9_restore 59 = .ok (.getfield 23, 3) := by decide +kernel
theorem dX9_restore_62 : decode cX9_restore 62 = .ok (.bipush 6, 2) := by decide +kernel
theorem dX9_restore_64 : decode cX9_restore 64 = .ok (.iaload, 1) := by decide +kernel
theorem dX9_restore_65 : decode cX9_restore 65 = .ok (.ireturn, 1) := by decide +kernel
theorem dJ6_bitCount_0f7a4_0 : decode cJ6_bitCount_0f7a4 0 = .ok (.iload_n 0, 1) := by decide +kernel
theorem dJ6_bitCount_0f7a4_1 : decode cJ6_bitCount_0f7a4 1 = .ok (.iload_n 0, 1) := by decide +kernel
theorem dJ6_bitCount_0f7a4_2 : decode cJ6_bitCount_0f7a4 2 = .ok (.iconst 1, 1) := by decide +kernel
theorem dJ6_bitCount_0f7a4_3 : decode cJ6_bitCount_0f7a4 3 = .ok (.iushr, 1) := by decide +kernel
theorem dJ6_bitCount_0f7a4_4 : decode cJ6_bitCount_0f7a4 4 = .ok (.ldc_w 265, 3) := by decide +kernel
theorem dJ6_bitCount_0f7a4_7 : decode cJ6_bitCount_0f7a4 7 = .ok (.iand, 1) := by decide +kernel
theorem dJ6_bitCount_0f7a4_8 : decode cJ6_bitCount_0f7a4 8 = .ok (.isub, 1) := by decide +kernel
theorem dJ6_bitCount_0f7a4_9 : decode cJ6_bitCount_0f7a4 9 = .ok (.istore_n 0, 1) := by decide +kernel
theorem dJ6_bitCount_0f7a4_10 : decode cJ6_bitCount_0f7a4 10 = .ok (.iload_n 0, 1) := by decide +kernel
theorem dJ6_bitCount_0f7a4_11 : decode cJ6_bitCount_0f7a4 11 = .ok (.ldc_w 266, 3) := by decide +kernel
theorem dJ6_bitCount_0f7a4_14 : decode cJ6_bitCount_0f7a4 14 = .ok (.iand, 1) := by decide +kernel
theorem dJ6_bitCount_0f7a4_15 : decode cJ6_bitCount_0f7a4 15 = .ok (.iload_n 0, 1) := by decide +kernel
theorem dJ6_bitCount_0f7a4_16 : decode cJ6_bitCount_0f7a4 16 = .ok (.iconst 2, 1) := by decide +kernel
theorem dJ6_bitCount_0f7a4_17 : decode cJ6_bitCount_0f7a4 17 = .ok (.iushr, 1) := by decide +kernel
theorem dJ6_bitCount_0f7a4_18 : decode cJ6_bitCount_0f7a4 18 = .ok (.ldc_w 266, 3) := by decide +kernel
theorem dJ6_bitCount_0f7a4_21 : decode cJ6_bitCount_0f7a4 21 = .ok (.iand, 1) := by decide +kernel
theorem dJ6_bitCount_0f7a4_22 : decode cJ6_bitCount_0f7a4 22 = .ok (.iadd, 1) := by decide +kernel
theorem dJ6_bitCount_0f7a4_23 : decode cJ6_bitCount_0f7a4 23 = .ok (.istore_n 0, 1) := by decide +kernel
theorem dJ6_bitCount_0f7a4_24 : decode cJ6_bitCount_0f7a4 24 = .ok (.iload_n 0, 1) := by decide +kernel
theorem dJ6_bitCount_0f7a4_25 : decode cJ6_bitCount_0f7a4 25 = .ok (.iload_n 0, 1) := by decide +kernel
theorem dJ6_bitCount_0f7a4_26 : decode cJ6_bitCount_0f7a4 26 = .ok (.iconst 4, 1) := by decide +kernel
theorem dJ6_bitCount_0f7a4_27 : decode cJ6_bitCount_0f7a4 27 = .ok (.iushr, 1) := by decide +kernel
theorem dJ6_bitCount_0f7a4_28 : decode cJ6_bitCount_0f7a4 28 = .ok (.iadd, 1) := by decide +kernel
theorem dJ6_bitCount_0f7a4_29 : decode cJ6_bitCount_0f7a4 29 = .ok (.ldc_w 267, 3) := by decide +kernel
theorem dJ6_bitCount_0f7a4_32 : decode cJ6_bitCount_0f7a4 32 = .ok (.iand, 1) := by decide +kernel
theorem dJ6_bitCount_0f7a4_33 : decode cJ6_bitCount_0f7a4 33 = .ok (.istore_n 0, 1) := by decide +kernel
theorem dJ6_bitCount_0f7a4_34 : decode cJ6_bitCount_0f7a4 34 = .ok (.iload_n 0, 1) := by decide +kernel
theorem dJ6_bitCount_0f7a4_35 : decode cJ6_bitCount_0f7a4 35 = .ok (.iload_n 0, 1) := by decide +kernel
theorem dJ6_bitCount_0f7a4_36 : decode cJ6_bitCount_0f7a4 36 = .ok (.bipush 8, 2) := by decide +kernel
theorem dJ6_bitCount_0f7a4_38 : decode cJ6_bitCount_0f7a4 38 = .ok (.iushr, 1) := by decide +kernel
theorem dJ6_bitCount_0f7a4_39 : decode cJ6_bitCount_0f7a4 39 = .ok (.iadd, 1) := by decide +kernel
theorem dJ6_bitCount_0f7a4_40 : decode cJ6_bitCount_0f7a4 40 = .ok (.istore_n 0, 1) := by decide +kernel
theorem dJ6_bitCount_0f7a4_41 : decode cJ6_bitCount_0f7a4 41 = .ok (.iload_n 0, 1) := by decide +kernel
theorem dJ6_bitCount_0f7a4_42 : decode cJ6_bitCount_0f7a4 42 = .ok (.iload_n 0, 1) := by decide +kernel
theorem dJ6_bitCount_0f7a4_43 : decode cJ6_bitCount_0f7a4 43 = .ok (.bipush 16, 2) := by decide +kernel
theorem dJ6_bitCount_0f7a4_45 : decode cJ6_bitCount_0f7a4 45 = .ok (.iushr, 1) := by decide +kernel
theorem dJ6_bitCount_0f7a4_46 : decode cJ6_bitCount_0f7a4 46 = .ok (.iadd, 1) := by decide +kernel
theorem dJ6_bitCount_0f7a4_47 : decode cJ6_bitCount_0f7a4 47 = .ok (.istore_n 0, 1) := by decide +kernel
theorem dJ6_bitCount_0f7a4_48 : decode cJ6_bitCount_0f7a4 48 = .ok (.iload_n 0, 1) := by decide +kernel
theorem dJ6_bitCount_0f7a4_49 : decode cJ6_bitCount_0f7a4 49 = .ok (.bipush 63, 2) := by decide +kernel
theorem dJ6_bitCount_0f7a4_51 : decode cJ6_bitCount_0f7a4 51 = .ok (.iand, 1) := by decide +kernel
theorem dJ6_bitCount_0f7a4_52 : decode cJ6_bitCount_0f7a4 52 = .ok (.ireturn, 1) := by decide +kernel
theorem dJ9_min_7cf53_0 : decode cJ9_min_7cf53 0 = .ok (.iload_n 0, 1) := by decide +kernel
theorem dJ9_min_7cf53_1 : decode cJ9_min_7cf53 1 = .ok (.iload_n 1, 1) := by decide +kernel
theorem dJ9_min_7cf53_2 : decode cJ9_min_7cf53 2 = .ok (.if_icmp .gt 7, 3) := by decide +kernel
theorem dJ9_min_7cf53_5 : decode cJ9_min_7cf53 5 = .ok (.iload_n 0, 1) := by decide +kernel
theorem dJ9_min_7cf53_6 : decode cJ9_min_7cf53 6 = .ok (.goto 4, 3) := by decide +kernel
theorem dJ9_min_7cf53_9 : decode cJ9_min_7cf53 9 = .ok (.iload_n 1, 1) := by decide +kernel
theorem dJ9_min_7cf53_10 : decode cJ9_min_7cf53 10 = .ok (.ireturn, 1) := by decide +kernel
theorem dL_append_0 : decode cL_append 0 = .ok (.aload_n 2, 1) := by decide +kernel
theorem dL_append_1 : decode cL_append 1 = .ok (.iconst 0, 1) := by decide +kernel
theorem dL_append_2 : decode cL_append 2 = .ok (.aload_n 0, 1) := by decide +kernel
theorem dL_append_3 : decode cL_append 3 = .ok (.iload_n 1, 1) := by decide +kernel
theorem dL_append_4 : decode cL_append 4 = .ok (.invokevirtual 7, 3) := by decide +kernel
theorem dL_append_7 : decode cL_append 7 = .ok (.i2l, 1) := by decide +kernel
theorem dL_append_8 : decode cL_append 8 = .ok (.lastore, 1) := by decide +kernel
theorem dL_append_9 : decode cL_append 9 = .ok (.goto 9, 3) := by decide +kernel
theorem dL_append_12 : decode cL_append 12 = .ok (.astore_n 3, 1) := by decide +kernel
theorem dL_append_13 : decode cL_append 13 = .ok (.iconst 1, 1) := by decide +kernel
theorem dL_append_14 : decode cL_append 14 = .ok (.ireturn, 1) := by decide +kernel
theorem dL_append_15 : decode cL_append 15 = .ok (.astore_n 3, 1) := by decide +kernel
theorem dL_append_16 : decode cL_append 16 = .ok (.iconst 2, 1) := by decide +kernel
theorem dL_append_17 : decode cL_append 17 = .ok (.ireturn, 1) := by decide +kernel
theorem dL_append_18 : decode cL_append 18 = .ok (.iconst 0, 1) := by decide +kernel
theorem dL_append_19 : decode cL_append 19 = .ok (.ireturn, 1) := by decide +kernel
theorem dL_load_0 : decode cL_load 0 = .ok (.aload_n 1, 1) := by decide +kernel
theorem dL_load_1 : decode cL_load 1 = .ok (.iconst 0, 1) := by decide +kernel
theorem dL_load_2 : decode cL_load 2 = .ok (.aload_n 0, 1) := by decide +kernel
theorem dL_load_3 : decode cL_load 3 = .ok (.invokevirtual 17, 3) := by decide +kernel
theorem dL_load_6 : decode cL_load 6 = .ok (.i2l, 1) := by decide +kernel
theorem dL_load_7 : decode cL_load 7 = .ok (.lastore, 1) := by decide +kernel
theorem dL_load_8 : decode cL_load 8 = .ok (.goto 6, 3) := by decide +kernel
theorem dL_load_11 : decode cL_load 11 = .ok (.astore_n 2, 1) := by decide +kernel
theorem dL_load_12 : decode cL_load 12 = .ok (.iconst 1, 1) := by decide +kernel
theorem dL_load_13 : decode cL_load 13 = .ok (.ireturn, 1) := by decide +kernel
theorem dL_load_14 : decode cL_load 14 = .ok (.iconst 0, 1) := by decide +kernel
theorem dL_load_15 : decode cL_load 15 = .ok (.ireturn, 1) := by decide +kernel
theorem dL_about_0 : decode cL_about 0 = .ok (.aload_n 2, 1) := by decide +kernel
theorem dL_about_1 : decode cL_about 1 = .ok (.iconst 0, 1) := by decide +kernel
theorem dL_about_2 : decode cL_about 2 = .ok (.aload_n 0, 1) := by decide +kernel
theorem dL_about_3 : decode cL_about 3 = .ok (.iload_n 1, 1) := by decide +kernel
theorem dL_about_4 : decode cL_about 4 = .ok (.invokevirtual 21, 3) := by decide +kernel
theorem dL_about_7 : decode cL_about 7 = .ok (.i2l, 1) := by decide +kernel
theorem dL_about_8 : decode cL_about 8 = .ok (.lastore, 1) := by decide +kernel
theorem dL_about_9 : decode cL_about 9 = .ok (.goto 6, 3) := by decide +kernel
theorem dL_about_12 : decode cL_about 12 = .ok (.astore_n 3, 1) := by decide +kernel
theorem dL_about_13 : decode cL_about 13 = .ok (.iconst 1, 1) := by decide +kernel
theorem dL_about_14 : decode cL_about 14 = .ok (.ireturn, 1) := by decide +kernel
theorem dL_about_15 : decode cL_about 15 = .ok (.iconst 0, 1) := by decide +kernel
theorem dL_about_16 : decode cL_about 16 = .ok (.ireturn, 1) := by decide +kernel
theorem dL_boiler_0 : decode cL_boiler 0 = .ok (.aload_n 3, 1) := by decide +kernel
theorem dL_boiler_1 : decode cL_boiler 1 = .ok (.iconst 0, 1) := by decide +kernel
theorem dL_boiler_2 : decode cL_boiler 2 = .ok (.aload_n 0, 1) := by decide +kernel
theorem dL_boiler_3 : decode cL_boiler 3 = .ok (.iload_n 1, 1) := by decide +kernel
theorem dL_boiler_4 : decode cL_boiler 4 = .ok (.iload_n 2, 1) := by decide +kernel
theorem dL_boiler_5 : decode cL_boiler 5 = .ok (.invokevirtual 24, 3) := by decide +kernel
theorem dL_boiler_8 : decode cL_boiler 8 = .ok (.i2l, 1) := by decide +kernel
theorem dL_boiler_9 : decode cL_boiler 9 = .ok (.lastore, 1) := by decide +kernel
theorem dL_boiler_10 : decode cL_boiler 10 = .ok (.goto 11, 3) := by decide +kernel
theorem dL_boiler_13 : decode cL_boiler 13 = .ok (.astore 4, 2) := by decide +kernel
theorem dL_boiler_15 : decode cL_boiler 15 = .ok (.iconst 1, 1) := by decide +kernel
theorem dL_boiler_16 : decode cL_boiler 16 = .ok (.ireturn, 1) := by decide +kernel
theorem dL_boiler_17 : decode cL_boiler 17 = .ok (.astore 4, 2) := by decide +kernel
theorem dL_boiler_19 : decode cL_boiler 19 = .ok (.iconst 2, 1) := by decide +kernel
theorem dL_boiler_20 : decode cL_boiler 20 = .ok (.ireturn, 1) := by decide +kernel
theorem dL_boiler_21 : decode cL_boiler 21 = .ok (.iconst 0, 1) := by decide +kernel
theorem dL_boiler_22 : decode cL_boiler 22 = .ok (.ireturn, 1) := by decide +kernel
theorem dL_flue_0 : decode cL_flue 0 = .ok (.aload_n 3, 1) := by decide +kernel
theorem dL_flue_1 : decode cL_flue 1 = .ok (.iconst 0, 1) := by decide +kernel
theorem dL_flue_2 : decode cL_flue 2 = .ok (.aload_n 0, 1) := by decide +kernel
theorem dL_flue_3 : decode cL_flue 3 = .ok (.iload_n 1, 1) := by decide +kernel
theorem dL_flue_4 : decode cL_flue 4 = .ok (.iload_n 2, 1) := by decide +kernel
theorem dL_flue_5 : decode cL_flue 5 = .ok (.invokevirtual 30, 3) := by decide +kernel
theorem dL_flue_8 : decode cL_flue 8 = .ok (.i2l, 1) := by decide +kernel
theorem dL_flue_9 : decode cL_flue 9 = .ok (.lastore, 1) := by decide +kernel
theorem dL_flue_10 : decode cL_flue 10 = .ok (.goto 11, 3) := by decide +kernel
theorem dL_flue_13 : decode cL_flue 13 = .ok (.astore 4, 2) := by decide +kernel
theorem dL_flue_15 : decode cL_flue 15 = .ok (.iconst 1, 1) := by decide +kernel
theorem dL_flue_16 : decode cL_flue 16 = .ok (.ireturn, 1) := by decide +kernel
theorem dL_flue_17 : decode cL_flue 17 = .ok (.astore 4, 2) := by decide +kernel
theorem dL_flue_19 : decode cL_flue 19 = .ok (.iconst 2, 1) := by decide +kernel
theorem dL_flue_20 : decode cL_flue 20 = .ok (.ireturn, 1) := by decide +kernel
theorem dL_flue_21 : decode cL_flue 21 = .ok (.iconst 0, 1) := by decide +kernel
theorem dL_flue_22 : decode cL_flue 22 = .ok (.ireturn, 1) := by decide +kernel
theorem dL_layer_0 : decode cL_layer 0 = .ok (.aload_n 2, 1) := by decide +kernel
theorem dL_layer_1 : decode cL_layer 1 = .ok (.iconst 0, 1) := by decide +kernel
theorem dL_layer_2 : decode cL_layer 2 = .ok (.aload_n 0, 1) := by decide +kernel
theorem dL_layer_3 : decode cL_layer 3 = .ok (.iload_n 1, 1) := by decide +kernel
theorem dL_layer_4 : decode cL_layer 4 = .ok (.invokevirtual 33, 3) := by decide +kernel
theorem dL_layer_7 : decode cL_layer 7 = .ok (.i2l, 1) := by decide +kernel
theorem dL_layer_8 : decode cL_layer 8 = .ok (.lastore, 1) := by decide +kernel
theorem dL_layer_9 : decode cL_layer 9 = .ok (.goto 6, 3) := by decide +kernel
theorem dL_layer_12 : decode cL_layer 12 = .ok (.astore_n 3, 1) := by decide +kernel
theorem dL_layer_13 : decode cL_layer 13 = .ok (.iconst 1, 1) := by decide +kernel
theorem dL_layer_14 : decode cL_layer 14 = .ok (.ireturn, 1) := by decide +kernel
theorem dL_layer_15 : decode cL_layer 15 = .ok (.iconst 0, 1) := by decide +kernel
theorem dL_layer_16 : decode cL_layer 16 = .ok (.ireturn, 1) := by decide +kernel
theorem dL_account_0 : decode cL_account 0 = .ok (.aload_n 2, 1) := by decide +kernel
theorem dL_account_1 : decode cL_account 1 = .ok (.iconst 0, 1) := by decide +kernel
theorem dL_account_2 : decode cL_account 2 = .ok (.aload_n 0, 1) := by decide +kernel
theorem dL_account_3 : decode cL_account 3 = .ok (.iload_n 1, 1) := by decide +kernel
theorem dL_account_4 : decode cL_account 4 = .ok (.invokevirtual 36, 3) := by decide +kernel
theorem dL_account_7 : decode cL_account 7 = .ok (.i2l, 1) := by decide +kernel
theorem dL_account_8 : decode cL_account 8 = .ok (.lastore, 1) := by decide +kernel
theorem dL_account_9 : decode cL_account 9 = .ok (.goto 6, 3) := by decide +kernel
theorem dL_account_12 : decode cL_account 12 = .ok (.astore_n 3, 1) := by decide +kernel
theorem dL_account_13 : decode cL_account 13 = .ok (.iconst 1, 1) := by decide +kernel
theorem dL_account_14 : decode cL_account 14 = .ok (.ireturn, 1) := by decide +kernel
theorem dL_account_15 : decode cL_account 15 = .ok (.iconst 0, 1) := by decide +kernel
theorem dL_account_16 : decode cL_account 16 = .ok (.ireturn, 1) := by decide +kernel
theorem dL_tick_0 : decode cL_tick 0 = .ok (.aload_n 3, 1) := by decide +kernel
theorem dL_tick_1 : decode cL_tick 1 = .ok (.iconst 0, 1) := by decide +kernel
theorem dL_tick_2 : decode cL_tick 2 = .ok (.aload_n 0, 1) := by decide +kernel
theorem dL_tick_3 : decode cL_tick 3 = .ok (.iload_n 1, 1) := by decide +kernel
theorem dL_tick_4 : decode cL_tick 4 = .ok (.iload_n 2, 1) := by decide +kernel
theorem dL_tick_5 : decode cL_tick 5 = .ok (.invokevirtual 39, 3) := by decide +kernel
theorem dL_tick_8 : decode cL_tick 8 = .ok (.i2l, 1) := by decide +kernel
theorem dL_tick_9 : decode cL_tick 9 = .ok (.lastore, 1) := by decide +kernel
theorem dL_tick_10 : decode cL_tick 10 = .ok (.goto 7, 3) := by decide +kernel
theorem dL_tick_13 : decode cL_tick 13 = .ok (.astore 4, 2) := by decide +kernel
theorem dL_tick_15 : decode cL_tick 15 = .ok (.iconst 1, 1) := by decide +kernel
theorem dL_tick_16 : decode cL_tick 16 = .ok (.ireturn, 1) := by decide +kernel
theorem dL_tick_17 : decode cL_tick 17 = .ok (.iconst 0, 1) := by decide +kernel
theorem dL_tick_18 : decode cL_tick 18 = .ok (.ireturn, 1) := by decide +kernel
theorem dL_draw_0 : decode cL_draw 0 = .ok (.aload_n 2, 1) := by decide +kernel
theorem dL_draw_1 : decode cL_draw 1 = .ok (.iconst 0, 1) := by decide +kernel
theorem dL_draw_2 : decode cL_draw 2 = .ok (.aload_n 0, 1) := by decide +kernel
theorem dL_draw_3 : decode cL_draw 3 = .ok (.iload_n 1, 1) := by decide +kernel
theorem dL_draw_4 : decode cL_draw 4 = .ok (.invokevirtual 42, 3) := by decide +kernel
theorem dL_draw_7 : decode cL_draw 7 = .ok (.i2l, 1) := by decide +kernel
theorem dL_draw_8 : decode cL_draw 8 = .ok (.lastore, 1) := by decide +kernel
theorem dL_draw_9 : decode cL_draw 9 = .ok (.goto 6, 3) := by decide +kernel
theorem dL_draw_12 : decode cL_draw 12 = .ok (.astore_n 3, 1) := by decide +kernel
theorem dL_draw_13 : decode cL_draw 13 = .ok (.iconst 1, 1) := by decide +kernel
theorem dL_draw_14 : decode cL_draw 14 = .ok (.ireturn, 1) := by decide +kernel
theorem dL_draw_15 : decode cL_draw 15 = .ok (.iconst 0, 1) := by decide +kernel
theorem dL_draw_16 : decode cL_draw 16 = .ok (.ireturn, 1) := by decide +kernel
theorem dL_set_0 : decode cL_set 0 = .ok (.aload_n 3, 1) := by decide +kernel
theorem dL_set_1 : decode cL_set 1 = .ok (.iconst 0, 1) := by decide +kernel
theorem dL_set_2 : decode cL_set 2 = .ok (.aload_n 0, 1) := by decide +kernel
theorem dL_set_3 : decode cL_set 3 = .ok (.iload_n 1, 1) := by decide +kernel
theorem dL_set_4 : decode cL_set 4 = .ok (.iload_n 2, 1) := by decide +kernel
theorem dL_set_5 : decode cL_set 5 = .ok (.invokevirtual 45, 3) := by decide +kernel
theorem dL_set_8 : decode cL_set 8 = .ok (.i2l, 1) := by decide +kernel
theorem dL_set_9 : decode cL_set 9 = .ok (.lastore, 1) := by decide +kernel
theorem dL_set_10 : decode cL_set 10 = .ok (.goto 7, 3) := by decide +kernel
theorem dL_set_13 : decode cL_set 13 = .ok (.astore 4, 2) := by decide +kernel
theorem dL_set_15 : decode cL_set 15 = .ok (.iconst 1, 1) := by decide +kernel
theorem dL_set_16 : decode cL_set 16 = .ok (.ireturn, 1) := by decide +kernel
theorem dL_set_17 : decode cL_set 17 = .ok (.iconst 0, 1) := by decide +kernel
theorem dL_set_18 : decode cL_set 18 = .ok (.ireturn, 1) := by decide +kernel
theorem dL_setFlue_0 : decode cL_setFlue 0 = .ok (.aload_n 3, 1) := by decide +kernel
theorem dL_setFlue_1 : decode cL_setFlue 1 = .ok (.iconst 0, 1) := by decide +kernel
theorem dL_setFlue_2 : decode cL_setFlue 2 = .ok (.aload_n 0, 1) := by decide +kernel
theorem dL_setFlue_3 : decode cL_setFlue 3 = .ok (.iload_n 1, 1) := by decide +kernel
theorem dL_setFlue_4 : decode cL_setFlue 4 = .ok (.iload_n 2, 1) := by decide +kernel
theorem dL_setFlue_5 : decode cL_setFlue 5 = .ok (.invokevirtual 48, 3) := by decide +kernel
theorem dL_setFlue_8 : decode cL_setFlue 8 = .ok (.i2l, 1) := by decide +kernel
theorem dL_setFlue_9 : decode cL_setFlue 9 = .ok (.lastore, 1) := by decide +kernel
theorem dL_setFlue_10 : decode cL_setFlue 10 = .ok (.goto 7, 3) := by decide +kernel
theorem dL_setFlue_13 : decode cL_setFlue 13 = .ok (.astore 4, 2) := by decide +kernel
theorem dL_setFlue_15 : decode cL_setFlue 15 = .ok (.iconst 1, 1) := by decide +kernel
theorem dL_setFlue_16 : decode cL_setFlue 16 = .ok (.ireturn, 1) := by decide +kernel
theorem dL_setFlue_17 : decode cL_setFlue 17 = .ok (.iconst 0, 1) := by decide +kernel
theorem dL_setFlue_18 : decode cL_setFlue 18 = .ok (.ireturn, 1) := by decide +kernel
theorem dL_setDraft_0 : decode cL_setDraft 0 = .ok (.aload_n 3, 1) := by decide +kernel
theorem dL_setDraft_1 : decode cL_setDraft 1 = .ok (.iconst 0, 1) := by decide +kernel
theorem dL_setDraft_2 : decode cL_setDraft 2 = .ok (.aload_n 0, 1) := by decide +kernel
theorem dL_setDraft_3 : decode cL_setDraft 3 = .ok (.iload_n 1, 1) := by decide +kernel
theorem dL_setDraft_4 : decode cL_setDraft 4 = .ok (.iload_n 2, 1) := by decide +kernel
theorem dL_setDraft_5 : decode cL_setDraft 5 = .ok (.invokevirtual 52, 3) := by decide +kernel
theorem dL_setDraft_8 : decode cL_setDraft 8 = .ok (.i2l, 1) := by decide +kernel
theorem dL_setDraft_9 : decode cL_setDraft 9 = .ok (.lastore, 1) := by decide +kernel
theorem dL_setDraft_10 : decode cL_setDraft 10 = .ok (.goto 11, 3) := by decide +kernel
theorem dL_setDraft_13 : decode cL_setDraft 13 = .ok (.astore 4, 2) := by decide +kernel
theorem dL_setDraft_15 : decode cL_setDraft 15 = .ok (.iconst 1, 1) := by decide +kernel
theorem dL_setDraft_16 : decode cL_setDraft 16 = .ok (.ireturn, 1) := by decide +kernel
theorem dL_setDraft_17 : decode cL_setDraft 17 = .ok (.astore 4, 2) := by decide +kernel
theorem dL_setDraft_19 : decode cL_setDraft 19 = .ok (.iconst 2, 1) := by decide +kernel
theorem dL_setDraft_20 : decode cL_setDraft 20 = .ok (.ireturn, 1) := by decide +kernel
theorem dL_setDraft_21 : decode cL_setDraft 21 = .ok (.iconst 0, 1) := by decide +kernel
theorem dL_setDraft_22 : decode cL_setDraft 22 = .ok (.ireturn, 1) := by decide +kernel
theorem dL_lock_0 : decode cL_lock 0 = .ok (.aload_n 2, 1) := by decide +kernel
theorem dL_lock_1 : decode cL_lock 1 = .ok (.iconst 0, 1) := by decide +kernel
theorem dL_lock_2 : decode cL_lock 2 = .ok (.aload_n 0, 1) := by decide +kernel
theorem dL_lock_3 : decode cL_lock 3 = .ok (.iload_n 1, 1) := by decide +kernel
theorem dL_lock_4 : decode cL_lock 4 = .ok (.invokevirtual 55, 3) := by decide +kernel
theorem dL_lock_7 : decode cL_lock 7 = .ok (.i2l, 1) := by decide +kernel
theorem dL_lock_8 : decode cL_lock 8 = .ok (.lastore, 1) := by decide +kernel
theorem dL_lock_9 : decode cL_lock 9 = .ok (.goto 9, 3) := by decide +kernel
theorem dL_lock_12 : decode cL_lock 12 = .ok (.astore_n 3, 1) := by decide +kernel
theorem dL_lock_13 : decode cL_lock 13 = .ok (.iconst 1, 1) := by decide +kernel
theorem dL_lock_14 : decode cL_lock 14 = .ok (.ireturn, 1) := by decide +kernel
theorem dL_lock_15 : decode cL_lock 15 = .ok (.astore_n 3, 1) := by decide +kernel
theorem dL_lock_16 : decode cL_lock 16 = .ok (.iconst 2, 1) := by decide +kernel
theorem dL_lock_17 : decode cL_lock 17 = .ok (.ireturn, 1) := by decide +kernel
theorem dL_lock_18 : decode cL_lock 18 = .ok (.iconst 0, 1) := by decide +kernel
theorem dL_lock_19 : decode cL_lock 19 = .ok (.ireturn, 1) := by decide +kernel
theorem dL_unlock_0 : decode cL_unlock 0 = .ok (.aload_n 2, 1) := by decide +kernel
theorem dL_unlock_1 : decode cL_unlock 1 = .ok (.iconst 0, 1) := by decide +kernel
theorem dL_unlock_2 : decode cL_unlock 2 = .ok (.aload_n 0, 1) := by decide +kernel
theorem dL_unlock_3 : decode cL_unlock 3 = .ok (.iload_n 1, 1) := by decide +kernel
theorem dL_unlock_4 : decode cL_unlock 4 = .ok (.invokevirtual 58, 3) := by decide +kernel
theorem dL_unlock_7 : decode cL_unlock 7 = .ok (.i2l, 1) := by decide +kernel
theorem dL_unlock_8 : decode cL_unlock 8 = .ok (.lastore, 1) := by decide +kernel
theorem dL_unlock_9 : decode cL_unlock 9 = .ok (.goto 9, 3) := by decide +kernel
theorem dL_unlock_12 : decode cL_unlock 12 = .ok (.astore_n 3, 1) := by decide +kernel
theorem dL_unlock_13 : decode cL_unlock 13 = .ok (.iconst 1, 1) := by decide +kernel
theorem dL_unlock_14 : decode cL_unlock 14 = .ok (.ireturn, 1) := by decide +kernel
theorem dL_unlock_15 : decode cL_unlock 15 = .ok (.astore_n 3, 1) := by decide +kernel
theorem dL_unlock_16 : decode cL_unlock 16 = .ok (.iconst 2, 1) := by decide +kernel
theorem dL_unlock_17 : decode cL_unlock 17 = .ok (.ireturn, 1) := by decide +kernel
theorem dL_unlock_18 : decode cL_unlock 18 = .ok (.iconst 0, 1) := by decide +kernel
theorem dL_unlock_19 : decode cL_unlock 19 = .ok (.ireturn, 1) := by decide +kernel
theorem dL_putOff_0 : decode cL_putOff 0 = .ok (.aload_n 2, 1) := by decide +kernel
theorem dL_putOff_1 : decode cL_putOff 1 = .ok (.iconst 0, 1) := by decide +kernel
theorem dL_putOff_2 : decode cL_putOff 2 = .ok (.aload_n 0, 1) := by decide +kernel
theorem dL_putOff_3 : decode cL_putOff 3 = .ok (.iload_n 1, 1) := by decide +kernel
theorem dL_putOff_4 : decode cL_putOff 4 = .ok (.invokevirtual 61, 3) := by decide +kernel
theorem dL_putOff_7 : decode cL_putOff 7 = .ok (.i2l, 1) := by decide +kernel
theorem dL_putOff_8 : decode cL_putOff 8 = .ok (.lastore, 1) := by decide +kernel
theorem dL_putOff_9 : decode cL_putOff 9 = .ok (.goto 9, 3) := by decide +kernel
theorem dL_putOff_12 : decode cL_putOff 12 = .ok (.astore_n 3, 1) := by decide +kernel
theorem dL_putOff_13 : decode cL_putOff 13 = .ok (.iconst 1, 1) := by decide +kernel
theorem dL_putOff_14 : decode cL_putOff 14 = .ok (.ireturn, 1) := by decide +kernel
theorem dL_putOff_15 : decode cL_putOff 15 = .ok (.astore_n 3, 1) := by decide +kernel
theorem dL_putOff_16 : decode cL_putOff 16 = .ok (.iconst 2, 1) := by decide +kernel
theorem dL_putOff_17 : decode cL_putOff 17 = .ok (.ireturn, 1) := by decide +kernel
theorem dL_putOff_18 : decode cL_putOff 18 = .ok (.iconst 0, 1) := by decide +kernel
theorem dL_putOff_19 : decode cL_putOff 19 = .ok (.ireturn, 1) := by decide +kernel
theorem dL_undo_0 : decode cL_undo 0 = .ok (.aload_n 1, 1) := by decide +kernel
theorem dL_undo_1 : decode cL_undo 1 = .ok (.iconst 0, 1) := by decide +kernel
theorem dL_undo_2 : decode cL_undo 2 = .ok (.aload_n 0, 1) := by decide +kernel
theorem dL_undo_3 : decode cL_undo 3 = .ok (.invokevirtual 64, 3) := by decide +kernel
theorem dL_undo_6 : decode cL_undo 6 = .ok (.i2l, 1) := by decide +kernel
theorem dL_undo_7 : decode cL_undo 7 = .ok (.lastore, 1) := by decide +kernel
theorem dL_undo_8 : decode cL_undo 8 = .ok (.goto 6, 3) := by decide +kernel
theorem dL_undo_11 : decode cL_undo 11 = .ok (.astore_n 2, 1) := by decide +kernel
theorem dL_undo_12 : decode cL_undo 12 = .ok (.iconst 1, 1) := by decide +kernel
theorem dL_undo_13 : decode cL_undo 13 = .ok (.ireturn, 1) := by decide +kernel
theorem dL_undo_14 : decode cL_undo 14 = .ok (.iconst 0, 1) := by decide +kernel
theorem dL_undo_15 : decode cL_undo 15 = .ok (.ireturn, 1) := by decide +kernel
theorem dL_whyNot_0 : decode cL_whyNot 0 = .ok (.aload_n 2, 1) := by decide +kernel
theorem dL_whyNot_1 : decode cL_whyNot 1 = .ok (.iconst 0, 1) := by decide +kernel
theorem dL_whyNot_2 : decode cL_whyNot 2 = .ok (.aload_n 0, 1) := by decide +kernel
theorem dL_whyNot_3 : decode cL_whyNot 3 = .ok (.iload_n 1, 1) := by decide +kernel
theorem dL_whyNot_4 : decode cL_whyNot 4 = .ok (.invokevirtual 67, 3) := by decide +kernel
theorem dL_whyNot_7 : decode cL_whyNot 7 = .ok (.i2l, 1) := by decide +kernel
theorem dL_whyNot_8 : decode cL_whyNot 8 = .ok (.lastore, 1) := by decide +kernel
theorem dL_whyNot_9 : decode cL_whyNot 9 = .ok (.goto 6, 3) := by decide +kernel
theorem dL_whyNot_12 : decode cL_whyNot 12 = .ok (.astore_n 3, 1) := by decide +kernel
theorem dL_whyNot_13 : decode cL_whyNot 13 = .ok (.iconst 1, 1) := by decide +kernel
theorem dL_whyNot_14 : decode cL_whyNot 14 = .ok (.ireturn, 1) := by decide +kernel
theorem dL_whyNot_15 : decode cL_whyNot 15 = .ok (.iconst 0, 1) := by decide +kernel
theorem dL_whyNot_16 : decode cL_whyNot 16 = .ok (.ireturn, 1) := by decide +kernel
theorem dL_smallestSet_0 : decode cL_smallestSet 0 = .ok (.aload_n 3, 1) := by decide +kernel
theorem dL_smallestSet_1 : decode cL_smallestSet 1 = .ok (.iconst 0, 1) := by decide +kernel
theorem dL_smallestSet_2 : decode cL_smallestSet 2 = .ok (.aload_n 0, 1) := by decide +kernel
theorem dL_smallestSet_3 : decode cL_smallestSet 3 = .ok (.iload_n 1, 1) := by decide +kernel
theorem dL_smallestSet_4 : decode cL_smallestSet 4 = .ok (.iload_n 2, 1) := by decide +kernel
theorem dL_smallestSet_5 : decode cL_smallestSet 5 = .ok (.invokevirtual 70, 3) := by decide +kernel
theorem dL_smallestSet_8 : decode cL_smallestSet 8 = .ok (.i2l, 1) := by decide +kernel
theorem dL_smallestSet_9 : decode cL_smallestSet 9 = .ok (.lastore, 1) := by decide +kernel
theorem dL_smallestSet_10 : decode cL_smallestSet 10 = .ok (.goto 7, 3) := by decide +kernel
theorem dL_smallestSet_13 : decode cL_smallestSet 13 = .ok (.astore 4, 2) := by decide +kernel
theorem dL_smallestSet_15 : decode cL_smallestSet 15 = .ok (.iconst 1, 1) := by decide +kernel
theorem dL_smallestSet_16 : decode cL_smallestSet 16 = .ok (.ireturn, 1) := by decide +kernel
theorem dL_smallestSet_17 : decode cL_smallestSet 17 = .ok (.iconst 0, 1) := by decide +kernel
theorem dL_smallestSet_18 : decode cL_smallestSet 18 = .ok (.ireturn, 1) := by decide +kernel
theorem dL_ahead_0 : decode cL_ahead 0 = .ok (.aload 4, 2) := by decide +kernel
theorem dL_ahead_2 : decode cL_ahead 2 = .ok (.iconst 0, 1) := by decide +kernel
theorem dL_ahead_3 : decode cL_ahead 3 = .ok (.aload_n 0, 1) := by decide +kernel
theorem dL_ahead_4 : decode cL_ahead 4 = .ok (.iload_n 1, 1) := by decide +kernel
theorem dL_ahead_5 : decode cL_ahead 5 = .ok (.iload_n 2, 1) := by decide +kernel
theorem dL_ahead_6 : decode cL_ahead 6 = .ok (.iload_n 3, 1) := by decide +kernel
theorem dL_ahead_7 : decode cL_ahead 7 = .ok (.invokevirtual 73, 3) := by decide +kernel
theorem dL_ahead_10 : decode cL_ahead 10 = .ok (.i2l, 1) := by decide +kernel
theorem dL_ahead_11 : decode cL_ahead 11 = .ok (.lastore, 1) := by decide +kernel
theorem dL_ahead_12 : decode cL_ahead 12 = .ok (.goto 7, 3) := by decide +kernel
theorem dL_ahead_15 : decode cL_ahead 15 = .ok (.astore 5, 2) := by decide +kernel
theorem dL_ahead_17 : decode cL_ahead 17 = .ok (.iconst 1, 1) := by decide +kernel
theorem dL_ahead_18 : decode cL_ahead 18 = .ok (.ireturn, 1) := by decide +kernel
theorem dL_ahead_19 : decode cL_ahead 19 = .ok (.iconst 0, 1) := by decide +kernel
theorem dL_ahead_20 : decode cL_ahead 20 = .ok (.ireturn, 1) := by decide +kernel
theorem dL_warmAfter_0 : decode cL_warmAfter 0 = .ok (.aload_n 3, 1) := by decide +kernel
theorem dL_warmAfter_1 : decode cL_warmAfter 1 = .ok (.iconst 0, 1) := by decide +kernel
theorem dL_warmAfter_2 : decode cL_warmAfter 2 = .ok (.aload_n 0, 1) := by decide +kernel
theorem dL_warmAfter_3 : decode cL_warmAfter 3 = .ok (.iload_n 1, 1) := by decide +kernel
theorem dL_warmAfter_4 : decode cL_warmAfter 4 = .ok (.iload_n 2, 1) := by decide +kernel
theorem dL_warmAfter_5 : decode cL_warmAfter 5 = .ok (.invokevirtual 77, 3) := by decide +kernel
theorem dL_warmAfter_8 : decode cL_warmAfter 8 = .ok (.i2l, 1) := by decide +kernel
theorem dL_warmAfter_9 : decode cL_warmAfter 9 = .ok (.lastore, 1) := by decide +kernel
theorem dL_warmAfter_10 : decode cL_warmAfter 10 = .ok (.goto 7, 3) := by decide +kernel
theorem dL_warmAfter_13 : decode cL_warmAfter 13 = .ok (.astore 4, 2) := by decide +kernel
theorem dL_warmAfter_15 : decode cL_warmAfter 15 = .ok (.iconst 1, 1) := by decide +kernel
theorem dL_warmAfter_16 : decode cL_warmAfter 16 = .ok (.ireturn, 1) := by decide +kernel
theorem dL_warmAfter_17 : decode cL_warmAfter 17 = .ok (.iconst 0, 1) := by decide +kernel
theorem dL_warmAfter_18 : decode cL_warmAfter 18 = .ok (.ireturn, 1) := by decide +kernel
theorem dL_bearable_0 : decode cL_bearable 0 = .ok (.aload_n 3, 1) := by decide +kernel
theorem dL_bearable_1 : decode cL_bearable 1 = .ok (.iconst 0, 1) := by decide +kernel
theorem dL_bearable_2 : decode cL_bearable 2 = .ok (.aload_n 0, 1) := by decide +kernel
theorem dL_bearable_3 : decode cL_bearable 3 = .ok (.iload_n 1, 1) := by decide +kernel
theorem dL_bearable_4 : decode cL_bearable 4 = .ok (.iload_n 2, 1) := by decide +kernel
theorem dL_bearable_5 : decode cL_bearable 5 = .ok (.invokevirtual 80, 3) := by decide +kernel
theorem dL_bearable_8 : decode cL_bearable 8 = .ok (.i2l, 1) := by decide +kernel
theorem dL_bearable_9 : decode cL_bearable 9 = .ok (.lastore, 1) := by decide +kernel
theorem dL_bearable_10 : decode cL_bearable 10 = .ok (.goto 7, 3) := by decide +kernel
theorem dL_bearable_13 : decode cL_bearable 13 = .ok (.astore 4, 2) := by decide +kernel
theorem dL_bearable_15 : decode cL_bearable 15 = .ok (.iconst 1, 1) := by decide +kernel
theorem dL_bearable_16 : decode cL_bearable 16 = .ok (.ireturn, 1) := by decide +kernel
theorem dL_bearable_17 : decode cL_bearable 17 = .ok (.iconst 0, 1) := by decide +kernel
theorem dL_bearable_18 : decode cL_bearable 18 = .ok (.ireturn, 1) := by decide +kernel
theorem dL_cheapestPurge_0 : decode cL_cheapestPurge 0 = .ok (.aload_n 3, 1) := by decide +kernel
theorem dL_cheapestPurge_1 : decode cL_cheapestPurge 1 = .ok (.iconst 0, 1) := by decide +kernel
theorem dL_cheapestPurge_2 : decode cL_cheapestPurge 2 = .ok (.aload_n 0, 1) := by decide +kernel
theorem dL_cheapestPurge_3 : decode cL_cheapestPurge 3 = .ok (.iload_n 1, 1) := by decide +kernel
theorem dL_cheapestPurge_4 : decode cL_cheapestPurge 4 = .ok (.iload_n 2, 1) := by decide +kernel
theorem dL_cheapestPurge_5 : decode cL_cheapestPurge 5 = .ok (.invokevirtual 83, 3) := by decide +kernel
theorem dL_cheapestPurge_8 : decode cL_cheapestPurge 8 = .ok (.i2l, 1) := by decide +kernel
theorem dL_cheapestPurge_9 : decode cL_cheapestPurge 9 = .ok (.lastore, 1) := by decide +kernel
theorem dL_cheapestPurge_10 : decode cL_cheapestPurge 10 = .ok (.goto 7, 3) := by decide +kernel
theorem dL_cheapestPurge_13 : decode cL_cheapestPurge 13 = .ok (.astore 4, 2) := by decide +kernel
theorem dL_cheapestPurge_15 : decode cL_cheapestPurge 15 = .ok (.iconst 1, 1) := by decide +kernel
theorem dL_cheapestPurge_16 : decode cL_cheapestPurge 16 = .ok (.ireturn, 1) := by decide +kernel
theorem dL_cheapestPurge_17 : decode cL_cheapestPurge 17 = .ok (.iconst 0, 1) := by decide +kernel
theorem dL_cheapestPurge_18 : decode cL_cheapestPurge 18 = .ok (.ireturn, 1) := by decide +kernel
theorem dL_runScript_0 : decode cL_runScript 0 = .ok (.aload 4, 2) := by decide +kernel
theorem dL_runScript_2 : decode cL_runScript 2 = .ok (.iconst 0, 1) := by decide +kernel
theorem dL_runScript_3 : decode cL_runScript 3 = .ok (.aload_n 0, 1) := by decide +kernel
theorem dL_runScript_4 : decode cL_runScript 4 = .ok (.iload_n 1, 1) := by decide +kernel
theorem dL_runScript_5 : decode cL_runScript 5 = .ok (.lload_n 2, 1) := by decide +kernel
theorem dL_runScript_6 : decode cL_runScript 6 = .ok (.invokevirtual 86, 3) := by decide +kernel
theorem dL_runScript_9 : decode cL_runScript 9 = .ok (.i2l, 1) := by decide +kernel
theorem dL_runScript_10 : decode cL_runScript 10 = .ok (.lastore, 1) := by decide +kernel
theorem dL_runScript_11 : decode cL_runScript 11 = .ok (.goto 7, 3) := by decide +kernel
theorem dL_runScript_14 : decode cL_runScript 14 = .ok (.astore 5, 2) := by decide +kernel
theorem dL_runScript_16 : decode cL_runScript 16 = .ok (.iconst 1, 1) := by decide +kernel
theorem dL_runScript_17 : decode cL_runScript 17 = .ok (.ireturn, 1) := by decide +kernel
theorem dL_runScript_18 : decode cL_runScript 18 = .ok (.iconst 0, 1) := by decide +kernel
theorem dL_runScript_19 : decode cL_runScript 19 = .ok (.ireturn, 1) := by decide +kernel
theorem dL_simulate_0 : decode cL_simulate 0 = .ok (.aload 4, 2) := by decide +kernel
theorem dL_simulate_2 : decode cL_simulate 2 = .ok (.iconst 0, 1) := by decide +kernel
theorem dL_simulate_3 : decode cL_simulate 3 = .ok (.aload_n 0, 1) := by decide +kernel
theorem dL_simulate_4 : decode cL_simulate 4 = .ok (.lload_n 1, 1) := by decide +kernel
theorem dL_simulate_5 : decode cL_simulate 5 = .ok (.iload_n 3, 1) := by decide +kernel
theorem dL_simulate_6 : decode cL_simulate 6 = .ok (.invokevirtual 90, 3) := by decide +kernel
theorem dL_simulate_9 : decode cL_simulate 9 = .ok (.i2l, 1) := by decide +kernel
theorem dL_simulate_10 : decode cL_simulate 10 = .ok (.lastore, 1) := by decide +kernel
theorem dL_simulate_11 : decode cL_simulate 11 = .ok (.goto 7, 3) := by decide +kernel
theorem dL_simulate_14 : decode cL_simulate 14 = .ok (.astore 5, 2) := by decide +kernel
theorem dL_simulate_16 : decode cL_simulate 16 = .ok (.iconst 1, 1) := by decide +kernel
theorem dL_simulate_17 : decode cL_simulate 17 = .ok (.ireturn, 1) := by decide +kernel
theorem dL_simulate_18 : decode cL_simulate 18 = .ok (.iconst 0, 1) := by decide +kernel
theorem dL_simulate_19 : decode cL_simulate 19 = .ok (.ireturn, 1) := by decide +kernel
theorem dL_save_0 : decode cL_save 0 = .ok (.aload_n 2, 1) := by decide +kernel
theorem dL_save_1 : decode cL_save 1 = .ok (.iconst 0, 1) := by decide +kernel
theorem dL_save_2 : decode cL_save 2 = .ok (.aload_n 0, 1) := by decide +kernel
theorem dL_save_3 : decode cL_save 3 = .ok (.iload_n 1, 1) := by decide +kernel
theorem dL_save_4 : decode cL_save 4 = .ok (.invokevirtual 94, 3) := by decide +kernel
theorem dL_save_7 : decode cL_save 7 = .ok (.i2l, 1) := by decide +kernel
theorem dL_save_8 : decode cL_save 8 = .ok (.lastore, 1) := by decide +kernel
theorem dL_save_9 : decode cL_save 9 = .ok (.goto 6, 3) := by decide +kernel
theorem dL_save_12 : decode cL_save 12 = .ok (.astore_n 3, 1) := by decide +kernel
theorem dL_save_13 : decode cL_save 13 = .ok (.iconst 1, 1) := by decide +kernel
theorem dL_save_14 : decode cL_save 14 = .ok (.ireturn, 1) := by decide +kernel
theorem dL_save_15 : decode cL_save 15 = .ok (.iconst 0, 1) := by decide +kernel
theorem dL_save_16 : decode cL_save 16 = .ok (.ireturn, 1) := by decide +kernel
theorem dL_restore_0 : decode cL_restore 0 = .ok (.aload_n 2, 1) := by decide +kernel
theorem dL_restore_1 : decode cL_restore 1 = .ok (.iconst 0, 1) := by decide +kernel
theorem dL_restore_2 : decode cL_restore 2 = .ok (.aload_n 0, 1) := by decide +kernel
theorem dL_restore_3 : decode cL_restore 3 = .ok (.iload_n 1, 1) := by decide +kernel
theorem dL_restore_4 : decode cL_restore 4 = .ok (.invokevirtual 97, 3) := by decide +kernel
theorem dL_restore_7 : decode cL_restore 7 = .ok (.i2l, 1) := by decide +kernel
theorem dL_restore_8 : decode cL_restore 8 = .ok (.lastore, 1) := by decide +kernel
theorem dL_restore_9 : decode cL_restore 9 = .ok (.goto 9, 3) := by decide +kernel
theorem dL_restore_12 : decode cL_restore 12 = .ok (.astore_n 3, 1) := by decide +kernel
theorem dL_restore_13 : decode cL_restore 13 = .ok (.iconst 1, 1) := by decide +kernel
theorem dL_restore_14 : decode cL_restore 14 = .ok (.ireturn, 1) := by decide +kernel
theorem dL_restore_15 : decode cL_restore 15 = .ok (.astore_n 3, 1) := by decide +kernel
theorem dL_restore_16 : decode cL_restore 16 = .ok (.iconst 2, 1) := by decide +kernel
theorem dL_restore_17 : decode cL_restore 17 = .ok (.ireturn, 1) := by decide +kernel
theorem dL_restore_18 : decode cL_restore 18 = .ok (.iconst 0, 1) := by decide +kernel
theorem dL_restore_19 : decode cL_restore 19 = .ok (.ireturn, 1) := by decide +kernel
theorem dL_law_0 : decode cL_law 0 = .ok (.new 8, 3) := by decide +kernel
theorem dL_law_3 : decode cL_law 3 = .ok (.dup, 1) := by decide +kernel
theorem dL_law_4 : decode cL_law 4 = .ok (.invokespecial 100, 3) := by decide +kernel
theorem dL_law_7 : decode cL_law 7 = .ok (.astore_n 1, 1) := by decide +kernel
theorem dL_law_8 : decode cL_law 8 = .ok (.new 101, 3) := by decide +kernel
theorem dL_law_11 : decode cL_law 11 = .ok (.dup, 1) := by decide +kernel
theorem dL_law_12 : decode cL_law 12 = .ok (.invokespecial 103, 3) := by decide +kernel
theorem dL_law_15 : decode cL_law 15 = .ok (.astore_n 2, 1) := by decide +kernel
theorem dL_law_16 : decode cL_law 16 = .ok (.iconst 1, 1) := by decide +kernel
theorem dL_law_17 : decode cL_law 17 = .ok (.newarray .long, 2) := by decide +kernel
theorem dL_law_19 : decode cL_law 19 = .ok (.astore_n 3, 1) := by decide +kernel
theorem dL_law_20 : decode cL_law 20 = .ok (.iconst 0, 1) := by decide +kernel
theorem dL_law_21 : decode cL_law 21 = .ok (.istore 4, 2) := by decide +kernel
theorem dL_law_23 : decode cL_law 23 = .ok (.iload 4, 2) := by decide +kernel
theorem dL_law_25 : decode cL_law 25 = .ok (.aload_n 0, 1) := by decide +kernel
theorem dL_law_26 : decode cL_law 26 = .ok (.arraylength, 1) := by decide +kernel
theorem dL_law_27 : decode cL_law 27 = .ok (.iconst 4, 1) := by decide +kernel
theorem dL_law_28 : decode cL_law 28 = .ok (.isub, 1) := by decide +kernel
theorem dL_law_29 : decode cL_law 29 = .ok (.if_icmp .gt 1880, 3) := by decide +kernel
theorem dL_law_32 : decode cL_law 32 = .ok (.aload_n 0, 1) := by decide +kernel
theorem dL_law_33 : decode cL_law 33 = .ok (.iload 4, 2) := by decide +kernel
theorem dL_law_35 : decode cL_law 35 = .ok (.iaload, 1) := by decide +kernel
theorem dL_law_36 : decode cL_law 36 = .ok (.bipush 31, 2) := by decide +kernel
theorem dL_law_38 : decode cL_law 38 = .ok (.iand, 1) := by decide +kernel
theorem dL_law_39 : decode cL_law 39 = .ok (.tableswitch 1864 0 28 #[129, 185, 198, 211, 255, 311, 379, 447, 503, 559, 627, 683, 751, 835, 903, 959, 1015, 1071, 1115, 1128, 1184, 1268, 1348, 1416, 1484, 1552, 1652, 1752, 1808], 129) := by decide +kernel
theorem dL_law_168 : decode cL_law 168 = .ok (.aload_n 1, 1) := by decide +kernel
theorem dL_law_169 : decode cL_law 169 = .ok (.aload_n 0, 1) := by decide +kernel
theorem dL_law_170 : decode cL_law 170 = .ok (.iload 4, 2) := by decide +kernel
theorem dL_law_172 : decode cL_law 172 = .ok (.iconst 1, 1) := by decide +kernel
theorem dL_law_173 : decode cL_law 173 = .ok (.iadd, 1) := by decide +kernel
theorem dL_law_174 : decode cL_law 174 = .ok (.iaload, 1) := by decide +kernel
theorem dL_law_175 : decode cL_law 175 = .ok (.aload_n 3, 1) := by decide +kernel
theorem dL_law_176 : decode cL_law 176 = .ok (.invokestatic 104, 3) := by decide +kernel
theorem dL_law_179 : decode cL_law 179 = .ok (.istore 5, 2) := by decide +kernel
theorem dL_law_181 : decode cL_law 181 = .ok (.aload_n 2, 1) := by decide +kernel
theorem dL_law_182 : decode cL_law 182 = .ok (.aload_n 0, 1) := by decide +kernel
theorem dL_law_183 : decode cL_law 183 = .ok (.iload 4, 2) := by decide +kernel
theorem dL_law_185 : decode cL_law 185 = .ok (.iconst 1, 1) := by decide +kernel
theorem dL_law_186 : decode cL_law 186 = .ok (.iadd, 1) := by decide +kernel
theorem dL_law_187 : decode cL_law 187 = .ok (.iaload, 1) := by decide +kernel
theorem dL_law_188 : decode cL_law 188 = .ok (.invokevirtual 109, 3) := by decide +kernel
theorem dL_law_191 : decode cL_law 191 = .ok (.istore 6, 2) := by decide +kernel
theorem dL_law_193 : decode cL_law 193 = .ok (.aload_n 2, 1) := by decide +kernel
theorem dL_law_194 : decode cL_law 194 = .ok (.invokevirtual 110, 3) := by decide +kernel
theorem dL_law_197 : decode cL_law 197 = .ok (.iload 5, 2) := by decide +kernel
theorem dL_law_199 : decode cL_law 199 = .ok (.if_icmp .eq 5, 3) := by decide +kernel
theorem dL_law_202 : decode cL_law 202 = .ok (.iconst 0, 1) := by decide +kernel
theorem dL_law_203 : decode cL_law 203 = .ok (.ireturn, 1) := by decide +kernel
theorem dL_law_204 : decode cL_law 204 = .ok (.iload 5, 2) := by decide +kernel
theorem dL_law_206 : decode cL_law 206 = .ok (.ifCond .ne 15, 3) := by decide +kernel
theorem dL_law_209 : decode cL_law 209 = .ok (.aload_n 3, 1) := by decide +kernel
theorem dL_law_210 : decode cL_law 210 = .ok (.iconst 0, 1) := by decide +kernel
theorem dL_law_211 : decode cL_law 211 = .ok (.laload, 1) := by decide +kernel
theorem dL_law_212 : decode cL_law 212 = .ok (.iload 6, 2) := by decide +kernel
theorem dL_law_214 : decode cL_law 214 = .ok (.i2l, 1) := by decide +kernel
theorem dL_law_215 : decode cL_law 215 = .ok (.lcmp, 1) := by decide +kernel
theorem dL_law_216 : decode cL_law 216 = .ok (.ifCond .eq 5, 3) := by decide +kernel
theorem dL_law_219 : decode cL_law 219 = .ok (.iconst 0, 1) := by decide +kernel
theorem dL_law_220 : decode cL_law 220 = .ok (.ireturn, 1) := by decide +kernel
theorem dL_law_221 : decode cL_law 221 = .ok (.goto 1682, 3) := by decide +kernel
theorem dL_law_224 : decode cL_law 224 = .ok (.aload_n 1, 1) := by decide +kernel
theorem dL_law_225 : decode cL_law 225 = .ok (.invokevirtual 113, 3) := by decide +kernel
theorem dL_law_228 : decode cL_law 228 = .ok (.aload_n 2, 1) := by decide +kernel
theorem dL_law_229 : decode cL_law 229 = .ok (.invokevirtual 116, 3) := by decide +kernel
theorem dL_law_232 : decode cL_law 232 = .ok (.if_icmp .eq 1671, 3) := by decide +kernel
theorem dL_law_235 : decode cL_law 235 = .ok (.iconst 0, 1) := by decide +kernel
theorem dL_law_236 : decode cL_law 236 = .ok (.ireturn, 1) := by decide +kernel
theorem dL_law_237 : decode cL_law 237 = .ok (.aload_n 1, 1) := by decide +kernel
theorem dL_law_238 : decode cL_law 238 = .ok (.invokevirtual 117, 3) := by decide +kernel
theorem dL_law_241 : decode cL_law 241 = .ok (.aload_n 2, 1) := by decide +kernel
theorem dL_law_242 : decode cL_law 242 = .ok (.invokevirtual 120, 3) := by decide +kernel
theorem dL_law_245 : decode cL_law 245 = .ok (.if_icmp .eq 1658, 3) := by decide +kernel
theorem dL_law_248 : decode cL_law 248 = .ok (.iconst 0, 1) := by decide +kernel
theorem dL_law_249 : decode cL_law 249 = .ok (.ireturn, 1) := by decide +kernel
theorem dL_law_250 : decode cL_law 250 = .ok (.aload_n 1, 1) := by decide +kernel
theorem dL_law_251 : decode cL_law 251 = .ok (.aload_n 3, 1) := by decide +kernel
theorem dL_law_252 : decode cL_law 252 = .ok (.invokestatic 121, 3) := by decide +kernel
theorem dL_law_255 : decode cL_law 255 = .ok (.istore 5, 2) := by decide +kernel
theorem dL_law_257 : decode cL_law 257 = .ok (.aload_n 2, 1) := by decide +kernel
theorem dL_law_258 : decode cL_law 258 = .ok (.invokevirtual 124, 3) := by decide +kernel
theorem dL_law_261 : decode cL_law 261 = .ok (.istore 6, 2) := by decide +kernel
theorem dL_law_263 : decode cL_law 263 = .ok (.aload_n 2, 1) := by decide +kernel
theorem dL_law_264 : decode cL_law 264 = .ok (.invokevirtual 110, 3) := by decide +kernel
theorem dL_law_267 : decode cL_law 267 = .ok (.iload 5, 2) := by decide +kernel
theorem dL_law_269 : decode cL_law 269 = .ok (.if_icmp .eq 5, 3) := by decide +kernel
theorem dL_law_272 : decode cL_law 272 = .ok (.iconst 0, 1) := by decide +kernel
theorem dL_law_273 : decode cL_law 273 = .ok (.ireturn, 1) := by decide +kernel
theorem dL_law_274 : decode cL_law 274 = .ok (.iload 5, 2) := by decide +kernel
theorem dL_law_276 : decode cL_law 276 = .ok (.ifCond .ne 15, 3) := by decide +kernel
theorem dL_law_279 : decode cL_law 279 = .ok (.aload_n 3, 1) := by decide +kernel
theorem dL_law_280 : decode cL_law 280 = .ok (.iconst 0, 1) := by decide +kernel
theorem dL_law_281 : decode cL_law 281 = .ok (.laload, 1) := by decide +kernel
theorem dL_law_282 : decode cL_law 282 = .ok (.iload 6, 2) := by decide +kernel
theorem dL_law_284 : decode cL_law 284 = .ok (.i2l, 1) := by decide +kernel
theorem dL_law_285 : decode cL_law 285 = .ok (.lcmp, 1) := by decide +kernel
theorem dL_law_286 : decode cL_law 286 = .ok (.ifCond .eq 5, 3) := by decide +kernel
theorem dL_law_289 : decode cL_law 289 = .ok (.iconst 0, 1) := by decide +kernel
theorem dL_law_290 : decode cL_law 290 = .ok (.ireturn, 1) := by decide +kernel
theorem dL_law_291 : decode cL_law 291 = .ok (.goto 1612, 3) := by decide +kernel
theorem dL_law_294 : decode cL_law 294 = .ok (.aload_n 1, 1) := by decide +kernel
theorem dL_law_295 : decode cL_law 295 = .ok (.aload_n 0, 1) := by decide +kernel
theorem dL_law_296 : decode cL_law 296 = .ok (.iload 4, 2) := by decide +kernel
theorem dL_law_298 : decode cL_law 298 = .ok (.iconst 1, 1) := by decide +kernel
theorem dL_law_299 : decode cL_law 299 = .ok (.iadd, 1) := by decide +kernel
theorem dL_law_300 : decode cL_law 300 = .ok (.iaload, 1) := by decide +kernel
theorem dL_law_301 : decode cL_law 301 = .ok (.aload_n 3, 1) := by decide +kernel
theorem dL_law_302 : decode cL_law 302 = .ok (.invokestatic 125, 3) := by decide +kernel
theorem dL_law_305 : decode cL_law 305 = .ok (.istore 5, 2) := by decide +kernel
theorem dL_law_307 : decode cL_law 307 = .ok (.aload_n 2, 1) := by decide +kernel
theorem dL_law_308 : decode cL_law 308 = .ok (.aload_n 0, 1) := by decide +kernel
theorem dL_law_309 : decode cL_law 309 = .ok (.iload 4, 2) := by decide +kernel
theorem dL_law_311 : decode cL_law 311 = .ok (.iconst 1, 1) := by decide +kernel
theorem dL_law_312 : decode cL_law 312 = .ok (.iadd, 1) := by decide +kernel
theorem dL_law_313 : decode cL_law 313 = .ok (.iaload, 1) := by decide +kernel
theorem dL_law_314 : decode cL_law 314 = .ok (.invokevirtual 127, 3) := by decide +kernel
theorem dL_law_317 : decode cL_law 317 = .ok (.istore 6, 2) := by decide +kernel
theorem dL_law_319 : decode cL_law 319 = .ok (.aload_n 2, 1) := by decide +kernel
theorem dL_law_320 : decode cL_law 320 = .ok (.invokevirtual 110, 3) := by decide +kernel
theorem dL_law_323 : decode cL_law 323 = .ok (.iload 5, 2) := by decide +kernel
theorem dL_law_325 : decode cL_law 325 = .ok (.if_icmp .eq 5, 3) := by decide +kernel
theorem dL_law_328 : decode cL_law 328 = .ok (.iconst 0, 1) := by decide +kernel
theorem dL_law_329 : decode cL_law 329 = .ok (.ireturn, 1) := by decide +kernel
theorem dL_law_330 : decode cL_law 330 = .ok (.iload 5, 2) := by decide +kernel
theorem dL_law_332 : decode cL_law 332 = .ok (.ifCond .ne 15, 3) := by decide +kernel
theorem dL_law_335 : decode cL_law 335 = .ok (.aload_n 3, 1) := by decide +kernel
theorem dL_law_336 : decode cL_law 336 = .ok (.iconst 0, 1) := by decide +kernel
theorem dL_law_337 : decode cL_law 337 = .ok (.laload, 1) := by decide +kernel
theorem dL_law_338 : decode cL_law 338 = .ok (.iload 6, 2) := by decide +kernel
theorem dL_law_340 : decode cL_law 340 = .ok (.i2l, 1) := by decide +kernel
theorem dL_law_341 : decode cL_law 341 = .ok (.lcmp, 1) := by decide +kernel
theorem dL_law_342 : decode cL_law 342 = .ok (.ifCond .eq 5, 3) := by decide +kernel
theorem dL_law_345 : decode cL_law 345 = .ok (.iconst 0, 1) := by decide +kernel
theorem dL_law_346 : decode cL_law 346 = .ok (.ireturn, 1) := by decide +kernel
theorem dL_law_347 : decode cL_law 347 = .ok (.goto 1556, 3) := by decide +kernel
theorem dL_law_350 : decode cL_law 350 = .ok (.aload_n 1, 1) := by decide +kernel
theorem dL_law_351 : decode cL_law 351 = .ok (.aload_n 0, 1) := by decide +kernel
theorem dL_law_352 : decode cL_law 352 = .ok (.iload 4, 2) := by decide +kernel
theorem dL_law_354 : decode cL_law 354 = .ok (.iconst 1, 1) := by decide +kernel
theorem dL_law_355 : decode cL_law 355 = .ok (.iadd, 1) := by decide +kernel
theorem dL_law_356 : decode cL_law 356 = .ok (.iaload, 1) := by decide +kernel
theorem dL_law_357 : decode cL_law 357 = .ok (.aload_n 0, 1) := by decide +kernel
theorem dL_law_358 : decode cL_law 358 = .ok (.iload 4, 2) := by decide +kernel
theorem dL_law_360 : decode cL_law 360 = .ok (.iconst 2, 1) := by decide +kernel
theorem dL_law_361 : decode cL_law 361 = .ok (.iadd, 1) := by decide +kernel
theorem dL_law_362 : decode cL_law 362 = .ok (.iaload, 1) := by decide +kernel
theorem dL_law_363 : decode cL_law 363 = .ok (.aload_n 3, 1) := by decide +kernel
theorem dL_law_364 : decode cL_law 364 = .ok (.invokestatic 128, 3) := by decide +kernel
theorem dL_law_367 : decode cL_law 367 = .ok (.istore 5, 2) := by decide +kernel
theorem dL_law_369 : decode cL_law 369 = .ok (.aload_n 2, 1) := by decide +kernel
theorem dL_law_370 : decode cL_law 370 = .ok (.aload_n 0, 1) := by decide +kernel
theorem dL_law_371 : decode cL_law 371 = .ok (.iload 4, 2) := by decide +kernel
theorem dL_law_373 : decode cL_law 373 = .ok (.iconst 1, 1) := by decide +kernel
theorem dL_law_374 : decode cL_law 374 = .ok (.iadd, 1) := by decide +kernel
theorem dL_law_375 : decode cL_law 375 = .ok (.iaload, 1) := by decide +kernel
theorem dL_law_376 : decode cL_law 376 = .ok (.aload_n 0, 1) := by decide +kernel
theorem dL_law_377 : decode cL_law 377 = .ok (.iload 4, 2) := by decide +kernel
theorem dL_law_379 : decode cL_law 379 = .ok (.iconst 2, 1) := by decide +kernel
theorem dL_law_380 : decode cL_law 380 = .ok (.iadd, 1) := by decide +kernel
theorem dL_law_381 : decode cL_law 381 = .ok (.iaload, 1) := by decide +kernel
theorem dL_law_382 : decode cL_law 382 = .ok (.invokevirtual 131, 3) := by decide +kernel
theorem dL_law_385 : decode cL_law 385 = .ok (.istore 6, 2) := by decide +kernel
theorem dL_law_387 : decode cL_law 387 = .ok (.aload_n 2, 1) := by decide +kernel
theorem dL_law_388 : decode cL_law 388 = .ok (.invokevirtual 110, 3) := by decide +kernel
theorem dL_law_391 : decode cL_law 391 = .ok (.iload 5, 2) := by decide +kernel
theorem dL_law_393 : decode cL_law 393 = .ok (.if_icmp .eq 5, 3) := by decide +kernel
theorem dL_law_396 : decode cL_law 396 = .ok (.iconst 0, 1) := by decide +kernel
theorem dL_law_397 : decode cL_law 397 = .ok (.ireturn, 1) := by decide +kernel
theorem dL_law_398 : decode cL_law 398 = .ok (.iload 5, 2) := by decide +kernel
theorem dL_law_400 : decode cL_law 400 = .ok (.ifCond .ne 15, 3) := by decide +kernel
theorem dL_law_403 : decode cL_law 403 = .ok (.aload_n 3, 1) := by decide +kernel
theorem dL_law_404 : decode cL_law 404 = .ok (.iconst 0, 1) := by decide +kernel
theorem dL_law_405 : decode cL_law 405 = .ok (.laload, 1) := by decide +kernel
theorem dL_law_406 : decode cL_law 406 = .ok (.iload 6, 2) := by decide +kernel
theorem dL_law_408 : decode cL_law 408 = .ok (.i2l, 1) := by decide +kernel
theorem dL_law_409 : decode cL_law 409 = .ok (.lcmp, 1) := by decide +kernel
theorem dL_law_410 : decode cL_law 410 = .ok (.ifCond .eq 5, 3) := by decide +kernel
theorem dL_law_413 : decode cL_law 413 = .ok (.iconst 0, 1) := by decide +kernel
theorem dL_law_414 : decode cL_law 414 = .ok (.ireturn, 1) := by decide +kernel
theorem dL_law_415 : decode cL_law 415 = .ok (.goto 1488, 3) := by decide +kernel
theorem dL_law_418 : decode cL_law 418 = .ok (.aload_n 1, 1) := by decide +kernel
theorem dL_law_419 : decode cL_law 419 = .ok (.aload_n 0, 1) := by decide +kernel
theorem dL_law_420 : decode cL_law 420 = .ok (.iload 4, 2) := by decide +kernel
theorem dL_law_422 : decode cL_law 422 = .ok (.iconst 1, 1) := by decide +kernel
theorem dL_law_423 : decode cL_law 423 = .ok (.iadd, 1) := by decide +kernel
theorem dL_law_424 : decode cL_law 424 = .ok (.iaload, 1) := by decide +kernel
theorem dL_law_425 : decode cL_law 425 = .ok (.aload_n 0, 1) := by decide +kernel
theorem dL_law_426 : decode cL_law 426 = .ok (.iload 4, 2) := by decide +kernel
theorem dL_law_428 : decode cL_law 428 = .ok (.iconst 2, 1) := by decide +kernel
theorem dL_law_429 : decode cL_law 429 = .ok (.iadd, 1) := by decide +kernel
theorem dL_law_430 : decode cL_law 430 = .ok (.iaload, 1) := by decide +kernel
theorem dL_law_431 : decode cL_law 431 = .ok (.aload_n 3, 1) := by decide +kernel
theorem dL_law_432 : decode cL_law 432 = .ok (.invokestatic 132, 3) := by decide +kernel
theorem dL_law_435 : decode cL_law 435 = .ok (.istore 5, 2) := by decide +kernel
theorem dL_law_437 : decode cL_law 437 = .ok (.aload_n 2, 1) := by decide +kernel
theorem dL_law_438 : decode cL_law 438 = .ok (.aload_n 0, 1) := by decide +kernel
theorem dL_law_439 : decode cL_law 439 = .ok (.iload 4, 2) := by decide +kernel
theorem dL_law_441 : decode cL_law 441 = .ok (.iconst 1, 1) := by decide +kernel
theorem dL_law_442 : decode cL_law 442 = .ok (.iadd, 1) := by decide +kernel
theorem dL_law_443 : decode cL_law 443 = .ok (.iaload, 1) := by decide +kernel
theorem dL_law_444 : decode cL_law 444 = .ok (.aload_n 0, 1) := by decide +kernel
theorem dL_law_445 : decode cL_law 445 = .ok (.iload 4, 2) := by decide +kernel
theorem dL_law_447 : decode cL_law 447 = .ok (.iconst 2, 1) := by decide +kernel
theorem dL_law_448 : decode cL_law 448 = .ok (.iadd, 1) := by decide +kernel
theorem dL_law_449 : decode cL_law 449 = .ok (.iaload, 1) := by decide +kernel
theorem dL_law_450 : decode cL_law 450 = .ok (.invokevirtual 134, 3) := by decide +kernel
theorem dL_law_453 : decode cL_law 453 = .ok (.istore 6, 2) := by decide +kernel
theorem dL_law_455 : decode cL_law 455 = .ok (.aload_n 2, 1) := by decide +kernel
theorem dL_law_456 : decode cL_law 456 = .ok (.invokevirtual 110, 3) := by decide +kernel
theorem dL_law_459 : decode cL_law 459 = .ok (.iload 5, 2) := by decide +kernel
theorem dL_law_461 : decode cL_law 461 = .ok (.if_icmp .eq 5, 3) := by decide +kernel
theorem dL_law_464 : decode cL_law 464 = .ok (.iconst 0, 1) := by decide +kernel
theorem dL_law_465 : decode cL_law 465 = .ok (.ireturn, 1) := by decide +kernel
theorem dL_law_466 : decode cL_law 466 = .ok (.iload 5, 2) := by decide +kernel
theorem dL_law_468 : decode cL_law 468 = .ok (.ifCond .ne 15, 3) := by decide +kernel
theorem dL_law_471 : decode cL_law 471 = .ok (.aload_n 3, 1) := by decide +kernel
theorem dL_law_472 : decode cL_law 472 = .ok (.iconst 0, 1) := by decide +kernel
theorem dL_law_473 : decode cL_law 473 = .ok (.laload, 1) := by decide +kernel
theorem dL_law_474 : decode cL_law 474 = .ok (.iload 6, 2) := by decide +kernel
theorem dL_law_476 : decode cL_law 476 = .ok (.i2l, 1) := by decide +kernel
theorem dL_law_477 : decode cL_law 477 = .ok (.lcmp, 1) := by decide +kernel
theorem dL_law_478 : decode cL_law 478 = .ok (.ifCond .eq 5, 3) := by decide +kernel
theorem dL_law_481 : decode cL_law 481 = .ok (.iconst 0, 1) := by decide +kernel
theorem dL_law_482 : decode cL_law 482 = .ok (.ireturn, 1) := by decide +kernel
theorem dL_law_483 : decode cL_law 483 = .ok (.goto 1420, 3) := by decide +kernel
theorem dL_law_486 : decode cL_law 486 = .ok (.aload_n 1, 1) := by decide +kernel
theorem dL_law_487 : decode cL_law 487 = .ok (.aload_n 0, 1) := by decide +kernel
theorem dL_law_488 : decode cL_law 488 = .ok (.iload 4, 2) := by decide +kernel
theorem dL_law_490 : decode cL_law 490 = .ok (.iconst 1, 1) := by decide +kernel
theorem dL_law_491 : decode cL_law 491 = .ok (.iadd, 1) := by decide +kernel
theorem dL_law_492 : decode cL_law 492 = .ok (.iaload, 1) := by decide +kernel
theorem dL_law_493 : decode cL_law 493 = .ok (.aload_n 3, 1) := by decide +kernel
theorem dL_law_494 : decode cL_law 494 = .ok (.invokestatic 135, 3) := by decide +kernel
theorem dL_law_497 : decode cL_law 497 = .ok (.istore 5, 2) := by decide +kernel
theorem dL_law_499 : decode cL_law 499 = .ok (.aload_n 2, 1) := by decide +kernel
theorem dL_law_500 : decode cL_law 500 = .ok (.aload_n 0, 1) := by decide +kernel
theorem dL_law_501 : decode cL_law 501 = .ok (.iload 4, 2) := by decide +kernel
theorem dL_law_503 : decode cL_law 503 = .ok (.iconst 1, 1) := by decide +kernel
theorem dL_law_504 : decode cL_law 504 = .ok (.iadd, 1) := by decide +kernel
theorem dL_law_505 : decode cL_law 505 = .ok (.iaload, 1) := by decide +kernel
theorem dL_law_506 : decode cL_law 506 = .ok (.invokevirtual 137, 3) := by decide +kernel
theorem dL_law_509 : decode cL_law 509 = .ok (.istore 6, 2) := by decide +kernel
theorem dL_law_511 : decode cL_law 511 = .ok (.aload_n 2, 1) := by decide +kernel
theorem dL_law_512 : decode cL_law 512 = .ok (.invokevirtual 110, 3) := by decide +kernel
theorem dL_law_515 : decode cL_law 515 = .ok (.iload 5, 2) := by decide +kernel
theorem dL_law_517 : decode cL_law 517 = .ok (.if_icmp .eq 5, 3) := by decide +kernel
theorem dL_law_520 : decode cL_law 520 = .ok (.iconst 0, 1) := by decide +kernel
theorem dL_law_521 : decode cL_law 521 = .ok (.ireturn, 1) := by decide +kernel
theorem dL_law_522 : decode cL_law 522 = .ok (.iload 5, 2) := by decide +kernel
theorem dL_law_524 : decode cL_law 524 = .ok (.ifCond .ne 15, 3) := by decide +kernel
theorem dL_law_527 : decode cL_law 527 = .ok (.aload_n 3, 1) := by decide +kernel
theorem dL_law_528 : decode cL_law 528 = .ok (.iconst 0, 1) := by decide +kernel
theorem dL_law_529 : decode cL_law 529 = .ok (.laload, 1) := by decide +kernel
theorem dL_law_530 : decode cL_law 530 = .ok (.iload 6, 2) := by decide +kernel
theorem dL_law_532 : decode cL_law 532 = .ok (.i2l, 1) := by decide +kernel
theorem dL_law_533 : decode cL_law 533 = .ok (.lcmp, 1) := by decide +kernel
theorem dL_law_534 : decode cL_law 534 = .ok (.ifCond .eq 5, 3) := by decide +kernel
theorem dL_law_537 : decode cL_law 537 = .ok (.iconst 0, 1) := by decide +kernel
theorem dL_law_538 : decode cL_law 538 = .ok (.ireturn, 1) := by decide +kernel
theorem dL_law_539 : decode cL_law 539 = .ok (.goto 1364, 3) := by decide +kernel
theorem dL_law_542 : decode cL_law 542 = .ok (.aload_n 1, 1) := by decide +kernel
theorem dL_law_543 : decode cL_law 543 = .ok (.aload_n 0, 1) := by decide +kernel
theorem dL_law_544 : decode cL_law 544 = .ok (.iload 4, 2) := by decide +kernel
theorem dL_law_546 : decode cL_law 546 = .ok (.iconst 1, 1) := by decide +kernel
theorem dL_law_547 : decode cL_law 547 = .ok (.iadd, 1) := by decide +kernel
theorem dL_law_548 : decode cL_law 548 = .ok (.iaload, 1) := by decide +kernel
theorem dL_law_549 : decode cL_law 549 = .ok (.aload_n 3, 1) := by decide +kernel
theorem dL_law_550 : decode cL_law 550 = .ok (.invokestatic 138, 3) := by decide +kernel
theorem dL_law_553 : decode cL_law 553 = .ok (.istore 5, 2) := by decide +kernel
theorem dL_law_555 : decode cL_law 555 = .ok (.aload_n 2, 1) := by decide +kernel
theorem dL_law_556 : decode cL_law 556 = .ok (.aload_n 0, 1) := by decide +kernel
theorem dL_law_557 : decode cL_law 557 = .ok (.iload 4, 2) := by decide +kernel
theorem dL_law_559 : decode cL_law 559 = .ok (.iconst 1, 1) := by decide +kernel
theorem dL_law_560 : decode cL_law 560 = .ok (.iadd, 1) := by decide +kernel
theorem dL_law_561 : decode cL_law 561 = .ok (.iaload, 1) := by decide +kernel
theorem dL_law_562 : decode cL_law 562 = .ok (.invokevirtual 140, 3) := by decide +kernel
theorem dL_law_565 : decode cL_law 565 = .ok (.istore 6, 2) := by decide +kernel
theorem dL_law_567 : decode cL_law 567 = .ok (.aload_n 2, 1) := by decide +kernel
theorem dL_law_568 : decode cL_law 568 = .ok (.invokevirtual 110, 3) := by decide +kernel
theorem dL_law_571 : decode cL_law 571 = .ok (.iload 5, 2) := by decide +kernel
theorem dL_law_573 : decode cL_law 573 = .ok (.if_icmp .eq 5, 3) := by decide +kernel
theorem dL_law_576 : decode cL_law 576 = .ok (.iconst 0, 1) := by decide +kernel
theorem dL_law_577 : decode cL_law 577 = .ok (.ireturn, 1) := by decide +kernel
theorem dL_law_578 : decode cL_law 578 = .ok (.iload 5, 2) := by decide +kernel
theorem dL_law_580 : decode cL_law 580 = .ok (.ifCond .ne 15, 3) := by decide +kernel
theorem dL_law_583 : decode cL_law 583 = .ok (.aload_n 3, 1) := by decide +kernel
theorem dL_law_584 : decode cL_law 584 = .ok (.iconst 0, 1) := by decide +kernel
theorem dL_law_585 : decode cL_law 585 = .ok (.laload, 1) := by decide +kernel
theorem dL_law_586 : decode cL_law 586 = .ok (.iload 6, 2) := by decide +kernel
theorem dL_law_588 : decode cL_law 588 = .ok (.i2l, 1) := by decide +kernel
theorem dL_law_589 : decode cL_law 589 = .ok (.lcmp, 1) := by decide +kernel
theorem dL_law_590 : decode cL_law 590 = .ok (.ifCond .eq 5, 3) := by decide +kernel
theorem dL_law_593 : decode cL_law 593 = .ok (.iconst 0, 1) := by decide +kernel
theorem dL_law_594 : decode cL_law 594 = .ok (.ireturn, 1) := by decide +kernel
theorem dL_law_595 : decode cL_law 595 = .ok (.goto 1308, 3) := by decide +kernel
theorem dL_law_598 : decode cL_law 598 = .ok (.aload_n 1, 1) := by decide +kernel
theorem dL_law_599 : decode cL_law 599 = .ok (.aload_n 0, 1) := by decide +kernel
theorem dL_law_600 : decode cL_law 600 = .ok (.iload 4, 2) := by decide +kernel
theorem dL_law_602 : decode cL_law 602 = .ok (.iconst 1, 1) := by decide +kernel
theorem dL_law_603 : decode cL_law 603 = .ok (.iadd, 1) := by decide +kernel
theorem dL_law_604 : decode cL_law 604 = .ok (.iaload, 1) := by decide +kernel
theorem dL_law_605 : decode cL_law 605 = .ok (.aload_n 0, 1) := by decide +kernel
theorem dL_law_606 : decode cL_law 606 = .ok (.iload 4, 2) := by decide +kernel
theorem dL_law_608 : decode cL_law 608 = .ok (.iconst 2, 1) := by decide +kernel
theorem dL_law_609 : decode cL_law 609 = .ok (.iadd, 1) := by decide +kernel
theorem dL_law_610 : decode cL_law 610 = .ok (.iaload, 1) := by decide +kernel
theorem dL_law_611 : decode cL_law 611 = .ok (.aload_n 3, 1) := by decide +kernel
theorem dL_law_612 : decode cL_law 612 = .ok (.invokestatic 141, 3) := by decide +kernel
theorem dL_law_615 : decode cL_law 615 = .ok (.istore 5, 2) := by decide +kernel
theorem dL_law_617 : decode cL_law 617 = .ok (.aload_n 2, 1) := by decide +kernel
theorem dL_law_618 : decode cL_law 618 = .ok (.aload_n 0, 1) := by decide +kernel
theorem dL_law_619 : decode cL_law 619 = .ok (.iload 4, 2) := by decide +kernel
theorem dL_law_621 : decode cL_law 621 = .ok (.iconst 1, 1) := by decide +kernel
theorem dL_law_622 : decode cL_law 622 = .ok (.iadd, 1) := by decide +kernel
theorem dL_law_623 : decode cL_law 623 = .ok (.iaload, 1) := by decide +kernel
theorem dL_law_624 : decode cL_law 624 = .ok (.aload_n 0, 1) := by decide +kernel
theorem dL_law_625 : decode cL_law 625 = .ok (.iload 4, 2) := by decide +kernel
theorem dL_law_627 : decode cL_law 627 = .ok (.iconst 2, 1) := by decide +kernel
theorem dL_law_628 : decode cL_law 628 = .ok (.iadd, 1) := by decide +kernel
theorem dL_law_629 : decode cL_law 629 = .ok (.iaload, 1) := by decide +kernel
theorem dL_law_630 : decode cL_law 630 = .ok (.invokevirtual 143, 3) := by decide +kernel
theorem dL_law_633 : decode cL_law 633 = .ok (.istore 6, 2) := by decide +kernel
theorem dL_law_635 : decode cL_law 635 = .ok (.aload_n 2, 1) := by decide +kernel
theorem dL_law_636 : decode cL_law 636 = .ok (.invokevirtual 110, 3) := by decide +kernel
theorem dL_law_639 : decode cL_law 639 = .ok (.iload 5, 2) := by decide +kernel
theorem dL_law_641 : decode cL_law 641 = .ok (.if_icmp .eq 5, 3) := by decide +kernel
theorem dL_law_644 : decode cL_law 644 = .ok (.iconst 0, 1) := by decide +kernel
theorem dL_law_645 : decode cL_law 645 = .ok (.ireturn, 1) := by decide +kernel
theorem dL_law_646 : decode cL_law 646 = .ok (.iload 5, 2) := by decide +kernel
theorem dL_law_648 : decode cL_law 648 = .ok (.ifCond .ne 15, 3) := by decide +kernel
theorem dL_law_651 : decode cL_law 651 = .ok (.aload_n 3, 1) := by decide +kernel
theorem dL_law_652 : decode cL_law 652 = .ok (.iconst 0, 1) := by decide +kernel
theorem dL_law_653 : decode cL_law 653 = .ok (.laload, 1) := by decide +kernel
theorem dL_law_654 : decode cL_law 654 = .ok (.iload 6, 2) := by decide +kernel
theorem dL_law_656 : decode cL_law 656 = .ok (.i2l, 1) := by decide +kernel
theorem dL_law_657 : decode cL_law 657 = .ok (.lcmp, 1) := by decide +kernel
theorem dL_law_658 : decode cL_law 658 = .ok (.ifCond .eq 5, 3) := by decide +kernel
theorem dL_law_661 : decode cL_law 661 = .ok (.iconst 0, 1) := by decide +kernel
theorem dL_law_662 : decode cL_law 662 = .ok (.ireturn, 1) := by decide +kernel
theorem dL_law_663 : decode cL_law 663 = .ok (.goto 1240, 3) := by decide +kernel
theorem dL_law_666 : decode cL_law 666 = .ok (.aload_n 1, 1) := by decide +kernel
theorem dL_law_667 : decode cL_law 667 = .ok (.aload_n 0, 1) := by decide +kernel
theorem dL_law_668 : decode cL_law 668 = .ok (.iload 4, 2) := by decide +kernel
theorem dL_law_670 : decode cL_law 670 = .ok (.iconst 1, 1) := by decide +kernel
theorem dL_law_671 : decode cL_law 671 = .ok (.iadd, 1) := by decide +kernel
theorem dL_law_672 : decode cL_law 672 = .ok (.iaload, 1) := by decide +kernel
theorem dL_law_673 : decode cL_law 673 = .ok (.aload_n 3, 1) := by decide +kernel
theorem dL_law_674 : decode cL_law 674 = .ok (.invokestatic 144, 3) := by decide +kernel
theorem dL_law_677 : decode cL_law 677 = .ok (.istore 5, 2) := by decide +kernel
theorem dL_law_679 : decode cL_law 679 = .ok (.aload_n 2, 1) := by decide +kernel
theorem dL_law_680 : decode cL_law 680 = .ok (.aload_n 0, 1) := by decide +kernel
theorem dL_law_681 : decode cL_law 681 = .ok (.iload 4, 2) := by decide +kernel
theorem dL_law_683 : decode cL_law 683 = .ok (.iconst 1, 1) := by decide +kernel
theorem dL_law_684 : decode cL_law 684 = .ok (.iadd, 1) := by decide +kernel
theorem dL_law_685 : decode cL_law 685 = .ok (.iaload, 1) := by decide +kernel
theorem dL_law_686 : decode cL_law 686 = .ok (.invokevirtual 146, 3) := by decide +kernel
theorem dL_law_689 : decode cL_law 689 = .ok (.istore 6, 2) := by decide +kernel
theorem dL_law_691 : decode cL_law 691 = .ok (.aload_n 2, 1) := by decide +kernel
theorem dL_law_692 : decode cL_law 692 = .ok (.invokevirtual 110, 3) := by decide +kernel
theorem dL_law_695 : decode cL_law 695 = .ok (.iload 5, 2) := by decide +kernel
theorem dL_law_697 : decode cL_law 697 = .ok (.if_icmp .eq 5, 3) := by decide +kernel
theorem dL_law_700 : decode cL_law 700 = .ok (.iconst 0, 1) := by decide +kernel
theorem dL_law_701 : decode cL_law 701 = .ok (.ireturn, 1) := by decide +kernel
theorem dL_law_702 : decode cL_law 702 = .ok (.iload 5, 2) := by decide +kernel
theorem dL_law_704 : decode cL_law 704 = .ok (.ifCond .ne 15, 3) := by decide +kernel
theorem dL_law_707 : decode cL_law 707 = .ok (.aload_n 3, 1) := by decide +kernel
theorem dL_law_708 : decode cL_law 708 = .ok (.iconst 0, 1) := by decide +kernel
theorem dL_law_709 : decode cL_law 709 = .ok (.laload, 1) := by decide +kernel
theorem dL_law_710 : decode cL_law 710 = .ok (.iload 6, 2) := by decide +kernel
theorem dL_law_712 : decode cL_law 712 = .ok (.i2l, 1) := by decide +kernel
theorem dL_law_713 : decode cL_law 713 = .ok (.lcmp, 1) := by decide +kernel
theorem dL_law_714 : decode cL_law 714 = .ok (.ifCond .eq 5, 3) := by decide +kernel
theorem dL_law_717 : decode cL_law 717 = .ok (.iconst 0, 1) := by decide +kernel
theorem dL_law_718 : decode cL_law 718 = .ok (.ireturn, 1) := by decide +kernel
theorem dL_law_719 : decode cL_law 719 = .ok (.goto 1184, 3) := by decide +kernel
theorem dL_law_722 : decode cL_law 722 = .ok (.aload_n 1, 1) := by decide +kernel
theorem dL_law_723 : decode cL_law 723 = .ok (.aload_n 0, 1) := by decide +kernel
theorem dL_law_724 : decode cL_law 724 = .ok (.iload 4, 2) := by decide +kernel
theorem dL_law_726 : decode cL_law 726 = .ok (.iconst 1, 1) := by decide +kernel
theorem dL_law_727 : decode cL_law 727 = .ok (.iadd, 1) := by decide +kernel
theorem dL_law_728 : decode cL_law 728 = .ok (.iaload, 1) := by decide +kernel
theorem dL_law_729 : decode cL_law 729 = .ok (.aload_n 0, 1) := by decide +kernel
theorem dL_law_730 : decode cL_law 730 = .ok (.iload 4, 2) := by decide +kernel
theorem dL_law_732 : decode cL_law 732 = .ok (.iconst 2, 1) := by decide +kernel
theorem dL_law_733 : decode cL_law 733 = .ok (.iadd, 1) := by decide +kernel
theorem dL_law_734 : decode cL_law 734 = .ok (.iaload, 1) := by decide +kernel
theorem dL_law_735 : decode cL_law 735 = .ok (.aload_n 3, 1) := by decide +kernel
theorem dL_law_736 : decode cL_law 736 = .ok (.invokestatic 147, 3) := by decide +kernel
theorem dL_law_739 : decode cL_law 739 = .ok (.istore 5, 2) := by decide +kernel
theorem dL_law_741 : decode cL_law 741 = .ok (.aload_n 2, 1) := by decide +kernel
theorem dL_law_742 : decode cL_law 742 = .ok (.aload_n 0, 1) := by decide +kernel
theorem dL_law_743 : decode cL_law 743 = .ok (.iload 4, 2) := by decide +kernel
theorem dL_law_745 : decode cL_law 745 = .ok (.iconst 1, 1) := by decide +kernel
theorem dL_law_746 : decode cL_law 746 = .ok (.iadd, 1) := by decide +kernel
theorem dL_law_747 : decode cL_law 747 = .ok (.iaload, 1) := by decide +kernel
theorem dL_law_748 : decode cL_law 748 = .ok (.aload_n 0, 1) := by decide +kernel
theorem dL_law_749 : decode cL_law 749 = .ok (.iload 4, 2) := by decide +kernel
theorem dL_law_751 : decode cL_law 751 = .ok (.iconst 2, 1) := by decide +kernel
theorem dL_law_752 : decode cL_law 752 = .ok (.iadd, 1) := by decide +kernel
theorem dL_law_753 : decode cL_law 753 = .ok (.iaload, 1) := by decide +kernel
theorem dL_law_754 : decode cL_law 754 = .ok (.invokevirtual 149, 3) := by decide +kernel
theorem dL_law_757 : decode cL_law 757 = .ok (.istore 6, 2) := by decide +kernel
theorem dL_law_759 : decode cL_law 759 = .ok (.aload_n 2, 1) := by decide +kernel
theorem dL_law_760 : decode cL_law 760 = .ok (.invokevirtual 110, 3) := by decide +kernel
theorem dL_law_763 : decode cL_law 763 = .ok (.iload 5, 2) := by decide +kernel
theorem dL_law_765 : decode cL_law 765 = .ok (.if_icmp .eq 5, 3) := by decide +kernel
theorem dL_law_768 : decode cL_law 768 = .ok (.iconst 0, 1) := by decide +kernel
theorem dL_law_769 : decode cL_law 769 = .ok (.ireturn, 1) := by decide +kernel
theorem dL_law_770 : decode cL_law 770 = .ok (.iload 5, 2) := by decide +kernel
theorem dL_law_772 : decode cL_law 772 = .ok (.ifCond .ne 15, 3) := by decide +kernel
theorem dL_law_775 : decode cL_law 775 = .ok (.aload_n 3, 1) := by decide +kernel
theorem dL_law_776 : decode cL_law 776 = .ok (.iconst 0, 1) := by decide +kernel
theorem dL_law_777 : decode cL_law 777 = .ok (.laload, 1) := by decide +kernel
theorem dL_law_778 : decode cL_law 778 = .ok (.iload 6, 2) := by decide +kernel
theorem dL_law_780 : decode cL_law 780 = .ok (.i2l, 1) := by decide +kernel
theorem dL_law_781 : decode cL_law 781 = .ok (.lcmp, 1) := by decide +kernel
theorem dL_law_782 : decode cL_law 782 = .ok (.ifCond .eq 5, 3) := by decide +kernel
theorem dL_law_785 : decode cL_law 785 = .ok (.iconst 0, 1) := by decide +kernel
theorem dL_law_786 : decode cL_law 786 = .ok (.ireturn, 1) := by decide +kernel
theorem dL_law_787 : decode cL_law 787 = .ok (.goto 1116, 3) := by decide +kernel
theorem dL_law_790 : decode cL_law 790 = .ok (.aload_n 1, 1) := by decide +kernel
theorem dL_law_791 : decode cL_law 791 = .ok (.aload_n 0, 1) := by decide +kernel
theorem dL_law_792 : decode cL_law 792 = .ok (.iload 4, 2) := by decide +kernel
theorem dL_law_794 : decode cL_law 794 = .ok (.iconst 1, 1) := by decide +kernel
theorem dL_law_795 : decode cL_law 795 = .ok (.iadd, 1) := by decide +kernel
theorem dL_law_796 : decode cL_law 796 = .ok (.iaload, 1) := by decide +kernel
theorem dL_law_797 : decode cL_law 797 = .ok (.aload_n 0, 1) := by decide +kernel
theorem dL_law_798 : decode cL_law 798 = .ok (.iload 4, 2) := by decide +kernel
theorem dL_law_800 : decode cL_law 800 = .ok (.iconst 2, 1) := by decide +kernel
theorem dL_law_801 : decode cL_law 801 = .ok (.iadd, 1) := by decide +kernel
theorem dL_law_802 : decode cL_law 802 = .ok (.iaload, 1) := by decide +kernel
theorem dL_law_803 : decode cL_law 803 = .ok (.ifCond .eq 7, 3) := by decide +kernel
theorem dL_law_806 : decode cL_law 806 = .ok (.iconst 1, 1) := by decide +kernel
theorem dL_law_807 : decode cL_law 807 = .ok (.goto 4, 3) := by decide +kernel
theorem dL_law_810 : decode cL_law 810 = .ok (.iconst 0, 1) := by decide +kernel
theorem dL_law_811 : decode cL_law 811 = .ok (.aload_n 3, 1) := by decide +kernel
theorem dL_law_812 : decode cL_law 812 = .ok (.invokestatic 150, 3) := by decide +kernel
theorem dL_law_815 : decode cL_law 815 = .ok (.istore 5, 2) := by decide +kernel
theorem dL_law_817 : decode cL_law 817 = .ok (.aload_n 2, 1) := by decide +kernel
theorem dL_law_818 : decode cL_law 818 = .ok (.aload_n 0, 1) := by decide +kernel
theorem dL_law_819 : decode cL_law 819 = .ok (.iload 4, 2) := by decide +kernel
theorem dL_law_821 : decode cL_law 821 = .ok (.iconst 1, 1) := by decide +kernel
theorem dL_law_822 : decode cL_law 822 = .ok (.iadd, 1) := by decide +kernel
theorem dL_law_823 : decode cL_law 823 = .ok (.iaload, 1) := by decide +kernel
theorem dL_law_824 : decode cL_law 824 = .ok (.aload_n 0, 1) := by decide +kernel
theorem dL_law_825 : decode cL_law 825 = .ok (.iload 4, 2) := by decide +kernel
theorem dL_law_827 : decode cL_law 827 = .ok (.iconst 2, 1) := by decide +kernel
theorem dL_law_828 : decode cL_law 828 = .ok (.iadd, 1) := by decide +kernel
theorem dL_law_829 : decode cL_law 829 = .ok (.iaload, 1) := by decide +kernel
theorem dL_law_830 : decode cL_law 830 = .ok (.ifCond .eq 7, 3) := by decide +kernel
theorem dL_law_833 : decode cL_law 833 = .ok (.iconst 1, 1) := by decide +kernel
theorem dL_law_834 : decode cL_law 834 = .ok (.goto 4, 3) := by decide +kernel
theorem dL_law_837 : decode cL_law 837 = .ok (.iconst 0, 1) := by decide +kernel
theorem dL_law_838 : decode cL_law 838 = .ok (.invokevirtual 153, 3) := by decide +kernel
theorem dL_law_841 : decode cL_law 841 = .ok (.istore 6, 2) := by decide +kernel
theorem dL_law_843 : decode cL_law 843 = .ok (.aload_n 2, 1) := by decide +kernel
theorem dL_law_844 : decode cL_law 844 = .ok (.invokevirtual 110, 3) := by decide +kernel
theorem dL_law_847 : decode cL_law 847 = .ok (.iload 5, 2) := by decide +kernel
theorem dL_law_849 : decode cL_law 849 = .ok (.if_icmp .eq 5, 3) := by decide +kernel
theorem dL_law_852 : decode cL_law 852 = .ok (.iconst 0, 1) := by decide +kernel
theorem dL_law_853 : decode cL_law 853 = .ok (.ireturn, 1) := by decide +kernel
theorem dL_law_854 : decode cL_law 854 = .ok (.iload 5, 2) := by decide +kernel
theorem dL_law_856 : decode cL_law 856 = .ok (.ifCond .ne 15, 3) := by decide +kernel
theorem dL_law_859 : decode cL_law 859 = .ok (.aload_n 3, 1) := by decide +kernel
theorem dL_law_860 : decode cL_law 860 = .ok (.iconst 0, 1) := by decide +kernel
theorem dL_law_861 : decode cL_law 861 = .ok (.laload, 1) := by decide +kernel
theorem dL_law_862 : decode cL_law 862 = .ok (.iload 6, 2) := by decide +kernel
theorem dL_law_864 : decode cL_law 864 = .ok (.i2l, 1) := by decide +kernel
theorem dL_law_865 : decode cL_law 865 = .ok (.lcmp, 1) := by decide +kernel
theorem dL_law_866 : decode cL_law 866 = .ok (.ifCond .eq 5, 3) := by decide +kernel
theorem dL_law_869 : decode cL_law 869 = .ok (.iconst 0, 1) := by decide +kernel
theorem dL_law_870 : decode cL_law 870 = .ok (.ireturn, 1) := by decide +kernel
theorem dL_law_871 : decode cL_law 871 = .ok (.goto 1032, 3) := by decide +kernel
theorem dL_law_874 : decode cL_law 874 = .ok (.aload_n 1, 1) := by decide +kernel
theorem dL_law_875 : decode cL_law 875 = .ok (.aload_n 0, 1) := by decide +kernel
theorem dL_law_876 : decode cL_law 876 = .ok (.iload 4, 2) := by decide +kernel
theorem dL_law_878 : decode cL_law 878 = .ok (.iconst 1, 1) := by decide +kernel
theorem dL_law_879 : decode cL_law 879 = .ok (.iadd, 1) := by decide +kernel
theorem dL_law_880 : decode cL_law 880 = .ok (.iaload, 1) := by decide +kernel
theorem dL_law_881 : decode cL_law 881 = .ok (.aload_n 0, 1) := by decide +kernel
theorem dL_law_882 : decode cL_law 882 = .ok (.iload 4, 2) := by decide +kernel
theorem dL_law_884 : decode cL_law 884 = .ok (.iconst 2, 1) := by decide +kernel
theorem dL_law_885 : decode cL_law 885 = .ok (.iadd, 1) := by decide +kernel
theorem dL_law_886 : decode cL_law 886 = .ok (.iaload, 1) := by decide +kernel
theorem dL_law_887 : decode cL_law 887 = .ok (.aload_n 3, 1) := by decide +kernel
theorem dL_law_888 : decode cL_law 888 = .ok (.invokestatic 154, 3) := by decide +kernel
theorem dL_law_891 : decode cL_law 891 = .ok (.istore 5, 2) := by decide +kernel
theorem dL_law_893 : decode cL_law 893 = .ok (.aload_n 2, 1) := by decide +kernel
theorem dL_law_894 : decode cL_law 894 = .ok (.aload_n 0, 1) := by decide +kernel
theorem dL_law_895 : decode cL_law 895 = .ok (.iload 4, 2) := by decide +kernel
theorem dL_law_897 : decode cL_law 897 = .ok (.iconst 1, 1) := by decide +kernel
theorem dL_law_898 : decode cL_law 898 = .ok (.iadd, 1) := by decide +kernel
theorem dL_law_899 : decode cL_law 899 = .ok (.iaload, 1) := by decide +kernel
theorem dL_law_900 : decode cL_law 900 = .ok (.aload_n 0, 1) := by decide +kernel
theorem dL_law_901 : decode cL_law 901 = .ok (.iload 4, 2) := by decide +kernel
theorem dL_law_903 : decode cL_law 903 = .ok (.iconst 2, 1) := by decide +kernel
theorem dL_law_904 : decode cL_law 904 = .ok (.iadd, 1) := by decide +kernel
theorem dL_law_905 : decode cL_law 905 = .ok (.iaload, 1) := by decide +kernel
theorem dL_law_906 : decode cL_law 906 = .ok (.invokevirtual 156, 3) := by decide +kernel
theorem dL_law_909 : decode cL_law 909 = .ok (.istore 6, 2) := by decide +kernel
theorem dL_law_911 : decode cL_law 911 = .ok (.aload_n 2, 1) := by decide +kernel
theorem dL_law_912 : decode cL_law 912 = .ok (.invokevirtual 110, 3) := by decide +kernel
theorem dL_law_915 : decode cL_law 915 = .ok (.iload 5, 2) := by decide +kernel
theorem dL_law_917 : decode cL_law 917 = .ok (.if_icmp .eq 5, 3) := by decide +kernel
theorem dL_law_920 : decode cL_law 920 = .ok (.iconst 0, 1) := by decide +kernel
theorem dL_law_921 : decode cL_law 921 = .ok (.ireturn, 1) := by decide +kernel
theorem dL_law_922 : decode cL_law 922 = .ok (.iload 5, 2) := by decide +kernel
theorem dL_law_924 : decode cL_law 924 = .ok (.ifCond .ne 15, 3) := by decide +kernel
theorem dL_law_927 : decode cL_law 927 = .ok (.aload_n 3, 1) := by decide +kernel
theorem dL_law_928 : decode cL_law 928 = .ok (.iconst 0, 1) := by decide +kernel
theorem dL_law_929 : decode cL_law 929 = .ok (.laload, 1) := by decide +kernel
theorem dL_law_930 : decode cL_law 930 = .ok (.iload 6, 2) := by decide +kernel
theorem dL_law_932 : decode cL_law 932 = .ok (.i2l, 1) := by decide +kernel
theorem dL_law_933 : decode cL_law 933 = .ok (.lcmp, 1) := by decide +kernel
theorem dL_law_934 : decode cL_law 934 = .ok (.ifCond .eq 5, 3) := by decide +kernel
theorem dL_law_937 : decode cL_law 937 = .ok (.iconst 0, 1) := by decide +kernel
theorem dL_law_938 : decode cL_law 938 = .ok (.ireturn, 1) := by decide +kernel
theorem dL_law_939 : decode cL_law 939 = .ok (.goto 964, 3) := by decide +kernel
theorem dL_law_942 : decode cL_law 942 = .ok (.aload_n 1, 1) := by decide +kernel
theorem dL_law_943 : decode cL_law 943 = .ok (.aload_n 0, 1) := by decide +kernel
theorem dL_law_944 : decode cL_law 944 = .ok (.iload 4, 2) := by decide +kernel
theorem dL_law_946 : decode cL_law 946 = .ok (.iconst 1, 1) := by decide +kernel
theorem dL_law_947 : decode cL_law 947 = .ok (.iadd, 1) := by decide +kernel
theorem dL_law_948 : decode cL_law 948 = .ok (.iaload, 1) := by decide +kernel
theorem dL_law_949 : decode cL_law 949 = .ok (.aload_n 3, 1) := by decide +kernel
theorem dL_law_950 : decode cL_law 950 = .ok (.invokestatic 157, 3) := by decide +kernel
theorem dL_law_953 : decode cL_law 953 = .ok (.istore 5, 2) := by decide +kernel
theorem dL_law_955 : decode cL_law 955 = .ok (.aload_n 2, 1) := by decide +kernel
theorem dL_law_956 : decode cL_law 956 = .ok (.aload_n 0, 1) := by decide +kernel
theorem dL_law_957 : decode cL_law 957 = .ok (.iload 4, 2) := by decide +kernel
theorem dL_law_959 : decode cL_law 959 = .ok (.iconst 1, 1) := by decide +kernel
theorem dL_law_960 : decode cL_law 960 = .ok (.iadd, 1) := by decide +kernel
theorem dL_law_961 : decode cL_law 961 = .ok (.iaload, 1) := by decide +kernel
theorem dL_law_962 : decode cL_law 962 = .ok (.invokevirtual 159, 3) := by decide +kernel
theorem dL_law_965 : decode cL_law 965 = .ok (.istore 6, 2) := by decide +kernel
theorem dL_law_967 : decode cL_law 967 = .ok (.aload_n 2, 1) := by decide +kernel
theorem dL_law_968 : decode cL_law 968 = .ok (.invokevirtual 110, 3) := by decide +kernel
theorem dL_law_971 : decode cL_law 971 = .ok (.iload 5, 2) := by decide +kernel
theorem dL_law_973 : decode cL_law 973 = .ok (.if_icmp .eq 5, 3) := by decide +kernel
theorem dL_law_976 : decode cL_law 976 = .ok (.iconst 0, 1) := by decide +kernel
theorem dL_law_977 : decode cL_law 977 = .ok (.ireturn, 1) := by decide +kernel
theorem dL_law_978 : decode cL_law 978 = .ok (.iload 5, 2) := by decide +kernel
theorem dL_law_980 : decode cL_law 980 = .ok (.ifCond .ne 15, 3) := by decide +kernel
theorem dL_law_983 : decode cL_law 983 = .ok (.aload_n 3, 1) := by decide +kernel
theorem dL_law_984 : decode cL_law 984 = .ok (.iconst 0, 1) := by decide +kernel
theorem dL_law_985 : decode cL_law 985 = .ok (.laload, 1) := by decide +kernel
theorem dL_law_986 : decode cL_law 986 = .ok (.iload 6, 2) := by decide +kernel
theorem dL_law_988 : decode cL_law 988 = .ok (.i2l, 1) := by decide +kernel
theorem dL_law_989 : decode cL_law 989 = .ok (.lcmp, 1) := by decide +kernel
theorem dL_law_990 : decode cL_law 990 = .ok (.ifCond .eq 5, 3) := by decide +kernel
theorem dL_law_993 : decode cL_law 993 = .ok (.iconst 0, 1) := by decide +kernel
theorem dL_law_994 : decode cL_law 994 = .ok (.ireturn, 1) := by decide +kernel
theorem dL_law_995 : decode cL_law 995 = .ok (.goto 908, 3) := by decide +kernel
theorem dL_law_998 : decode cL_law 998 = .ok (.aload_n 1, 1) := by decide +kernel
theorem dL_law_999 : decode cL_law 999 = .ok (.aload_n 0, 1) := by decide +kernel
theorem dL_law_1000 : decode cL_law 1000 = .ok (.iload 4, 2) := by decide +kernel
theorem dL_law_1002 : decode cL_law 1002 = .ok (.iconst 1, 1) := by decide +kernel
theorem dL_law_1003 : decode cL_law 1003 = .ok (.iadd, 1) := by decide +kernel
theorem dL_law_1004 : decode cL_law 1004 = .ok (.iaload, 1) := by decide +kernel
theorem dL_law_1005 : decode cL_law 1005 = .ok (.aload_n 3, 1) := by decide +kernel
theorem dL_law_1006 : decode cL_law 1006 = .ok (.invokestatic 160, 3) := by decide +kernel
theorem dL_law_1009 : decode cL_law 1009 = .ok (.istore 5, 2) := by decide +kernel
theorem dL_law_1011 : decode cL_law 1011 = .ok (.aload_n 2, 1) := by decide +kernel
theorem dL_law_1012 : decode cL_law 1012 = .ok (.aload_n 0, 1) := by decide +kernel
theorem dL_law_1013 : decode cL_law 1013 = .ok (.iload 4, 2) := by decide +kernel
theorem dL_law_1015 : decode cL_law 1015 = .ok (.iconst 1, 1) := by decide +kernel
theorem dL_law_1016 : decode cL_law 1016 = .ok (.iadd, 1) := by decide +kernel
theorem dL_law_1017 : decode cL_law 1017 = .ok (.iaload, 1) := by decide +kernel
theorem dL_law_1018 : decode cL_law 1018 = .ok (.invokevirtual 162, 3) := by decide +kernel
theorem dL_law_1021 : decode cL_law 1021 = .ok (.istore 6, 2) := by decide +kernel
theorem dL_law_1023 : decode cL_law 1023 = .ok (.aload_n 2, 1) := by decide +kernel
theorem dL_law_1024 : decode cL_law 1024 = .ok (.invokevirtual 110, 3) := by decide +kernel
theorem dL_law_1027 : decode cL_law 1027 = .ok (.iload 5, 2) := by decide +kernel
theorem dL_law_1029 : decode cL_law 1029 = .ok (.if_icmp .eq 5, 3) := by decide +kernel
theorem dL_law_1032 : decode cL_law 1032 = .ok (.iconst 0, 1) := by decide +kernel
theorem dL_law_1033 : decode cL_law 1033 = .ok (.ireturn, 1) := by decide +kernel
theorem dL_law_1034 : decode cL_law 1034 = .ok (.iload 5, 2) := by decide +kernel
theorem dL_law_1036 : decode cL_law 1036 = .ok (.ifCond .ne 15, 3) := by decide +kernel
theorem dL_law_1039 : decode cL_law 1039 = .ok (.aload_n 3, 1) := by decide +kernel
theorem dL_law_1040 : decode cL_law 1040 = .ok (.iconst 0, 1) := by decide +kernel
theorem dL_law_1041 : decode cL_law 1041 = .ok (.laload, 1) := by decide +kernel
theorem dL_law_1042 : decode cL_law 1042 = .ok (.iload 6, 2) := by decide +kernel
theorem dL_law_1044 : decode cL_law 1044 = .ok (.i2l, 1) := by decide +kernel
theorem dL_law_1045 : decode cL_law 1045 = .ok (.lcmp, 1) := by decide +kernel
theorem dL_law_1046 : decode cL_law 1046 = .ok (.ifCond .eq 5, 3) := by decide +kernel
theorem dL_law_1049 : decode cL_law 1049 = .ok (.iconst 0, 1) := by decide +kernel
theorem dL_law_1050 : decode cL_law 1050 = .ok (.ireturn, 1) := by decide +kernel
theorem dL_law_1051 : decode cL_law 1051 = .ok (.goto 852, 3) := by decide +kernel
theorem dL_law_1054 : decode cL_law 1054 = .ok (.aload_n 1, 1) := by decide +kernel
theorem dL_law_1055 : decode cL_law 1055 = .ok (.aload_n 0, 1) := by decide +kernel
theorem dL_law_1056 : decode cL_law 1056 = .ok (.iload 4, 2) := by decide +kernel
theorem dL_law_1058 : decode cL_law 1058 = .ok (.iconst 1, 1) := by decide +kernel
theorem dL_law_1059 : decode cL_law 1059 = .ok (.iadd, 1) := by decide +kernel
theorem dL_law_1060 : decode cL_law 1060 = .ok (.iaload, 1) := by decide +kernel
theorem dL_law_1061 : decode cL_law 1061 = .ok (.aload_n 3, 1) := by decide +kernel
theorem dL_law_1062 : decode cL_law 1062 = .ok (.invokestatic 163, 3) := by decide +kernel
theorem dL_law_1065 : decode cL_law 1065 = .ok (.istore 5, 2) := by decide +kernel
theorem dL_law_1067 : decode cL_law 1067 = .ok (.aload_n 2, 1) := by decide +kernel
theorem dL_law_1068 : decode cL_law 1068 = .ok (.aload_n 0, 1) := by decide +kernel
theorem dL_law_1069 : decode cL_law 1069 = .ok (.iload 4, 2) := by decide +kernel
theorem dL_law_1071 : decode cL_law 1071 = .ok (.iconst 1, 1) := by decide +kernel
theorem dL_law_1072 : decode cL_law 1072 = .ok (.iadd, 1) := by decide +kernel
theorem dL_law_1073 : decode cL_law 1073 = .ok (.iaload, 1) := by decide +kernel
theorem dL_law_1074 : decode cL_law 1074 = .ok (.invokevirtual 165, 3) := by decide +kernel
theorem dL_law_1077 : decode cL_law 1077 = .ok (.istore 6, 2) := by decide +kernel
theorem dL_law_1079 : decode cL_law 1079 = .ok (.aload_n 2, 1) := by decide +kernel
theorem dL_law_1080 : decode cL_law 1080 = .ok (.invokevirtual 110, 3) := by decide +kernel
theorem dL_law_1083 : decode cL_law 1083 = .ok (.iload 5, 2) := by decide +kernel
theorem dL_law_1085 : decode cL_law 1085 = .ok (.if_icmp .eq 5, 3) := by decide +kernel
theorem dL_law_1088 : decode cL_law 1088 = .ok (.iconst 0, 1) := by decide +kernel
theorem dL_law_1089 : decode cL_law 1089 = .ok (.ireturn, 1) := by decide +kernel
theorem dL_law_1090 : decode cL_law 1090 = .ok (.iload 5, 2) := by decide +kernel
theorem dL_law_1092 : decode cL_law 1092 = .ok (.ifCond .ne 15, 3) := by decide +kernel
theorem dL_law_1095 : decode cL_law 1095 = .ok (.aload_n 3, 1) := by decide +kernel
theorem dL_law_1096 : decode cL_law 1096 = .ok (.iconst 0, 1) := by decide +kernel
theorem dL_law_1097 : decode cL_law 1097 = .ok (.laload, 1) := by decide +kernel
theorem dL_law_1098 : decode cL_law 1098 = .ok (.iload 6, 2) := by decide +kernel
theorem dL_law_1100 : decode cL_law 1100 = .ok (.i2l, 1) := by decide +kernel
theorem dL_law_1101 : decode cL_law 1101 = .ok (.lcmp, 1) := by decide +kernel
theorem dL_law_1102 : decode cL_law 1102 = .ok (.ifCond .eq 5, 3) := by decide +kernel
theorem dL_law_1105 : decode cL_law 1105 = .ok (.iconst 0, 1) := by decide +kernel
theorem dL_law_1106 : decode cL_law 1106 = .ok (.ireturn, 1) := by decide +kernel
theorem dL_law_1107 : decode cL_law 1107 = .ok (.goto 796, 3) := by decide +kernel
theorem dL_law_1110 : decode cL_law 1110 = .ok (.aload_n 1, 1) := by decide +kernel
theorem dL_law_1111 : decode cL_law 1111 = .ok (.aload_n 3, 1) := by decide +kernel
theorem dL_law_1112 : decode cL_law 1112 = .ok (.invokestatic 166, 3) := by decide +kernel
theorem dL_law_1115 : decode cL_law 1115 = .ok (.istore 5, 2) := by decide +kernel
theorem dL_law_1117 : decode cL_law 1117 = .ok (.aload_n 2, 1) := by decide +kernel
theorem dL_law_1118 : decode cL_law 1118 = .ok (.invokevirtual 168, 3) := by decide +kernel
theorem dL_law_1121 : decode cL_law 1121 = .ok (.istore 6, 2) := by decide +kernel
theorem dL_law_1123 : decode cL_law 1123 = .ok (.aload_n 2, 1) := by decide +kernel
theorem dL_law_1124 : decode cL_law 1124 = .ok (.invokevirtual 110, 3) := by decide +kernel
theorem dL_law_1127 : decode cL_law 1127 = .ok (.iload 5, 2) := by decide +kernel
theorem dL_law_1129 : decode cL_law 1129 = .ok (.if_icmp .eq 5, 3) := by decide +kernel
theorem dL_law_1132 : decode cL_law 1132 = .ok (.iconst 0, 1) := by decide +kernel
theorem dL_law_1133 : decode cL_law 1133 = .ok (.ireturn, 1) := by decide +kernel
theorem dL_law_1134 : decode cL_law 1134 = .ok (.iload 5, 2) := by decide +kernel
theorem dL_law_1136 : decode cL_law 1136 = .ok (.ifCond .ne 15, 3) := by decide +kernel
theorem dL_law_1139 : decode cL_law 1139 = .ok (.aload_n 3, 1) := by decide +kernel
theorem dL_law_1140 : decode cL_law 1140 = .ok (.iconst 0, 1) := by decide +kernel
theorem dL_law_1141 : decode cL_law 1141 = .ok (.laload, 1) := by decide +kernel
theorem dL_law_1142 : decode cL_law 1142 = .ok (.iload 6, 2) := by decide +kernel
theorem dL_law_1144 : decode cL_law 1144 = .ok (.i2l, 1) := by decide +kernel
theorem dL_law_1145 : decode cL_law 1145 = .ok (.lcmp, 1) := by decide +kernel
theorem dL_law_1146 : decode cL_law 1146 = .ok (.ifCond .eq 5, 3) := by decide +kernel
theorem dL_law_1149 : decode cL_law 1149 = .ok (.iconst 0, 1) := by decide +kernel
theorem dL_law_1150 : decode cL_law 1150 = .ok (.ireturn, 1) := by decide +kernel
theorem dL_law_1151 : decode cL_law 1151 = .ok (.goto 752, 3) := by decide +kernel
theorem dL_law_1154 : decode cL_law 1154 = .ok (.aload_n 1, 1) := by decide +kernel
theorem dL_law_1155 : decode cL_law 1155 = .ok (.invokevirtual 169, 3) := by decide +kernel
theorem dL_law_1158 : decode cL_law 1158 = .ok (.aload_n 2, 1) := by decide +kernel
theorem dL_law_1159 : decode cL_law 1159 = .ok (.invokevirtual 172, 3) := by decide +kernel
theorem dL_law_1162 : decode cL_law 1162 = .ok (.if_icmp .eq 741, 3) := by decide +kernel
theorem dL_law_1165 : decode cL_law 1165 = .ok (.iconst 0, 1) := by decide +kernel
theorem dL_law_1166 : decode cL_law 1166 = .ok (.ireturn, 1) := by decide +kernel
theorem dL_law_1167 : decode cL_law 1167 = .ok (.aload_n 1, 1) := by decide +kernel
theorem dL_law_1168 : decode cL_law 1168 = .ok (.aload_n 0, 1) := by decide +kernel
theorem dL_law_1169 : decode cL_law 1169 = .ok (.iload 4, 2) := by decide +kernel
theorem dL_law_1171 : decode cL_law 1171 = .ok (.iconst 1, 1) := by decide +kernel
theorem dL_law_1172 : decode cL_law 1172 = .ok (.iadd, 1) := by decide +kernel
theorem dL_law_1173 : decode cL_law 1173 = .ok (.iaload, 1) := by decide +kernel
theorem dL_law_1174 : decode cL_law 1174 = .ok (.aload_n 3, 1) := by decide +kernel
theorem dL_law_1175 : decode cL_law 1175 = .ok (.invokestatic 173, 3) := by decide +kernel
theorem dL_law_1178 : decode cL_law 1178 = .ok (.istore 5, 2) := by decide +kernel
theorem dL_law_1180 : decode cL_law 1180 = .ok (.aload_n 2, 1) := by decide +kernel
theorem dL_law_1181 : decode cL_law 1181 = .ok (.aload_n 0, 1) := by decide +kernel
theorem dL_law_1182 : decode cL_law 1182 = .ok (.iload 4, 2) := by decide +kernel
theorem dL_law_1184 : decode cL_law 1184 = .ok (.iconst 1, 1) := by decide +kernel
theorem dL_law_1185 : decode cL_law 1185 = .ok (.iadd, 1) := by decide +kernel
theorem dL_law_1186 : decode cL_law 1186 = .ok (.iaload, 1) := by decide +kernel
theorem dL_law_1187 : decode cL_law 1187 = .ok (.invokevirtual 175, 3) := by decide +kernel
theorem dL_law_1190 : decode cL_law 1190 = .ok (.istore 6, 2) := by decide +kernel
theorem dL_law_1192 : decode cL_law 1192 = .ok (.aload_n 2, 1) := by decide +kernel
theorem dL_law_1193 : decode cL_law 1193 = .ok (.invokevirtual 110, 3) := by decide +kernel
theorem dL_law_1196 : decode cL_law 1196 = .ok (.iload 5, 2) := by decide +kernel
theorem dL_law_1198 : decode cL_law 1198 = .ok (.if_icmp .eq 5, 3) := by decide +kernel
theorem dL_law_1201 : decode cL_law 1201 = .ok (.iconst 0, 1) := by decide +kernel
theorem dL_law_1202 : decode cL_law 1202 = .ok (.ireturn, 1) := by decide +kernel
theorem dL_law_1203 : decode cL_law 1203 = .ok (.iload 5, 2) := by decide +kernel
theorem dL_law_1205 : decode cL_law 1205 = .ok (.ifCond .ne 15, 3) := by decide +kernel
theorem dL_law_1208 : decode cL_law 1208 = .ok (.aload_n 3, 1) := by decide +kernel
theorem dL_law_1209 : decode cL_law 1209 = .ok (.iconst 0, 1) := by decide +kernel
theorem dL_law_1210 : decode cL_law 1210 = .ok (.laload, 1) := by decide +kernel
theorem dL_law_1211 : decode cL_law 1211 = .ok (.iload 6, 2) := by decide +kernel
theorem dL_law_1213 : decode cL_law 1213 = .ok (.i2l, 1) := by decide +kernel
theorem dL_law_1214 : decode cL_law 1214 = .ok (.lcmp, 1) := by decide +kernel
theorem dL_law_1215 : decode cL_law 1215 = .ok (.ifCond .eq 5, 3) := by decide +kernel
theorem dL_law_1218 : decode cL_law 1218 = .ok (.iconst 0, 1) := by decide +kernel
theorem dL_law_1219 : decode cL_law 1219 = .ok (.ireturn, 1) := by decide +kernel
theorem dL_law_1220 : decode cL_law 1220 = .ok (.goto 683, 3) := by decide +kernel
theorem dL_law_1223 : decode cL_law 1223 = .ok (.aload_n 1, 1) := by decide +kernel
theorem dL_law_1224 : decode cL_law 1224 = .ok (.aload_n 0, 1) := by decide +kernel
theorem dL_law_1225 : decode cL_law 1225 = .ok (.iload 4, 2) := by decide +kernel
theorem dL_law_1227 : decode cL_law 1227 = .ok (.iconst 1, 1) := by decide +kernel
theorem dL_law_1228 : decode cL_law 1228 = .ok (.iadd, 1) := by decide +kernel
theorem dL_law_1229 : decode cL_law 1229 = .ok (.iaload, 1) := by decide +kernel
theorem dL_law_1230 : decode cL_law 1230 = .ok (.aload_n 0, 1) := by decide +kernel
theorem dL_law_1231 : decode cL_law 1231 = .ok (.iload 4, 2) := by decide +kernel
theorem dL_law_1233 : decode cL_law 1233 = .ok (.iconst 2, 1) := by decide +kernel
theorem dL_law_1234 : decode cL_law 1234 = .ok (.iadd, 1) := by decide +kernel
theorem dL_law_1235 : decode cL_law 1235 = .ok (.iaload, 1) := by decide +kernel
theorem dL_law_1236 : decode cL_law 1236 = .ok (.ifCond .eq 7, 3) := by decide +kernel
theorem dL_law_1239 : decode cL_law 1239 = .ok (.iconst 1, 1) := by decide +kernel
theorem dL_law_1240 : decode cL_law 1240 = .ok (.goto 4, 3) := by decide +kernel
theorem dL_law_1243 : decode cL_law 1243 = .ok (.iconst 0, 1) := by decide +kernel
theorem dL_law_1244 : decode cL_law 1244 = .ok (.aload_n 3, 1) := by decide +kernel
theorem dL_law_1245 : decode cL_law 1245 = .ok (.invokestatic 176, 3) := by decide +kernel
theorem dL_law_1248 : decode cL_law 1248 = .ok (.istore 5, 2) := by decide +kernel
theorem dL_law_1250 : decode cL_law 1250 = .ok (.aload_n 2, 1) := by decide +kernel
theorem dL_law_1251 : decode cL_law 1251 = .ok (.aload_n 0, 1) := by decide +kernel
theorem dL_law_1252 : decode cL_law 1252 = .ok (.iload 4, 2) := by decide +kernel
theorem dL_law_1254 : decode cL_law 1254 = .ok (.iconst 1, 1) := by decide +kernel
theorem dL_law_1255 : decode cL_law 1255 = .ok (.iadd, 1) := by decide +kernel
theorem dL_law_1256 : decode cL_law 1256 = .ok (.iaload, 1) := by decide +kernel
theorem dL_law_1257 : decode cL_law 1257 = .ok (.aload_n 0, 1) := by decide +kernel
theorem dL_law_1258 : decode cL_law 1258 = .ok (.iload 4, 2) := by decide +kernel
theorem dL_law_1260 : decode cL_law 1260 = .ok (.iconst 2, 1) := by decide +kernel
theorem dL_law_1261 : decode cL_law 1261 = .ok (.iadd, 1) := by decide +kernel
theorem dL_law_1262 : decode cL_law 1262 = .ok (.iaload, 1) := by decide +kernel
theorem dL_law_1263 : decode cL_law 1263 = .ok (.ifCond .eq 7, 3) := by decide +kernel
theorem dL_law_1266 : decode cL_law 1266 = .ok (.iconst 1, 1) := by decide +kernel
theorem dL_law_1267 : decode cL_law 1267 = .ok (.goto 4, 3) := by decide +kernel
theorem dL_law_1270 : decode cL_law 1270 = .ok (.iconst 0, 1) := by decide +kernel
theorem dL_law_1271 : decode cL_law 1271 = .ok (.invokevirtual 178, 3) := by decide +kernel
theorem dL_law_1274 : decode cL_law 1274 = .ok (.istore 6, 2) := by decide +kernel
theorem dL_law_1276 : decode cL_law 1276 = .ok (.aload_n 2, 1) := by decide +kernel
theorem dL_law_1277 : decode cL_law 1277 = .ok (.invokevirtual 110, 3) := by decide +kernel
theorem dL_law_1280 : decode cL_law 1280 = .ok (.iload 5, 2) := by decide +kernel
theorem dL_law_1282 : decode cL_law 1282 = .ok (.if_icmp .eq 5, 3) := by decide +kernel
theorem dL_law_1285 : decode cL_law 1285 = .ok (.iconst 0, 1) := by decide +kernel
theorem dL_law_1286 : decode cL_law 1286 = .ok (.ireturn, 1) := by decide +kernel
theorem dL_law_1287 : decode cL_law 1287 = .ok (.iload 5, 2) := by decide +kernel
theorem dL_law_1289 : decode cL_law 1289 = .ok (.ifCond .ne 15, 3) := by decide +kernel
theorem dL_law_1292 : decode cL_law 1292 = .ok (.aload_n 3, 1) := by decide +kernel
theorem dL_law_1293 : decode cL_law 1293 = .ok (.iconst 0, 1) := by decide +kernel
theorem dL_law_1294 : decode cL_law 1294 = .ok (.laload, 1) := by decide +kernel
theorem dL_law_1295 : decode cL_law 1295 = .ok (.iload 6, 2) := by decide +kernel
theorem dL_law_1297 : decode cL_law 1297 = .ok (.i2l, 1) := by decide +kernel
theorem dL_law_1298 : decode cL_law 1298 = .ok (.lcmp, 1) := by decide +kernel
theorem dL_law_1299 : decode cL_law 1299 = .ok (.ifCond .eq 5, 3) := by decide +kernel
theorem dL_law_1302 : decode cL_law 1302 = .ok (.iconst 0, 1) := by decide +kernel
theorem dL_law_1303 : decode cL_law 1303 = .ok (.ireturn, 1) := by decide +kernel
theorem dL_law_1304 : decode cL_law 1304 = .ok (.goto 599, 3) := by decide +kernel
theorem dL_law_1307 : decode cL_law 1307 = .ok (.aload_n 1, 1) := by decide +kernel
theorem dL_law_1308 : decode cL_law 1308 = .ok (.aload_n 0, 1) := by decide +kernel
theorem dL_law_1309 : decode cL_law 1309 = .ok (.iload 4, 2) := by decide +kernel
theorem dL_law_1311 : decode cL_law 1311 = .ok (.iconst 1, 1) := by decide +kernel
theorem dL_law_1312 : decode cL_law 1312 = .ok (.iadd, 1) := by decide +kernel
theorem dL_law_1313 : decode cL_law 1313 = .ok (.iaload, 1) := by decide +kernel
theorem dL_law_1314 : decode cL_law 1314 = .ok (.aload_n 0, 1) := by decide +kernel
theorem dL_law_1315 : decode cL_law 1315 = .ok (.iload 4, 2) := by decide +kernel
theorem dL_law_1317 : decode cL_law 1317 = .ok (.iconst 2, 1) := by decide +kernel
theorem dL_law_1318 : decode cL_law 1318 = .ok (.iadd, 1) := by decide +kernel
theorem dL_law_1319 : decode cL_law 1319 = .ok (.iaload, 1) := by decide +kernel
theorem dL_law_1320 : decode cL_law 1320 = .ok (.aload_n 0, 1) := by decide +kernel
theorem dL_law_1321 : decode cL_law 1321 = .ok (.iload 4, 2) := by decide +kernel
theorem dL_law_1323 : decode cL_law 1323 = .ok (.iconst 3, 1) := by decide +kernel
theorem dL_law_1324 : decode cL_law 1324 = .ok (.iadd, 1) := by decide +kernel
theorem dL_law_1325 : decode cL_law 1325 = .ok (.iaload, 1) := by decide +kernel
theorem dL_law_1326 : decode cL_law 1326 = .ok (.aload_n 3, 1) := by decide +kernel
theorem dL_law_1327 : decode cL_law 1327 = .ok (.invokestatic 179, 3) := by decide +kernel
theorem dL_law_1330 : decode cL_law 1330 = .ok (.istore 5, 2) := by decide +kernel
theorem dL_law_1332 : decode cL_law 1332 = .ok (.aload_n 2, 1) := by decide +kernel
theorem dL_law_1333 : decode cL_law 1333 = .ok (.aload_n 0, 1) := by decide +kernel
theorem dL_law_1334 : decode cL_law 1334 = .ok (.iload 4, 2) := by decide +kernel
theorem dL_law_1336 : decode cL_law 1336 = .ok (.iconst 1, 1) := by decide +kernel
theorem dL_law_1337 : decode cL_law 1337 = .ok (.iadd, 1) := by decide +kernel
theorem dL_law_1338 : decode cL_law 1338 = .ok (.iaload, 1) := by decide +kernel
theorem dL_law_1339 : decode cL_law 1339 = .ok (.aload_n 0, 1) := by decide +kernel
theorem dL_law_1340 : decode cL_law 1340 = .ok (.iload 4, 2) := by decide +kernel
theorem dL_law_1342 : decode cL_law 1342 = .ok (.iconst 2, 1) := by decide +kernel
theorem dL_law_1343 : decode cL_law 1343 = .ok (.iadd, 1) := by decide +kernel
theorem dL_law_1344 : decode cL_law 1344 = .ok (.iaload, 1) := by decide +kernel
theorem dL_law_1345 : decode cL_law 1345 = .ok (.aload_n 0, 1) := by decide +kernel
theorem dL_law_1346 : decode cL_law 1346 = .ok (.iload 4, 2) := by decide +kernel
theorem dL_law_1348 : decode cL_law 1348 = .ok (.iconst 3, 1) := by decide +kernel
theorem dL_law_1349 : decode cL_law 1349 = .ok (.iadd, 1) := by decide +kernel
theorem dL_law_1350 : decode cL_law 1350 = .ok (.iaload, 1) := by decide +kernel
theorem dL_law_1351 : decode cL_law 1351 = .ok (.invokevirtual 182, 3) := by decide +kernel
theorem dL_law_1354 : decode cL_law 1354 = .ok (.istore 6, 2) := by decide +kernel
theorem dL_law_1356 : decode cL_law 1356 = .ok (.aload_n 2, 1) := by decide +kernel
theorem dL_law_1357 : decode cL_law 1357 = .ok (.invokevirtual 110, 3) := by decide +kernel
theorem dL_law_1360 : decode cL_law 1360 = .ok (.iload 5, 2) := by decide +kernel
theorem dL_law_1362 : decode cL_law 1362 = .ok (.if_icmp .eq 5, 3) := by decide +kernel
theorem dL_law_1365 : decode cL_law 1365 = .ok (.iconst 0, 1) := by decide +kernel
theorem dL_law_1366 : decode cL_law 1366 = .ok (.ireturn, 1) := by decide +kernel
theorem dL_law_1367 : decode cL_law 1367 = .ok (.iload 5, 2) := by decide +kernel
theorem dL_law_1369 : decode cL_law 1369 = .ok (.ifCond .ne 15, 3) := by decide +kernel
theorem dL_law_1372 : decode cL_law 1372 = .ok (.aload_n 3, 1) := by decide +kernel
theorem dL_law_1373 : decode cL_law 1373 = .ok (.iconst 0, 1) := by decide +kernel
theorem dL_law_1374 : decode cL_law 1374 = .ok (.laload, 1) := by decide +kernel
theorem dL_law_1375 : decode cL_law 1375 = .ok (.iload 6, 2) := by decide +kernel
theorem dL_law_1377 : decode cL_law 1377 = .ok (.i2l, 1) := by decide +kernel
theorem dL_law_1378 : decode cL_law 1378 = .ok (.lcmp, 1) := by decide +kernel
theorem dL_law_1379 : decode cL_law 1379 = .ok (.ifCond .eq 5, 3) := by decide +kernel
theorem dL_law_1382 : decode cL_law 1382 = .ok (.iconst 0, 1) := by decide +kernel
theorem dL_law_1383 : decode cL_law 1383 = .ok (.ireturn, 1) := by decide +kernel
theorem dL_law_1384 : decode cL_law 1384 = .ok (.goto 519, 3) := by decide +kernel
theorem dL_law_1387 : decode cL_law 1387 = .ok (.aload_n 1, 1) := by decide +kernel
theorem dL_law_1388 : decode cL_law 1388 = .ok (.aload_n 0, 1) := by decide +kernel
theorem dL_law_1389 : decode cL_law 1389 = .ok (.iload 4, 2) := by decide +kernel
theorem dL_law_1391 : decode cL_law 1391 = .ok (.iconst 1, 1) := by decide +kernel
theorem dL_law_1392 : decode cL_law 1392 = .ok (.iadd, 1) := by decide +kernel
theorem dL_law_1393 : decode cL_law 1393 = .ok (.iaload, 1) := by decide +kernel
theorem dL_law_1394 : decode cL_law 1394 = .ok (.aload_n 0, 1) := by decide +kernel
theorem dL_law_1395 : decode cL_law 1395 = .ok (.iload 4, 2) := by decide +kernel
theorem dL_law_1397 : decode cL_law 1397 = .ok (.iconst 2, 1) := by decide +kernel
theorem dL_law_1398 : decode cL_law 1398 = .ok (.iadd, 1) := by decide +kernel
theorem dL_law_1399 : decode cL_law 1399 = .ok (.iaload, 1) := by decide +kernel
theorem dL_law_1400 : decode cL_law 1400 = .ok (.aload_n 3, 1) := by decide +kernel
theorem dL_law_1401 : decode cL_law 1401 = .ok (.invokestatic 183, 3) := by decide +kernel
theorem dL_law_1404 : decode cL_law 1404 = .ok (.istore 5, 2) := by decide +kernel
theorem dL_law_1406 : decode cL_law 1406 = .ok (.aload_n 2, 1) := by decide +kernel
theorem dL_law_1407 : decode cL_law 1407 = .ok (.aload_n 0, 1) := by decide +kernel
theorem dL_law_1408 : decode cL_law 1408 = .ok (.iload 4, 2) := by decide +kernel
theorem dL_law_1410 : decode cL_law 1410 = .ok (.iconst 1, 1) := by decide +kernel
theorem dL_law_1411 : decode cL_law 1411 = .ok (.iadd, 1) := by decide +kernel
theorem dL_law_1412 : decode cL_law 1412 = .ok (.iaload, 1) := by decide +kernel
theorem dL_law_1413 : decode cL_law 1413 = .ok (.aload_n 0, 1) := by decide +kernel
theorem dL_law_1414 : decode cL_law 1414 = .ok (.iload 4, 2) := by decide +kernel
theorem dL_law_1416 : decode cL_law 1416 = .ok (.iconst 2, 1) := by decide +kernel
theorem dL_law_1417 : decode cL_law 1417 = .ok (.iadd, 1) := by decide +kernel
theorem dL_law_1418 : decode cL_law 1418 = .ok (.iaload, 1) := by decide +kernel
theorem dL_law_1419 : decode cL_law 1419 = .ok (.invokevirtual 185, 3) := by decide +kernel
theorem dL_law_1422 : decode cL_law 1422 = .ok (.istore 6, 2) := by decide +kernel
theorem dL_law_1424 : decode cL_law 1424 = .ok (.aload_n 2, 1) := by decide +kernel
theorem dL_law_1425 : decode cL_law 1425 = .ok (.invokevirtual 110, 3) := by decide +kernel
theorem dL_law_1428 : decode cL_law 1428 = .ok (.iload 5, 2) := by decide +kernel
theorem dL_law_1430 : decode cL_law 1430 = .ok (.if_icmp .eq 5, 3) := by decide +kernel
theorem dL_law_1433 : decode cL_law 1433 = .ok (.iconst 0, 1) := by decide +kernel
theorem dL_law_1434 : decode cL_law 1434 = .ok (.ireturn, 1) := by decide +kernel
theorem dL_law_1435 : decode cL_law 1435 = .ok (.iload 5, 2) := by decide +kernel
theorem dL_law_1437 : decode cL_law 1437 = .ok (.ifCond .ne 15, 3) := by decide +kernel
theorem dL_law_1440 : decode cL_law 1440 = .ok (.aload_n 3, 1) := by decide +kernel
theorem dL_law_1441 : decode cL_law 1441 = .ok (.iconst 0, 1) := by decide +kernel
theorem dL_law_1442 : decode cL_law 1442 = .ok (.laload, 1) := by decide +kernel
theorem dL_law_1443 : decode cL_law 1443 = .ok (.iload 6, 2) := by decide +kernel
theorem dL_law_1445 : decode cL_law 1445 = .ok (.i2l, 1) := by decide +kernel
theorem dL_law_1446 : decode cL_law 1446 = .ok (.lcmp, 1) := by decide +kernel
theorem dL_law_1447 : decode cL_law 1447 = .ok (.ifCond .eq 5, 3) := by decide +kernel
theorem dL_law_1450 : decode cL_law 1450 = .ok (.iconst 0, 1) := by decide +kernel
theorem dL_law_1451 : decode cL_law 1451 = .ok (.ireturn, 1) := by decide +kernel
theorem dL_law_1452 : decode cL_law 1452 = .ok (.goto 451, 3) := by decide +kernel
theorem dL_law_1455 : decode cL_law 1455 = .ok (.aload_n 1, 1) := by decide +kernel
theorem dL_law_1456 : decode cL_law 1456 = .ok (.aload_n 0, 1) := by decide +kernel
theorem dL_law_1457 : decode cL_law 1457 = .ok (.iload 4, 2) := by decide +kernel
theorem dL_law_1459 : decode cL_law 1459 = .ok (.iconst 1, 1) := by decide +kernel
theorem dL_law_1460 : decode cL_law 1460 = .ok (.iadd, 1) := by decide +kernel
theorem dL_law_1461 : decode cL_law 1461 = .ok (.iaload, 1) := by decide +kernel
theorem dL_law_1462 : decode cL_law 1462 = .ok (.aload_n 0, 1) := by decide +kernel
theorem dL_law_1463 : decode cL_law 1463 = .ok (.iload 4, 2) := by decide +kernel
theorem dL_law_1465 : decode cL_law 1465 = .ok (.iconst 2, 1) := by decide +kernel
theorem dL_law_1466 : decode cL_law 1466 = .ok (.iadd, 1) := by decide +kernel
theorem dL_law_1467 : decode cL_law 1467 = .ok (.iaload, 1) := by decide +kernel
theorem dL_law_1468 : decode cL_law 1468 = .ok (.aload_n 3, 1) := by decide +kernel
theorem dL_law_1469 : decode cL_law 1469 = .ok (.invokestatic 186, 3) := by decide +kernel
theorem dL_law_1472 : decode cL_law 1472 = .ok (.istore 5, 2) := by decide +kernel
theorem dL_law_1474 : decode cL_law 1474 = .ok (.aload_n 2, 1) := by decide +kernel
theorem dL_law_1475 : decode cL_law 1475 = .ok (.aload_n 0, 1) := by decide +kernel
theorem dL_law_1476 : decode cL_law 1476 = .ok (.iload 4, 2) := by decide +kernel
theorem dL_law_1478 : decode cL_law 1478 = .ok (.iconst 1, 1) := by decide +kernel
theorem dL_law_1479 : decode cL_law 1479 = .ok (.iadd, 1) := by decide +kernel
theorem dL_law_1480 : decode cL_law 1480 = .ok (.iaload, 1) := by decide +kernel
theorem dL_law_1481 : decode cL_law 1481 = .ok (.aload_n 0, 1) := by decide +kernel
theorem dL_law_1482 : decode cL_law 1482 = .ok (.iload 4, 2) := by decide +kernel
theorem dL_law_1484 : decode cL_law 1484 = .ok (.iconst 2, 1) := by decide +kernel
theorem dL_law_1485 : decode cL_law 1485 = .ok (.iadd, 1) := by decide +kernel
theorem dL_law_1486 : decode cL_law 1486 = .ok (.iaload, 1) := by decide +kernel
theorem dL_law_1487 : decode cL_law 1487 = .ok (.invokevirtual 188, 3) := by decide +kernel
theorem dL_law_1490 : decode cL_law 1490 = .ok (.istore 6, 2) := by decide +kernel
theorem dL_law_1492 : decode cL_law 1492 = .ok (.aload_n 2, 1) := by decide +kernel
theorem dL_law_1493 : decode cL_law 1493 = .ok (.invokevirtual 110, 3) := by decide +kernel
theorem dL_law_1496 : decode cL_law 1496 = .ok (.iload 5, 2) := by decide +kernel
theorem dL_law_1498 : decode cL_law 1498 = .ok (.if_icmp .eq 5, 3) := by decide +kernel
theorem dL_law_1501 : decode cL_law 1501 = .ok (.iconst 0, 1) := by decide +kernel
theorem dL_law_1502 : decode cL_law 1502 = .ok (.ireturn, 1) := by decide +kernel
theorem dL_law_1503 : decode cL_law 1503 = .ok (.iload 5, 2) := by decide +kernel
theorem dL_law_1505 : decode cL_law 1505 = .ok (.ifCond .ne 15, 3) := by decide +kernel
theorem dL_law_1508 : decode cL_law 1508 = .ok (.aload_n 3, 1) := by decide +kernel
theorem dL_law_1509 : decode cL_law 1509 = .ok (.iconst 0, 1) := by decide +kernel
theorem dL_law_1510 : decode cL_law 1510 = .ok (.laload, 1) := by decide +kernel
theorem dL_law_1511 : decode cL_law 1511 = .ok (.iload 6, 2) := by decide +kernel
theorem dL_law_1513 : decode cL_law 1513 = .ok (.i2l, 1) := by decide +kernel
theorem dL_law_1514 : decode cL_law 1514 = .ok (.lcmp, 1) := by decide +kernel
theorem dL_law_1515 : decode cL_law 1515 = .ok (.ifCond .eq 5, 3) := by decide +kernel
theorem dL_law_1518 : decode cL_law 1518 = .ok (.iconst 0, 1) := by decide +kernel
theorem dL_law_1519 : decode cL_law 1519 = .ok (.ireturn, 1) := by decide +kernel
theorem dL_law_1520 : decode cL_law 1520 = .ok (.goto 383, 3) := by decide +kernel
theorem dL_law_1523 : decode cL_law 1523 = .ok (.aload_n 1, 1) := by decide +kernel
theorem dL_law_1524 : decode cL_law 1524 = .ok (.aload_n 0, 1) := by decide +kernel
theorem dL_law_1525 : decode cL_law 1525 = .ok (.iload 4, 2) := by decide +kernel
theorem dL_law_1527 : decode cL_law 1527 = .ok (.iconst 1, 1) := by decide +kernel
theorem dL_law_1528 : decode cL_law 1528 = .ok (.iadd, 1) := by decide +kernel
theorem dL_law_1529 : decode cL_law 1529 = .ok (.iaload, 1) := by decide +kernel
theorem dL_law_1530 : decode cL_law 1530 = .ok (.aload_n 0, 1) := by decide +kernel
theorem dL_law_1531 : decode cL_law 1531 = .ok (.iload 4, 2) := by decide +kernel
theorem dL_law_1533 : decode cL_law 1533 = .ok (.iconst 2, 1) := by decide +kernel
theorem dL_law_1534 : decode cL_law 1534 = .ok (.iadd, 1) := by decide +kernel
theorem dL_law_1535 : decode cL_law 1535 = .ok (.iaload, 1) := by decide +kernel
theorem dL_law_1536 : decode cL_law 1536 = .ok (.aload_n 3, 1) := by decide +kernel
theorem dL_law_1537 : decode cL_law 1537 = .ok (.invokestatic 189, 3) := by decide +kernel
theorem dL_law_1540 : decode cL_law 1540 = .ok (.istore 5, 2) := by decide +kernel
theorem dL_law_1542 : decode cL_law 1542 = .ok (.aload_n 2, 1) := by decide +kernel
theorem dL_law_1543 : decode cL_law 1543 = .ok (.aload_n 0, 1) := by decide +kernel
theorem dL_law_1544 : decode cL_law 1544 = .ok (.iload 4, 2) := by decide +kernel
theorem dL_law_1546 : decode cL_law 1546 = .ok (.iconst 1, 1) := by decide +kernel
theorem dL_law_1547 : decode cL_law 1547 = .ok (.iadd, 1) := by decide +kernel
theorem dL_law_1548 : decode cL_law 1548 = .ok (.iaload, 1) := by decide +kernel
theorem dL_law_1549 : decode cL_law 1549 = .ok (.aload_n 0, 1) := by decide +kernel
theorem dL_law_1550 : decode cL_law 1550 = .ok (.iload 4, 2) := by decide +kernel
theorem dL_law_1552 : decode cL_law 1552 = .ok (.iconst 2, 1) := by decide +kernel
theorem dL_law_1553 : decode cL_law 1553 = .ok (.iadd, 1) := by decide +kernel
theorem dL_law_1554 : decode cL_law 1554 = .ok (.iaload, 1) := by decide +kernel
theorem dL_law_1555 : decode cL_law 1555 = .ok (.invokevirtual 191, 3) := by decide +kernel
theorem dL_law_1558 : decode cL_law 1558 = .ok (.istore 6, 2) := by decide +kernel
theorem dL_law_1560 : decode cL_law 1560 = .ok (.aload_n 2, 1) := by decide +kernel
theorem dL_law_1561 : decode cL_law 1561 = .ok (.invokevirtual 110, 3) := by decide +kernel
theorem dL_law_1564 : decode cL_law 1564 = .ok (.iload 5, 2) := by decide +kernel
theorem dL_law_1566 : decode cL_law 1566 = .ok (.if_icmp .eq 5, 3) := by decide +kernel
theorem dL_law_1569 : decode cL_law 1569 = .ok (.iconst 0, 1) := by decide +kernel
theorem dL_law_1570 : decode cL_law 1570 = .ok (.ireturn, 1) := by decide +kernel
theorem dL_law_1571 : decode cL_law 1571 = .ok (.iload 5, 2) := by decide +kernel
theorem dL_law_1573 : decode cL_law 1573 = .ok (.ifCond .ne 15, 3) := by decide +kernel
theorem dL_law_1576 : decode cL_law 1576 = .ok (.aload_n 3, 1) := by decide +kernel
theorem dL_law_1577 : decode cL_law 1577 = .ok (.iconst 0, 1) := by decide +kernel
theorem dL_law_1578 : decode cL_law 1578 = .ok (.laload, 1) := by decide +kernel
theorem dL_law_1579 : decode cL_law 1579 = .ok (.iload 6, 2) := by decide +kernel
theorem dL_law_1581 : decode cL_law 1581 = .ok (.i2l, 1) := by decide +kernel
theorem dL_law_1582 : decode cL_law 1582 = .ok (.lcmp, 1) := by decide +kernel
theorem dL_law_1583 : decode cL_law 1583 = .ok (.ifCond .eq 5, 3) := by decide +kernel
theorem dL_law_1586 : decode cL_law 1586 = .ok (.iconst 0, 1) := by decide +kernel
theorem dL_law_1587 : decode cL_law 1587 = .ok (.ireturn, 1) := by decide +kernel
theorem dL_law_1588 : decode cL_law 1588 = .ok (.goto 315, 3) := by decide +kernel
theorem dL_law_1591 : decode cL_law 1591 = .ok (.aload_n 1, 1) := by decide +kernel
theorem dL_law_1592 : decode cL_law 1592 = .ok (.aload_n 0, 1) := by decide +kernel
theorem dL_law_1593 : decode cL_law 1593 = .ok (.iload 4, 2) := by decide +kernel
theorem dL_law_1595 : decode cL_law 1595 = .ok (.iconst 1, 1) := by decide +kernel
theorem dL_law_1596 : decode cL_law 1596 = .ok (.iadd, 1) := by decide +kernel
theorem dL_law_1597 : decode cL_law 1597 = .ok (.iaload, 1) := by decide +kernel
theorem dL_law_1598 : decode cL_law 1598 = .ok (.aload_n 0, 1) := by decide +kernel
theorem dL_law_1599 : decode cL_law 1599 = .ok (.iload 4, 2) := by decide +kernel
theorem dL_law_1601 : decode cL_law 1601 = .ok (.iconst 2, 1) := by decide +kernel
theorem dL_law_1602 : decode cL_law 1602 = .ok (.iadd, 1) := by decide +kernel
theorem dL_law_1603 : decode cL_law 1603 = .ok (.iaload, 1) := by decide +kernel
theorem dL_law_1604 : decode cL_law 1604 = .ok (.i2l, 1) := by decide +kernel
theorem dL_law_1605 : decode cL_law 1605 = .ok (.bipush 32, 2) := by decide +kernel
theorem dL_law_1607 : decode cL_law 1607 = .ok (.lshl, 1) := by decide +kernel
theorem dL_law_1608 : decode cL_law 1608 = .ok (.aload_n 0, 1) := by decide +kernel
theorem dL_law_1609 : decode cL_law 1609 = .ok (.iload 4, 2) := by decide +kernel
theorem dL_law_1611 : decode cL_law 1611 = .ok (.iconst 3, 1) := by decide +kernel
theorem dL_law_1612 : decode cL_law 1612 = .ok (.iadd, 1) := by decide +kernel
theorem dL_law_1613 : decode cL_law 1613 = .ok (.iaload, 1) := by decide +kernel
theorem dL_law_1614 : decode cL_law 1614 = .ok (.i2l, 1) := by decide +kernel
theorem dL_law_1615 : decode cL_law 1615 = .ok (.ldc2_w 192, 3) := by decide +kernel
theorem dL_law_1618 : decode cL_law 1618 = .ok (.land, 1) := by decide +kernel
theorem dL_law_1619 : decode cL_law 1619 = .ok (.lor, 1) := by decide +kernel
theorem dL_law_1620 : decode cL_law 1620 = .ok (.aload_n 3, 1) := by decide +kernel
theorem dL_law_1621 : decode cL_law 1621 = .ok (.invokestatic 194, 3) := by decide +kernel
theorem dL_law_1624 : decode cL_law 1624 = .ok (.istore 5, 2) := by decide +kernel
theorem dL_law_1626 : decode cL_law 1626 = .ok (.aload_n 2, 1) := by decide +kernel
theorem dL_law_1627 : decode cL_law 1627 = .ok (.aload_n 0, 1) := by decide +kernel
theorem dL_law_1628 : decode cL_law 1628 = .ok (.iload 4, 2) := by decide +kernel
theorem dL_law_1630 : decode cL_law 1630 = .ok (.iconst 1, 1) := by decide +kernel
theorem dL_law_1631 : decode cL_law 1631 = .ok (.iadd, 1) := by decide +kernel
theorem dL_law_1632 : decode cL_law 1632 = .ok (.iaload, 1) := by decide +kernel
theorem dL_law_1633 : decode cL_law 1633 = .ok (.aload_n 0, 1) := by decide +kernel
theorem dL_law_1634 : decode cL_law 1634 = .ok (.iload 4, 2) := by decide +kernel
theorem dL_law_1636 : decode cL_law 1636 = .ok (.iconst 2, 1) := by decide +kernel
theorem dL_law_1637 : decode cL_law 1637 = .ok (.iadd, 1) := by decide +kernel
theorem dL_law_1638 : decode cL_law 1638 = .ok (.iaload, 1) := by decide +kernel
theorem dL_law_1639 : decode cL_law 1639 = .ok (.i2l, 1) := by decide +kernel
theorem dL_law_1640 : decode cL_law 1640 = .ok (.bipush 32, 2) := by decide +kernel
theorem dL_law_1642 : decode cL_law 1642 = .ok (.lshl, 1) := by decide +kernel
theorem dL_law_1643 : decode cL_law 1643 = .ok (.aload_n 0, 1) := by decide +kernel
theorem dL_law_1644 : decode cL_law 1644 = .ok (.iload 4, 2) := by decide +kernel
theorem dL_law_1646 : decode cL_law 1646 = .ok (.iconst 3, 1) := by decide +kernel
theorem dL_law_1647 : decode cL_law 1647 = .ok (.iadd, 1) := by decide +kernel
theorem dL_law_1648 : decode cL_law 1648 = .ok (.iaload, 1) := by decide +kernel
theorem dL_law_1649 : decode cL_law 1649 = .ok (.i2l, 1) := by decide +kernel
theorem dL_law_1650 : decode cL_law 1650 = .ok (.ldc2_w 192, 3) := by decide +kernel
theorem dL_law_1653 : decode cL_law 1653 = .ok (.land, 1) := by decide +kernel
theorem dL_law_1654 : decode cL_law 1654 = .ok (.lor, 1) := by decide +kernel
theorem dL_law_1655 : decode cL_law 1655 = .ok (.invokevirtual 197, 3) := by decide +kernel
theorem dL_law_1658 : decode cL_law 1658 = .ok (.istore 6, 2) := by decide +kernel
theorem dL_law_1660 : decode cL_law 1660 = .ok (.aload_n 2, 1) := by decide +kernel
theorem dL_law_1661 : decode cL_law 1661 = .ok (.invokevirtual 110, 3) := by decide +kernel
theorem dL_law_1664 : decode cL_law 1664 = .ok (.iload 5, 2) := by decide +kernel
theorem dL_law_1666 : decode cL_law 1666 = .ok (.if_icmp .eq 5, 3) := by decide +kernel
theorem dL_law_1669 : decode cL_law 1669 = .ok (.iconst 0, 1) := by decide +kernel
theorem dL_law_1670 : decode cL_law 1670 = .ok (.ireturn, 1) := by decide +kernel
theorem dL_law_1671 : decode cL_law 1671 = .ok (.iload 5, 2) := by decide +kernel
theorem dL_law_1673 : decode cL_law 1673 = .ok (.ifCond .ne 15, 3) := by decide +kernel
theorem dL_law_1676 : decode cL_law 1676 = .ok (.aload_n 3, 1) := by decide +kernel
theorem dL_law_1677 : decode cL_law 1677 = .ok (.iconst 0, 1) := by decide +kernel
theorem dL_law_1678 : decode cL_law 1678 = .ok (.laload, 1) := by decide +kernel
theorem dL_law_1679 : decode cL_law 1679 = .ok (.iload 6, 2) := by decide +kernel
theorem dL_law_1681 : decode cL_law 1681 = .ok (.i2l, 1) := by decide +kernel
theorem dL_law_1682 : decode cL_law 1682 = .ok (.lcmp, 1) := by decide +kernel
theorem dL_law_1683 : decode cL_law 1683 = .ok (.ifCond .eq 5, 3) := by decide +kernel
theorem dL_law_1686 : decode cL_law 1686 = .ok (.iconst 0, 1) := by decide +kernel
theorem dL_law_1687 : decode cL_law 1687 = .ok (.ireturn, 1) := by decide +kernel
theorem dL_law_1688 : decode cL_law 1688 = .ok (.goto 215, 3) := by decide +kernel
theorem dL_law_1691 : decode cL_law 1691 = .ok (.aload_n 1, 1) := by decide +kernel
theorem dL_law_1692 : decode cL_law 1692 = .ok (.aload_n 0, 1) := by decide +kernel
theorem dL_law_1693 : decode cL_law 1693 = .ok (.iload 4, 2) := by decide +kernel
theorem dL_law_1695 : decode cL_law 1695 = .ok (.iconst 1, 1) := by decide +kernel
theorem dL_law_1696 : decode cL_law 1696 = .ok (.iadd, 1) := by decide +kernel
theorem dL_law_1697 : decode cL_law 1697 = .ok (.iaload, 1) := by decide +kernel
theorem dL_law_1698 : decode cL_law 1698 = .ok (.i2l, 1) := by decide +kernel
theorem dL_law_1699 : decode cL_law 1699 = .ok (.bipush 32, 2) := by decide +kernel
theorem dL_law_1701 : decode cL_law 1701 = .ok (.lshl, 1) := by decide +kernel
theorem dL_law_1702 : decode cL_law 1702 = .ok (.aload_n 0, 1) := by decide +kernel
theorem dL_law_1703 : decode cL_law 1703 = .ok (.iload 4, 2) := by decide +kernel
theorem dL_law_1705 : decode cL_law 1705 = .ok (.iconst 2, 1) := by decide +kernel
theorem dL_law_1706 : decode cL_law 1706 = .ok (.iadd, 1) := by decide +kernel
theorem dL_law_1707 : decode cL_law 1707 = .ok (.iaload, 1) := by decide +kernel
theorem dL_law_1708 : decode cL_law 1708 = .ok (.i2l, 1) := by decide +kernel
theorem dL_law_1709 : decode cL_law 1709 = .ok (.ldc2_w 192, 3) := by decide +kernel
theorem dL_law_1712 : decode cL_law 1712 = .ok (.land, 1) := by decide +kernel
theorem dL_law_1713 : decode cL_law 1713 = .ok (.lor, 1) := by decide +kernel
theorem dL_law_1714 : decode cL_law 1714 = .ok (.aload_n 0, 1) := by decide +kernel
theorem dL_law_1715 : decode cL_law 1715 = .ok (.iload 4, 2) := by decide +kernel
theorem dL_law_1717 : decode cL_law 1717 = .ok (.iconst 3, 1) := by decide +kernel
theorem dL_law_1718 : decode cL_law 1718 = .ok (.iadd, 1) := by decide +kernel
theorem dL_law_1719 : decode cL_law 1719 = .ok (.iaload, 1) := by decide +kernel
theorem dL_law_1720 : decode cL_law 1720 = .ok (.aload_n 3, 1) := by decide +kernel
theorem dL_law_1721 : decode cL_law 1721 = .ok (.invokestatic 198, 3) := by decide +kernel
theorem dL_law_1724 : decode cL_law 1724 = .ok (.istore 5, 2) := by decide +kernel
theorem dL_law_1726 : decode cL_law 1726 = .ok (.aload_n 2, 1) := by decide +kernel
theorem dL_law_1727 : decode cL_law 1727 = .ok (.aload_n 0, 1) := by decide +kernel
theorem dL_law_1728 : decode cL_law 1728 = .ok (.iload 4, 2) := by decide +kernel
theorem dL_law_1730 : decode cL_law 1730 = .ok (.iconst 1, 1) := by decide +kernel
theorem dL_law_1731 : decode cL_law 1731 = .ok (.iadd, 1) := by decide +kernel
theorem dL_law_1732 : decode cL_law 1732 = .ok (.iaload, 1) := by decide +kernel
theorem dL_law_1733 : decode cL_law 1733 = .ok (.i2l, 1) := by decide +kernel
theorem dL_law_1734 : decode cL_law 1734 = .ok (.bipush 32, 2) := by decide +kernel
theorem dL_law_1736 : decode cL_law 1736 = .ok (.lshl, 1) := by decide +kernel
theorem dL_law_1737 : decode cL_law 1737 = .ok (.aload_n 0, 1) := by decide +kernel
theorem dL_law_1738 : decode cL_law 1738 = .ok (.iload 4, 2) := by decide +kernel
theorem dL_law_1740 : decode cL_law 1740 = .ok (.iconst 2, 1) := by decide +kernel
theorem dL_law_1741 : decode cL_law 1741 = .ok (.iadd, 1) := by decide +kernel
theorem dL_law_1742 : decode cL_law 1742 = .ok (.iaload, 1) := by decide +kernel
theorem dL_law_1743 : decode cL_law 1743 = .ok (.i2l, 1) := by decide +kernel
theorem dL_law_1744 : decode cL_law 1744 = .ok (.ldc2_w 192, 3) := by decide +kernel
theorem dL_law_1747 : decode cL_law 1747 = .ok (.land, 1) := by decide +kernel
theorem dL_law_1748 : decode cL_law 1748 = .ok (.lor, 1) := by decide +kernel
theorem dL_law_1749 : decode cL_law 1749 = .ok (.aload_n 0, 1) := by decide +kernel
theorem dL_law_1750 : decode cL_law 1750 = .ok (.iload 4, 2) := by decide +kernel
theorem dL_law_1752 : decode cL_law 1752 = .ok (.iconst 3, 1) := by decide +kernel
theorem dL_law_1753 : decode cL_law 1753 = .ok (.iadd, 1) := by decide +kernel
theorem dL_law_1754 : decode cL_law 1754 = .ok (.iaload, 1) := by decide +kernel
theorem dL_law_1755 : decode cL_law 1755 = .ok (.invokevirtual 201, 3) := by decide +kernel
theorem dL_law_1758 : decode cL_law 1758 = .ok (.istore 6, 2) := by decide +kernel
theorem dL_law_1760 : decode cL_law 1760 = .ok (.aload_n 2, 1) := by decide +kernel
theorem dL_law_1761 : decode cL_law 1761 = .ok (.invokevirtual 110, 3) := by decide +kernel
theorem dL_law_1764 : decode cL_law 1764 = .ok (.iload 5, 2) := by decide +kernel
theorem dL_law_1766 : decode cL_law 1766 = .ok (.if_icmp .eq 5, 3) := by decide +kernel
theorem dL_law_1769 : decode cL_law 1769 = .ok (.iconst 0, 1) := by decide +kernel
theorem dL_law_1770 : decode cL_law 1770 = .ok (.ireturn, 1) := by decide +kernel
theorem dL_law_1771 : decode cL_law 1771 = .ok (.iload 5, 2) := by decide +kernel
theorem dL_law_1773 : decode cL_law 1773 = .ok (.ifCond .ne 15, 3) := by decide +kernel
theorem dL_law_1776 : decode cL_law 1776 = .ok (.aload_n 3, 1) := by decide +kernel
theorem dL_law_1777 : decode cL_law 1777 = .ok (.iconst 0, 1) := by decide +kernel
theorem dL_law_1778 : decode cL_law 1778 = .ok (.laload, 1) := by decide +kernel
theorem dL_law_1779 : decode cL_law 1779 = .ok (.iload 6, 2) := by decide +kernel
theorem dL_law_1781 : decode cL_law 1781 = .ok (.i2l, 1) := by decide +kernel
theorem dL_law_1782 : decode cL_law 1782 = .ok (.lcmp, 1) := by decide +kernel
theorem dL_law_1783 : decode cL_law 1783 = .ok (.ifCond .eq 5, 3) := by decide +kernel
theorem dL_law_1786 : decode cL_law 1786 = .ok (.iconst 0, 1) := by decide +kernel
theorem dL_law_1787 : decode cL_law 1787 = .ok (.ireturn, 1) := by decide +kernel
theorem dL_law_1788 : decode cL_law 1788 = .ok (.goto 115, 3) := by decide +kernel
theorem dL_law_1791 : decode cL_law 1791 = .ok (.aload_n 1, 1) := by decide +kernel
theorem dL_law_1792 : decode cL_law 1792 = .ok (.aload_n 0, 1) := by decide +kernel
theorem dL_law_1793 : decode cL_law 1793 = .ok (.iload 4, 2) := by decide +kernel
theorem dL_law_1795 : decode cL_law 1795 = .ok (.iconst 1, 1) := by decide +kernel
theorem dL_law_1796 : decode cL_law 1796 = .ok (.iadd, 1) := by decide +kernel
theorem dL_law_1797 : decode cL_law 1797 = .ok (.iaload, 1) := by decide +kernel
theorem dL_law_1798 : decode cL_law 1798 = .ok (.aload_n 3, 1) := by decide +kernel
theorem dL_law_1799 : decode cL_law 1799 = .ok (.invokestatic 202, 3) := by decide +kernel
theorem dL_law_1802 : decode cL_law 1802 = .ok (.istore 5, 2) := by decide +kernel
theorem dL_law_1804 : decode cL_law 1804 = .ok (.aload_n 2, 1) := by decide +kernel
theorem dL_law_1805 : decode cL_law 1805 = .ok (.aload_n 0, 1) := by decide +kernel
theorem dL_law_1806 : decode cL_law 1806 = .ok (.iload 4, 2) := by decide +kernel
theorem dL_law_1808 : decode cL_law 1808 = .ok (.iconst 1, 1) := by decide +kernel
theorem dL_law_1809 : decode cL_law 1809 = .ok (.iadd, 1) := by decide +kernel
theorem dL_law_1810 : decode cL_law 1810 = .ok (.iaload, 1) := by decide +kernel
theorem dL_law_1811 : decode cL_law 1811 = .ok (.invokevirtual 204, 3) := by decide +kernel
theorem dL_law_1814 : decode cL_law 1814 = .ok (.istore 6, 2) := by decide +kernel
theorem dL_law_1816 : decode cL_law 1816 = .ok (.aload_n 2, 1) := by decide +kernel
theorem dL_law_1817 : decode cL_law 1817 = .ok (.invokevirtual 110, 3) := by decide +kernel
theorem dL_law_1820 : decode cL_law 1820 = .ok (.iload 5, 2) := by decide +kernel
theorem dL_law_1822 : decode cL_law 1822 = .ok (.if_icmp .eq 5, 3) := by decide +kernel
theorem dL_law_1825 : decode cL_law 1825 = .ok (.iconst 0, 1) := by decide +kernel
theorem dL_law_1826 : decode cL_law 1826 = .ok (.ireturn, 1) := by decide +kernel
theorem dL_law_1827 : decode cL_law 1827 = .ok (.iload 5, 2) := by decide +kernel
theorem dL_law_1829 : decode cL_law 1829 = .ok (.ifCond .ne 15, 3) := by decide +kernel
theorem dL_law_1832 : decode cL_law 1832 = .ok (.aload_n 3, 1) := by decide +kernel
theorem dL_law_1833 : decode cL_law 1833 = .ok (.iconst 0, 1) := by decide +kernel
theorem dL_law_1834 : decode cL_law 1834 = .ok (.laload, 1) := by decide +kernel
theorem dL_law_1835 : decode cL_law 1835 = .ok (.iload 6, 2) := by decide +kernel
theorem dL_law_1837 : decode cL_law 1837 = .ok (.i2l, 1) := by decide +kernel
theorem dL_law_1838 : decode cL_law 1838 = .ok (.lcmp, 1) := by decide +kernel
theorem dL_law_1839 : decode cL_law 1839 = .ok (.ifCond .eq 5, 3) := by decide +kernel
theorem dL_law_1842 : decode cL_law 1842 = .ok (.iconst 0, 1) := by decide +kernel
theorem dL_law_1843 : decode cL_law 1843 = .ok (.ireturn, 1) := by decide +kernel
theorem dL_law_1844 : decode cL_law 1844 = .ok (.goto 59, 3) := by decide +kernel
theorem dL_law_1847 : decode cL_law 1847 = .ok (.aload_n 1, 1) := by decide +kernel
theorem dL_law_1848 : decode cL_law 1848 = .ok (.aload_n 0, 1) := by decide +kernel
theorem dL_law_1849 : decode cL_law 1849 = .ok (.iload 4, 2) := by decide +kernel
theorem dL_law_1851 : decode cL_law 1851 = .ok (.iconst 1, 1) := by decide +kernel
theorem dL_law_1852 : decode cL_law 1852 = .ok (.iadd, 1) := by decide +kernel
theorem dL_law_1853 : decode cL_law 1853 = .ok (.iaload, 1) := by decide +kernel
theorem dL_law_1854 : decode cL_law 1854 = .ok (.aload_n 3, 1) := by decide +kernel
theorem dL_law_1855 : decode cL_law 1855 = .ok (.invokestatic 205, 3) := by decide +kernel
theorem dL_law_1858 : decode cL_law 1858 = .ok (.istore 5, 2) := by decide +kernel
theorem dL_law_1860 : decode cL_law 1860 = .ok (.aload_n 2, 1) := by decide +kernel
theorem dL_law_1861 : decode cL_law 1861 = .ok (.aload_n 0, 1) := by decide +kernel
theorem dL_law_1862 : decode cL_law 1862 = .ok (.iload 4, 2) := by decide +kernel
theorem dL_law_1864 : decode cL_law 1864 = .ok (.iconst 1, 1) := by decide +kernel
theorem dL_law_1865 : decode cL_law 1865 = .ok (.iadd, 1) := by decide +kernel
theorem dL_law_1866 : decode cL_law 1866 = .ok (.iaload, 1) := by decide +kernel
theorem dL_law_1867 : decode cL_law 1867 = .ok (.invokevirtual 207, 3) := by decide +kernel
theorem dL_law_1870 : decode cL_law 1870 = .ok (.istore 6, 2) := by decide +kernel
theorem dL_law_1872 : decode cL_law 1872 = .ok (.aload_n 2, 1) := by decide +kernel
theorem dL_law_1873 : decode cL_law 1873 = .ok (.invokevirtual 110, 3) := by decide +kernel
theorem dL_law_1876 : decode cL_law 1876 = .ok (.iload 5, 2) := by decide +kernel
theorem dL_law_1878 : decode cL_law 1878 = .ok (.if_icmp .eq 5, 3) := by decide +kernel
theorem dL_law_1881 : decode cL_law 1881 = .ok (.iconst 0, 1) := by decide +kernel
theorem dL_law_1882 : decode cL_law 1882 = .ok (.ireturn, 1) := by decide +kernel
theorem dL_law_1883 : decode cL_law 1883 = .ok (.iload 5, 2) := by decide +kernel
theorem dL_law_1885 : decode cL_law 1885 = .ok (.ifCond .ne 15, 3) := by decide +kernel
theorem dL_law_1888 : decode cL_law 1888 = .ok (.aload_n 3, 1) := by decide +kernel
theorem dL_law_1889 : decode cL_law 1889 = .ok (.iconst 0, 1) := by decide +kernel
theorem dL_law_1890 : decode cL_law 1890 = .ok (.laload, 1) := by decide +kernel
theorem dL_law_1891 : decode cL_law 1891 = .ok (.iload 6, 2) := by decide +kernel
theorem dL_law_1893 : decode cL_law 1893 = .ok (.i2l, 1) := by decide +kernel
theorem dL_law_1894 : decode cL_law 1894 = .ok (.lcmp, 1) := by decide +kernel
theorem dL_law_1895 : decode cL_law 1895 = .ok (.ifCond .eq 5, 3) := by decide +kernel
theorem dL_law_1898 : decode cL_law 1898 = .ok (.iconst 0, 1) := by decide +kernel
theorem dL_law_1899 : decode cL_law 1899 = .ok (.ireturn, 1) := by decide +kernel
theorem dL_law_1900 : decode cL_law 1900 = .ok (.goto 3, 3) := by decide +kernel
theorem dL_law_1903 : decode cL_law 1903 = .ok (.iinc 4 4, 3) := by decide +kernel
theorem dL_law_1906 : decode cL_law 1906 = .ok (.goto (-1883), 3) := by decide +kernel
theorem dL_law_1909 : decode cL_law 1909 = .ok (.iconst 1, 1) := by decide +kernel
theorem dL_law_1910 : decode cL_law 1910 = .ok (.ireturn, 1) := by decide +kernel
end
section
/-! THE WORLD: all cells of the class, the model and the law's out row at the addresses bb G + 0, bb G + 1 .. in the order in which the constructors make them; their whole numbers are one memory C r k (region, place). -/
def lw_g : List Cond := lw_tbl.filter goodWord
theorem lg {w : Cond} (i : Nat) (h : lw_tbl[i]? = some w) (g : goodWord w = true) : w ∈ lw_g := List.mem_filter.mpr ⟨List.mem_of_getElem? h, g⟩
abbrev Mem : Type := Nat → Nat → Int32
def up (f : Nat → Int32) (k : Nat) (v : Int32) : Nat → Int32 := fun j => if j = k then v else f j
def mu (C : Mem) (r k : Nat) (v : Int32) : Mem := fun a => if a = r then up (C a) k v else C a
theorem up_same (f : Nat → Int32) (k : Nat) (v : Int32) : up f k v k = v := if_pos rfl
theorem up_ne (f : Nat → Int32) {k j : Nat} (v : Int32) (h : j ≠ k) : up f k v j = f j := if_neg h
theorem mu_same (C : Mem) (r k : Nat) (v : Int32) : mu C r k v r = up (C r) k v := if_pos rfl
theorem mu_ne (C : Mem) {r a : Nat} (k : Nat) (v : Int32) (h : a ≠ r) : mu C r k v a = C a := if_neg h
abbrev GG : Type := va_G × (Nat → ClassId) × Heap × (Nat → Nat)
abbrev bb (G : GG) : Nat := G.2.2.1.size
def frA (G : GG) : Nat → Prop := fun q => bb G ≤ q
/-- where the plants lie: 0 the plant, 1 the trial, 2 to 15 the remembered ones, 16 and 17 the slots' -/
def po (q : Nat) : Nat := if q = 0 then 6 else if q = 1 then 19 else if q < 16 then 34 + 13 * (q - 2) else if q = 16 then 217 else 231
def tr (n : Nat) (f : Nat → Int32) : Nat → Int32 := fun j => if j < n then f j else 0
theorem tr_lt {n j : Nat} (f : Nat → Int32) (h : j < n) : tr n f j = f j := if_pos h
theorem tr_upd {n k : Nat} (f : Nat → Int32) (v : Int32) (h : k < n) : upd (tr n f) k v = tr n (up f k v) := by
  funext j
  unfold upd tr up
  by_cases e : j = k
  · subst e; simp [h]
  · simp [e]
theorem tr_up {n k : Nat} (f : Nat → Int32) (v : Int32) (h : n ≤ k) : tr n (up f k v) = tr n f := by
  funext j
  unfold tr up
  by_cases e : j < n
  · simp [e, show j ≠ k by omega]
  · simp [e]
theorem tr_upS {n k d : Nat} (f : Nat → Int32) (v : Int32) (h : k < d ∨ d + n ≤ k) : tr n (fun j => up f k v (d + j)) = tr n (fun j => f (d + j)) := by
  funext j
  unfold tr up
  by_cases e : j < n
  · simp [e, show d + j ≠ k by omega]
  · simp [e]
theorem tr_updS {n k d : Nat} (f : Nat → Int32) (v : Int32) (h : k < n) : upd (tr n (fun j => f (d + j))) k v = tr n (fun j => up f (d + k) v (d + j)) := by
  funext j
  unfold upd tr up
  by_cases e : j = k
  · subst e; simp [h]
  · simp [e, show ¬ d + j = d + k by omega]
def plantC (G : GG) (o : Nat) (y : Nat → Int32) : Nat → va_E
  | 0 => .inr (5, [.ref (bb G + (o + 1)), .int (y 65), .ref (bb G + (o + 2)), .ref (bb G + (o + 3)), .ref (bb G + (o + 4)), .ref (bb G + (o + 5)), .ref (bb G + (o + 7)), .int (y 6), .int (y 7)])
  | 1 => .inl (G.2.1 2, 5, .inr (.inr (.inr (.inr (fun j => some (bb G + (o + 8 + j)))))))
  | 2 => .inr (1, [.int (y 18), .int (y 20)])
  | 3 => .inr (1, [.int (y 19), .int (y 21)])
  | 4 => .inl (G.2.1 0, 6, .inl (tr 6 y))
  | 5 => .inr (7, [.ref (bb G + (o + 6)), .int (y 66), .int (y 13), .int (y 14), .int (y 15), .int (y 16), .int (y 17)])
  | 6 => .inl (G.2.1 0, 8, .inl (tr 8 (fun j => y (22 + j))))
  | 7 => .inr (3, [.int (y 8), .int (y 9), .int (y 10), .int (y 11), .int (y 12)])
  | i + 8 => .inr (0, [.int (y (30 + 7 * i)), .int (y (30 + 7 * i + 1)), .int (y (30 + 7 * i + 2)), .int (y (30 + 7 * i + 3)), .int (y (30 + 7 * i + 4)), .int (y (30 + 7 * i + 5)), .int (y (30 + 7 * i + 6))])
/-- in which of a plant's cells a place lies -/
def hm (k : Nat) : Nat := if k < 6 then 4 else if k < 8 then 0 else if k < 13 then 7 else if k < 18 then 5 else if k = 18 ∨ k = 20 then 2 else if k < 22 then 3 else if k < 30 then 6 else if k < 65 then 8 + (k - 30) / 7 else if k = 65 then 0 else 5
theorem plantC_other (G : GG) (o : Nat) (y : Nat → Int32) (k : Nat) (v : Int32) (j : Nat) (hj : j < 13) (hk : k ≤ 66) (h : j ≠ hm k) : plantC G o (up y k v) j = plantC G o y j := by
  have key : ∀ d : Nat, hm d = j → d ≤ 66 → up y k v d = y d := fun d h1 h2 => up_ne y v (fun e => h (by rw [← e]; exact h1.symm))
  match j, hj, h, key with
  | 0, _, _, key => simp only [plantC, key 65 rfl (by omega), key 6 rfl (by omega), key 7 rfl (by omega)]
  | 1, _, _, key => rfl
  | 2, _, _, key => simp only [plantC, key 18 rfl (by omega), key 20 rfl (by omega)]
  | 3, _, _, key => simp only [plantC, key 19 rfl (by omega), key 21 rfl (by omega)]
  | 4, _, h, key =>
    simp only [plantC]
    rw [tr_up y v (by
      unfold hm at h
      rcases Nat.lt_or_ge k 6 with q | q
      · simp [q] at h
      · exact q)]
  | 5, _, _, key => simp only [plantC, key 66 rfl (by omega), key 13 rfl (by omega), key 14 rfl (by omega), key 15 rfl (by omega), key 16 rfl (by omega), key 17 rfl (by omega)]
  | 6, _, h, key =>
    simp only [plantC]
    rw [tr_upS y v (by
      unfold hm at h
      rcases Nat.lt_or_ge k 22 with q | q
      · exact Or.inl q
      · rcases Nat.lt_or_ge k 30 with q2 | q2
        · exfalso; apply h; simp [show ¬ k < 6 by omega, show ¬ k < 8 by omega, show ¬ k < 13 by omega, show ¬ k < 18 by omega, show ¬ (k = 18 ∨ k = 20) by omega, show ¬ k < 22 by omega, q2]
        · exact Or.inr (by omega))]
  | 7, _, _, key => simp only [plantC, key 8 rfl (by omega), key 9 rfl (by omega), key 10 rfl (by omega), key 11 rfl (by omega), key 12 rfl (by omega)]
  | i + 8, hi, h, _ =>
    have key2 : ∀ f : Nat, f < 7 → up y k v (30 + 7 * i + f) = y (30 + 7 * i + f) := fun f hf => up_ne y v (fun e => h (by
      subst e
      unfold hm
      simp [show ¬ 30 + 7 * i + f < 6 by omega, show ¬ 30 + 7 * i + f < 8 by omega, show ¬ 30 + 7 * i + f < 13 by omega, show ¬ 30 + 7 * i + f < 18 by omega, show ¬ (30 + 7 * i + f = 18 ∨ 30 + 7 * i + f = 20) by omega, show ¬ 30 + 7 * i + f < 22 by omega, show ¬ 30 + 7 * i + f < 30 by omega]
      simp [show 30 + 7 * i + f < 65 by omega]
      omega))
    simp only [plantC, key2 1 (by omega), key2 2 (by omega), key2 3 (by omega), key2 4 (by omega), key2 5 (by omega), key2 6 (by omega)]
    rw [show up y k v (30 + 7 * i) = y (30 + 7 * i) from key2 0 (by omega)]
/-- lengths of the model's rows -/
def alen (r : Nat) : Nat := if r = 31 then 60 else if r = 35 then 910 else if r = 36 then 130 else if r = 37 then 2 else 65
/-- the cells ahead of the first plant -/
def fixA (G : GG) (C : Mem) : Nat → va_E
  | 0 => .inr (8, [.ref (bb G + 1), .ref (bb G + 6), .ref (bb G + 19), .ref (bb G + 32), .ref (bb G + 216), .ref (bb G + 230)])
  | 1 => .inr (4, [.ref (bb G + 2), .int (C 18 1), .int (C 18 2), .int (C 18 3), .int (C 18 4), .int (C 18 5), .ref (bb G + 3), .ref (bb G + 4), .ref (bb G + 5), .int (C 18 9), .int (C 18 10)])
  | 2 => .inl (G.2.1 0, 60, .inl (tr 60 (C 19)))
  | 3 => .inl (G.2.1 0, 5, .inl (tr 5 (C 20)))
  | 4 => .inl (G.2.1 0, 5, .inl (tr 5 (C 21)))
  | _ => .inl (G.2.1 0, 8, .inl (tr 8 (C 22)))
def fixB (G : GG) (C : Mem) (a : Nat) : va_E :=
  if a = 32 then .inr (2, [.ref (bb G + 33), .int (C 23 1), .int (C 23 2)])
  else .inl (G.2.1 3, 14, .inr (.inr (.inr (.inr (fun j => some (bb G + (34 + 13 * j)))))))
def fixM (G : GG) (C : Mem) (a : Nat) : va_E :=
  if a = 244 then .inr (9, [.int (C 30 0), .ref (bb G + 245), .int (C 30 2), .int (C 30 3), .int (C 30 4), .int (C 30 5), .int (C 30 6), .int (C 30 7), .ref (bb G + 246), .ref (bb G + 247), .ref (bb G + 248), .ref (bb G + 249), .int (C 30 12), .ref (bb G + 250), .ref (bb G + 251)])
  else if a < 251 then .inl (G.2.1 0, alen (a - 214), .inl (tr (alen (a - 214)) (C (a - 214))))
  else if a = 251 then .inl (G.2.1 1, 2, .inl (tr 2 (C 37)))
  else .inl (G.2.1 4, 1, .inr (.inl (fun j => (tr 1 (C 40) j).toInt64)))
def cellAt (G : GG) (C : Mem) (a : Nat) : va_E :=
  if a < 6 then fixA G C a
  else if a < 19 then plantC G 6 (C 0) (a - 6)
  else if a < 32 then plantC G 19 (C 1) (a - 19)
  else if a < 34 then fixB G C a
  else if a < 216 then plantC G (34 + 13 * ((a - 34) / 13)) (C (2 + (a - 34) / 13)) ((a - 34) % 13)
  else if a = 216 then .inr (6, [.ref (bb G + 217), .int (C 24 0)])
  else if a < 230 then plantC G 217 (C 16) (a - 217)
  else if a = 230 then .inr (6, [.ref (bb G + 231), .int (C 24 1)])
  else if a < 244 then plantC G 231 (C 17) (a - 231)
  else fixM G C a
theorem po_lt {q : Nat} (h : q < 18) : po q + 13 ≤ 244 ∧ 6 ≤ po q := by
  unfold po
  split
  · omega
  · split
    · omega
    · split
      · omega
      · split <;> omega
theorem cell_plant (G : GG) (C : Mem) {q j : Nat} (h : q < 18) (hj : j < 13) : cellAt G C (po q + j) = plantC G (po q) (C q) j := by
  by_cases h0 : q = 0
  · subst h0
    show cellAt G C (6 + j) = plantC G 6 (C 0) j
    unfold cellAt
    rw [if_neg (by omega), if_pos (by omega), show 6 + j - 6 = j by omega]
  by_cases h1 : q = 1
  · subst h1
    show cellAt G C (19 + j) = plantC G 19 (C 1) j
    unfold cellAt
    rw [if_neg (by omega), if_neg (by omega), if_pos (by omega), show 19 + j - 19 = j by omega]
  by_cases h2 : q < 16
  · have e : po q = 34 + 13 * (q - 2) := by unfold po; rw [if_neg h0, if_neg h1, if_pos h2]
    rw [e]
    unfold cellAt
    rw [if_neg (by omega), if_neg (by omega), if_neg (by omega), if_neg (by omega), if_pos (by omega)]
    rw [show (34 + 13 * (q - 2) + j - 34) / 13 = q - 2 by omega, show (34 + 13 * (q - 2) + j - 34) % 13 = j by omega, show 2 + (q - 2) = q by omega]
  by_cases h3 : q = 16
  · subst h3
    show cellAt G C (217 + j) = plantC G 217 (C 16) j
    unfold cellAt
    rw [if_neg (by omega), if_neg (by omega), if_neg (by omega), if_neg (by omega), if_neg (by omega), if_neg (by omega), if_pos (by omega), show 217 + j - 217 = j by omega]
  · have e : q = 17 := by omega
    subst e
    show cellAt G C (231 + j) = plantC G 231 (C 17) j
    unfold cellAt
    rw [if_neg (by omega), if_neg (by omega), if_neg (by omega), if_neg (by omega), if_neg (by omega), if_neg (by omega), if_neg (by omega), if_neg (by omega), if_pos (by omega), show 231 + j - 231 = j by omega]
/-- a write at a place of a plant changes one cell -/
theorem cell_muP (G : GG) (C : Mem) {q k : Nat} (v : Int32) (h : q < 18) (hk : k ≤ 66) (a : Nat) (ha : a ≠ po q + hm k) : cellAt G (mu C q k v) a = cellAt G C a := by
  have far : ∀ r : Nat, 18 ≤ r → mu C q k v r = C r := fun r hr => mu_ne C k v (by omega)
  have pl : ∀ (r o j : Nat), j < 13 → (r = q → j ≠ hm k) → plantC G o (mu C q k v r) j = plantC G o (C r) j := by
    intro r o j hj hne
    by_cases e : r = q
    · subst e
      rw [mu_same]
      exact plantC_other G o (C r) k v j hj hk (hne rfl)
    · rw [mu_ne C k v e]
  unfold cellAt
  by_cases c1 : a < 6
  · rw [if_pos c1, if_pos c1]
    match a, c1 with
    | 0, _ => rfl
    | 1, _ => simp only [fixA, far 18 (by omega)]
    | 2, _ => simp only [fixA, far 19 (by omega)]
    | 3, _ => simp only [fixA, far 20 (by omega)]
    | 4, _ => simp only [fixA, far 21 (by omega)]
    | 5, _ => simp only [fixA, far 22 (by omega)]
  rw [if_neg c1, if_neg c1]
  by_cases c2 : a < 19
  · rw [if_pos c2, if_pos c2]
    exact pl 0 _ _ (by omega) (fun e z => ha (by rw [← e]; show a = 6 + _; omega))
  rw [if_neg c2, if_neg c2]
  by_cases c3 : a < 32
  · rw [if_pos c3, if_pos c3]
    exact pl 1 _ _ (by omega) (fun e z => ha (by rw [← e]; show a = 19 + _; omega))
  rw [if_neg c3, if_neg c3]
  by_cases c4 : a < 34
  · rw [if_pos c4, if_pos c4]
    unfold fixB
    rw [far 23 (by omega)]
  rw [if_neg c4, if_neg c4]
  by_cases c5 : a < 216
  · rw [if_pos c5, if_pos c5]
    refine pl _ _ _ (by omega) (fun e z => ha ?_)
    have e2 : po q = 34 + 13 * (q - 2) := by unfold po; rw [if_neg (by omega), if_neg (by omega), if_pos (by omega)]
    rw [e2]; omega
  rw [if_neg c5, if_neg c5]
  by_cases c6 : a = 216
  · rw [if_pos c6, if_pos c6, far 24 (by omega)]
  rw [if_neg c6, if_neg c6]
  by_cases c7 : a < 230
  · rw [if_pos c7, if_pos c7]
    exact pl 16 _ _ (by omega) (fun e z => ha (by rw [← e]; show a = 217 + _; omega))
  rw [if_neg c7, if_neg c7]
  by_cases c8 : a = 230
  · rw [if_pos c8, if_pos c8, far 24 (by omega)]
  rw [if_neg c8, if_neg c8]
  by_cases c9 : a < 244
  · rw [if_pos c9, if_pos c9]
    exact pl 17 _ _ (by omega) (fun e z => ha (by rw [← e]; show a = 231 + _; omega))
  rw [if_neg c9, if_neg c9]
  unfold fixM
  rw [far 30 (by omega), far 37 (by omega), far 40 (by omega)]
  by_cases d1 : a = 244
  · rw [if_pos d1, if_pos d1]
  rw [if_neg d1, if_neg d1]
  by_cases d2 : a < 251
  · rw [if_pos d2, if_pos d2, far (a - 214) (by omega)]
  · rw [if_neg d2, if_neg d2]
/-- where a place of the other regions lies -/
def hmF (r k : Nat) : Nat := if r = 18 then 1 else if r = 19 then 2 else if r = 20 then 3 else if r = 21 then 4 else if r = 22 then 5 else if r = 23 then 32 else if r = 24 then (if k = 0 then 216 else 230) else if r = 30 then 244 else if r = 40 then 252 else r + 214
theorem cell_muF (G : GG) (C : Mem) {r k : Nat} (v : Int32) (h : 18 ≤ r) (hk : r = 24 → k ≤ 1) (a : Nat) (ha2 : a < 253) (ha : a ≠ hmF r k) : cellAt G (mu C r k v) a = cellAt G C a := by
  have near : ∀ q : Nat, q < 18 → mu C r k v q = C q := fun q hq => mu_ne C k v (by omega)
  have oth : ∀ q : Nat, q ≠ r → mu C r k v q = C q := fun q hq => mu_ne C k v hq
  unfold cellAt
  by_cases c1 : a < 6
  · rw [if_pos c1, if_pos c1]
    match a, c1, ha with
    | 0, _, _ => rfl
    | 1, _, ha => simp only [fixA, oth 18 (fun e => ha (by rw [← e]; rfl))]
    | 2, _, ha => simp only [fixA, oth 19 (fun e => ha (by rw [← e]; rfl))]
    | 3, _, ha => simp only [fixA, oth 20 (fun e => ha (by rw [← e]; rfl))]
    | 4, _, ha => simp only [fixA, oth 21 (fun e => ha (by rw [← e]; rfl))]
    | 5, _, ha => simp only [fixA, oth 22 (fun e => ha (by rw [← e]; rfl))]
  rw [if_neg c1, if_neg c1, near 0 (by omega), near 1 (by omega), near 16 (by omega), near 17 (by omega)]
  by_cases c2 : a < 19
  · rw [if_pos c2, if_pos c2]
  rw [if_neg c2, if_neg c2]
  by_cases c3 : a < 32
  · rw [if_pos c3, if_pos c3]
  rw [if_neg c3, if_neg c3]
  by_cases c4 : a < 34
  · rw [if_pos c4, if_pos c4]
    unfold fixB
    by_cases d : a = 32
    · rw [if_pos d, if_pos d, oth 23 (fun e => ha (by rw [← e, d]; rfl))]
    · rw [if_neg d, if_neg d]
  rw [if_neg c4, if_neg c4]
  by_cases c5 : a < 216
  · rw [if_pos c5, if_pos c5, near _ (by omega)]
  rw [if_neg c5, if_neg c5]
  have s24 : ∀ i : Nat, i ≤ 1 → a = (if i = 0 then 216 else 230) → mu C r k v 24 i = C 24 i := by
    intro i hi hai
    by_cases e : (24 : Nat) = r
    · subst e
      rw [mu_same]
      refine up_ne _ _ (fun z => ha ?_)
      rw [← z, hai]; rfl
    · rw [oth 24 e]
  by_cases c6 : a = 216
  · rw [if_pos c6, if_pos c6, s24 0 (by omega) c6]
  rw [if_neg c6, if_neg c6]
  by_cases c7 : a < 230
  · rw [if_pos c7, if_pos c7]
  rw [if_neg c7, if_neg c7]
  by_cases c8 : a = 230
  · rw [if_pos c8, if_pos c8, s24 1 (by omega) c8]
  rw [if_neg c8, if_neg c8]
  by_cases c9 : a < 244
  · rw [if_pos c9, if_pos c9]
  rw [if_neg c9, if_neg c9]
  unfold fixM
  by_cases d1 : a = 244
  · rw [if_pos d1, if_pos d1, oth 30 (fun e => ha (by rw [← e, d1]; rfl))]
  rw [if_neg d1, if_neg d1]
  by_cases d2 : a < 251
  · rw [if_pos d2, if_pos d2]
    have e9 : a - 214 ≠ r := by
      intro e
      apply ha
      rw [← e]
      unfold hmF
      simp [show ¬ a - 214 = 18 by omega, show ¬ a - 214 = 19 by omega, show ¬ a - 214 = 20 by omega, show ¬ a - 214 = 21 by omega, show ¬ a - 214 = 22 by omega, show ¬ a - 214 = 23 by omega, show ¬ a - 214 = 24 by omega, show ¬ a - 214 = 30 by omega, show ¬ a - 214 = 40 by omega]
      omega
    rw [oth _ e9]
  rw [if_neg d2, if_neg d2]
  by_cases d3 : a = 251
  · rw [if_pos d3, if_pos d3, oth 37 (fun e => ha (by rw [← e, d3]; rfl))]
  rw [if_neg d3, if_neg d3, oth 40 (fun e => ha (by rw [← e]; show a = 252; omega))]
end
section
/-! what the tables and the cells ahead of the world give, at any state of the run; the rows of the machine over the world -/
theorem inX0g : ∀ w ∈ u_ws RX0 TX0 7, w ∈ lw_g := by decide +kernel
theorem inX1g : ∀ w ∈ u_ws RX1 TX1 2, w ∈ lw_g := by decide +kernel
theorem inX2g : ∀ w ∈ u_ws RX2 TX2 3, w ∈ lw_g := by decide +kernel
theorem inX3g : ∀ w ∈ u_ws RX3 TX3 5, w ∈ lw_g := by decide +kernel
theorem inX4g : ∀ w ∈ u_ws RX4 TX4 11, w ∈ lw_g := by decide +kernel
theorem inX5g : ∀ w ∈ u_ws RX5 TX5 9, w ∈ lw_g := by decide +kernel
theorem inX6g : ∀ w ∈ u_ws RX6 TX6 2, w ∈ lw_g := by decide +kernel
theorem inX7g : ∀ w ∈ u_ws RX7 TX7 7, w ∈ lw_g := by decide +kernel
theorem inX8g : ∀ w ∈ u_ws RX8 TX8 6, w ∈ lw_g := by decide +kernel
theorem inX9g : ∀ w ∈ u_ws RX9 TX9 15, w ∈ lw_g := by decide +kernel
abbrev tysG (G : GG) : List (ClassId × FieldType) := [(G.2.1 0, .int), (G.2.1 1, .boolean), (G.2.1 2, .object RX0), (G.2.1 3, .object RX5), (G.2.1 4, .long)]
def kLeast : Nat → Int32
  | 0 => 40
  | 1 => 1
  | 2 => 1
  | 3 => 60
  | 4 => 1
  | _ => 0
def kMost : Nat → Int32
  | 0 => 80
  | 1 => 9
  | 2 => 5
  | 3 => 90
  | 4 => 9
  | _ => 23
def kFirst : Nat → Int32
  | 0 => 60
  | 1 => 3
  | 2 => 2
  | 3 => 70
  | 4 => 2
  | _ => 2
def xN (e : Nat) : String := if e = 1 then "java/lang/IllegalArgumentException" else if e = 2 then "java/lang/IllegalStateException" else "java/lang/IndexOutOfBoundsException"
def xS (X : String) : MethodName := ⟨X, "<init>", "(Ljava/lang/String;)V"⟩
def strs : List (Nat × String) := [(318, "an argument is out of its range"), (57, "the text is full"), (70, "the text tells no cascade"), (327, "there is no such boiler"), (320, "there is no such flue"), (187, "there is no such layer"), (230, "no such setting, or not in its range"), (237, "the boiler is locked already"), (242, "the boiler is not locked"), (244, "the boiler is not on standby"), (250, "no state is remembered"), (298, "the script is negative or too long"), (322, "there is no such save slot"), (316, "nothing is saved in this slot")]
def stZ (G : GG) (U : State) (n : String) (i : Nat) (k : Nat → Int32) : Prop := va_Z RX8 n "[I" (.ref (G.2.2.2 i)) (frA G) U G.2.2.1 ∧ va_T .int (G.2.2.2 i) 6 (fun j => .int (k j)) (frA G) U G.2.2.1
def TT (G : GG) (U : State) : Prop :=
  va_K G.1 vwCl (tysG G) U ∧ stZ G U "LEAST_SETTING" 0 kLeast ∧ stZ G U "MOST_SETTING" 1 kMost ∧ stZ G U "FIRST_SETTING" 2 kFirst ∧
  vx_Zq Bundle.tN "UNASSIGNED_STACK" Bundle.steD (frA G) U G.2.2.1 ∧ vx_Zq Bundle.tN "SUPPRESSED_SENTINEL" Bundle.listD (frA G) U G.2.2.1 ∧
  (∀ q ∈ strs, ∃ a, vk_R RX8 q.1 q.2 a U) ∧ (∀ e : Nat, va_Nw (.castable (xN e) (xN e)) U) ∧ (∀ e f : Nat, 1 ≤ e → e ≤ 3 → 1 ≤ f → f ≤ 3 → e ≠ f → va_Nc (xN e) (xN f) U) ∧
  va_Nw (.fieldLinkNest RX5 79 RX8 "FIRST_SETTING" "[I" RX8) U ∧ (va_Nw (.declares (xS "java/lang/RuntimeException")) U ∧ va_Nw (.declares (xS "java/lang/Exception")) U ∧ va_Nw (.declares (xS "java/lang/Throwable")) U)
theorem stZ.moved {G : GG} {n : String} {i : Nat} {k : Nat → Int32} {u U : State} (h : u.vm.Alike U.vm) (z : stZ G u n i k) : stZ G U n i k := ⟨va_Z.moved h z.1, va_T.moved h z.2⟩
theorem TT.warm {G : GG} {s U : State} (hW : s.WarmedH U.vm) (h : TT G s) : TT G U := by
  obtain ⟨h1, h2, h3, h4, h5, h6, h7, h8, h9, h10, h11, h12, h13⟩ := h
  refine ⟨va_K.moved hW.alike h1, h2.moved hW.alike, h3.moved hW.alike, h4.moved hW.alike, vx_Zq.moved hW.alike h5, vx_Zq.moved hW.alike h6, fun q hq => ?_, fun e => va_Nw.warmC hW (h8 e), fun e f a1 a2 a3 a4 a5 => va_Nc.moved hW.alike (h9 e f a1 a2 a3 a4 a5), va_Nw.warmF hW h10, va_Nw.warmD hW h11, va_Nw.warmD hW h12, va_Nw.warmD hW h13⟩
  obtain ⟨a, ha⟩ := h7 q hq
  exact ⟨a, vk_R.warm hW ha⟩
/-- n cells of the world stand -/
def Wd (G : GG) (n : Nat) (C : Mem) (H : Heap) : Prop := bb G + n ≤ H.size ∧ (∀ a, a < bb G → H[a]? = G.2.2.1[a]?) ∧ ∀ a, a < n → va_at G.1 vwCl (bb G + a, cellAt G C a) H
theorem Wd.one {G : GG} {n : Nat} {C : Mem} {H : Heap} (hw : Wd G n C H) {a : Nat} {e : va_E} (ha : a < n) (he : cellAt G C a = e) : va_P G.1 vwCl [(bb G + a, e)] H := by
  intro k q hk
  match k, hk with
  | 0, hk =>
    cases hk
    rw [← he]
    exact hw.2.2 a ha
theorem Wd.put {G : GG} {n : Nat} {C C1 : Mem} {H H1 : Heap} (hw : Wd G n C H) {a : Nat} (hz : H1.size = H.size) (oq : ∀ q, q ≠ bb G + a → H1[q]? = H[q]?) (hs : va_at G.1 vwCl (bb G + a, cellAt G C1 a) H1) (ho : ∀ q, q < n → q ≠ a → cellAt G C1 q = cellAt G C q) : Wd G n C1 H1 := by
  refine ⟨by rw [hz]; exact hw.1, fun q hq => ?_, fun q hq => ?_⟩
  · rw [oq q (by omega)]
    exact hw.2.1 q hq
  · by_cases e : q = a
    · rw [e]; exact hs
    · rw [ho q hq e]
      exact (hw.2.2 q hq).kept (oq _ (by simp only; omega))
/-- nothing ahead of the world was written; what the frame says of it -/
abbrev LW (G : GG) (s : State) (H : Heap) (locs : List Loc) : Prop := va_S (frA G) s.heap H locs
/-- the context of a walk -/
def Cx (p : Program) (s : State) (m : MethodId) (args : Array Value) (c : Code) (cc : ByteArray) (own : String) (nL : Nat) (G : GG) : Prop :=
  p.tables.exec = Jvm.exec ∧ c.code = cc ∧ c.maxLocals = nL ∧ s.vm.findClass own = some m.cls ∧ (∀ w ∈ lw_g, w.before args s = true) ∧ TT G s ∧ bb G ≤ s.heap.size ∧ ∀ a, a < bb G → s.heap[a]? = G.2.2.1[a]?
section ROWS
variable {p : Program} {l : Launch} {e : Env} {R : Room} {s : State} {m : MethodId} {args : Array Value} {below : List Frame} {meth : Method} {c : Code} {H : Heap} {locs : List Loc} {cells slots : Nat} {Q : State → Prop}
variable {cc : ByteArray} {pc : Nat} {ls : Array Slot} {rest : List Value} {own : String} {nL : Nat} {G : GG} {n : Nat} {C : Mem}
theorem m_get (hC : Cx p s m args c cc own nL G) (hw : Wd G n C H) {Cn : String} {T : u_T} {N ci index a : Nat} {fs : List Value} (hin : ∀ w ∈ u_ws Cn T N, w ∈ lw_g) (hc : vwCl[ci]? = some (Cn, T, N)) (ha : a < n) (he : cellAt G C a = .inr (ci, fs)) (k : Nat) (hk : k < N) (hlink : Cond.fieldLink own index (T k).1 (T k).2.1 (T k).2.2.1 ∈ lw_g) {v : Value} (hv : fs[k]? = some v) (hdg : decode cc pc = .ok (.getfield index, 3))
    (kk : W p l e R s m args below meth c H locs cells slots Q (F0 m (pc + 3) ls (v :: rest))) : W p l e R s m args below meth c H locs cells slots Q (F0 m pc ls (.ref (bb G + a) :: rest)) :=
  va_get hC.1 hC.2.1 hC.2.2.2.2.1 hin hC.2.2.2.1 hC.2.2.2.2.2.1.1 (hw.one ha he) 0 rfl hc k hk (hC.2.2.2.2.1 _ hlink) (fun _ h => h) hv hdg kk
theorem m_put (hC : Cx p s m args c cc own nL G) (hw : Wd G n C H) (hS : LW G s H locs) {Cn : String} {T : u_T} {N ci index a : Nat} {fs : List Value} (hin : ∀ w ∈ u_ws Cn T N, w ∈ lw_g) {ty0 : Nat → FieldType} (hty : ∀ k, k < N → parseFieldDescriptor (T k).2.2.1 = some (ty0 k)) (hnm : ∀ a, a < N → ∀ b, b < N → a ≠ b → (T a).2.1 ≠ (T b).2.1) (hc : vwCl[ci]? = some (Cn, T, N)) (ha : a < n) (he : cellAt G C a = .inr (ci, fs)) (k : Nat) (hk : k < N) (hlink : Cond.fieldLink own index (T k).1 (T k).2.1 (T k).2.2.1 ∈ lw_g) (hfin : (T k).2.2.2 = false) {v : Value} (hn : narrow (ty0 k) v = v) (hfit : fits (ty0 k) v = true) (hl : k < fs.length)
    {C1 : Mem} (hs : cellAt G C1 a = .inr (ci, fs.set k v)) (ho : ∀ q, q < n → q ≠ a → cellAt G C1 q = cellAt G C q) (hdg : decode cc pc = .ok (.putfield index, 3))
    (kk : ∀ (H1 : Heap) (locs1 : List Loc), Wd G n C1 H1 → LW G s H1 locs1 → H1.size = H.size → W p l e R s m args below meth c H1 locs1 cells slots Q (F0 m (pc + 3) ls rest)) : W p l e R s m args below meth c H locs cells slots Q (F0 m pc ls (v :: .ref (bb G + a) :: rest)) := by
  obtain ⟨hx, hb, -, hown, hts, hT, -⟩ := hC
  have hK := hT.1
  have hap := va_apart (own := own) hts hin ty0 hty hnm hK hc
  obtain ⟨r, h1, cell, q1, q2, q3, q4⟩ := hw.one ha he 0 _ rfl
  have hr : r = (Cn, T, N) := Option.some.inj (h1.symm.trans hc)
  subst hr
  obtain ⟨hSl, hfc, kC, hkC, hkind⟩ := hK.1 ci _ hc
  obtain ⟨cf, kf, fi, f, hi, hsl⟩ := hSl k hk
  have hlay := hts _ (hin _ (u_in_lay hk))
  unfold u_lay at hlay
  rw [if_neg (by rw [hfin]; decide)] at hlay
  have hst := (u_facts hfc hkC (u_lays hts hin hk) hi).1
  have h6 := u_store hfc hkC hkind hlay hi (hty k hk) hn hfit
  refine W.putK hx hb (f := f) ⟨hown, hts _ hlink, ⟨_, _, _, hi⟩, hst⟩ (by rw [q2]; exact h6) q1 q3 (by rw [hsl]; exact k2_hasslot (q4 k hk)) rfl rfl hdg fun H' e1 e2 e3 => ?_
  rw [hsl] at e1 ⊢
  refine kk H' _ (hw.put e2 e3 ?_ ho) (hS.put e2 e3 (Nat.le_add_right _ _)) e2
  rw [hs]
  exact ⟨_, hc, t_OB.to (V := updV (vp_V fs) k v) ⟨_, e1, q2, q3, t_set q4 hap hk v⟩ (fun j _ => vp_updV_set hl v j)⟩
theorem m_iald (hC : Cx p s m args c cc own nL G) (hw : Wd G n C H) {a N : Nat} {f : Nat → Int32} (ha : a < n) (he : cellAt G C a = .inl (G.2.1 0, N, .inl f)) {i : Int32} (hin : vp_in i N) (hdg : decode cc pc = .ok (.iaload, 1))
    (kk : W p l e R s m args below meth c H locs cells slots Q (F0 m (pc + 1) ls (.int (f i.toNatClampNeg) :: rest))) : W p l e R s m args below meth c H locs cells slots Q (F0 m pc ls (.int i :: .ref (bb G + a) :: rest)) :=
  va_iald hC.1 hC.2.1 hC.2.2.2.2.2.1.1 (hw.one ha he) 0 0 rfl rfl hin hdg kk
theorem m_zald (hC : Cx p s m args c cc own nL G) (hw : Wd G n C H) {a N : Nat} {f : Nat → Int32} (ha : a < n) (he : cellAt G C a = .inl (G.2.1 1, N, .inl f)) {i : Int32} (hin : vp_in i N) (hdg : decode cc pc = .ok (.baload, 1))
    (kk : W p l e R s m args below meth c H locs cells slots Q (F0 m (pc + 1) ls (.int (f i.toNatClampNeg) :: rest))) : W p l e R s m args below meth c H locs cells slots Q (F0 m pc ls (.int i :: .ref (bb G + a) :: rest)) :=
  va_zald hC.1 hC.2.1 hC.2.2.2.2.2.1.1 (hw.one ha he) 0 1 rfl rfl hin hdg kk
theorem m_lald (hC : Cx p s m args c cc own nL G) (hw : Wd G n C H) {a N : Nat} {f : Nat → Int64} (ha : a < n) (he : cellAt G C a = .inl (G.2.1 4, N, .inr (.inl f))) {i : Int32} (hin : vp_in i N) (hdg : decode cc pc = .ok (.laload, 1))
    (kk : W p l e R s m args below meth c H locs cells slots Q (F0 m (pc + 1) ls (.long (f i.toNatClampNeg) :: rest))) : W p l e R s m args below meth c H locs cells slots Q (F0 m pc ls (.int i :: .ref (bb G + a) :: rest)) :=
  va_lald hC.1 hC.2.1 hC.2.2.2.2.2.1.1 (hw.one ha he) 0 4 rfl rfl hin hdg kk
theorem m_alen (hC : Cx p s m args c cc own nL G) (hw : Wd G n C H) {a t0 : Nat} {cA : ClassId} {ty : FieldType} {x : vp_A} (ha : a < n) (he : cellAt G C a = .inl (cA, x)) (ht : (tysG G)[t0]? = some (cA, ty)) {v : Int32} (hv : Int32.ofNat x.1 = v) (hdg : decode cc pc = .ok (.arraylength, 1))
    (kk : W p l e R s m args below meth c H locs cells slots Q (F0 m (pc + 1) ls (.int v :: rest))) : W p l e R s m args below meth c H locs cells slots Q (F0 m pc ls (.ref (bb G + a) :: rest)) :=
  va_alen hC.1 hC.2.1 hC.2.2.2.2.2.1.1 (hw.one ha he) 0 t0 rfl ht hv hdg kk
theorem m_aald (hC : Cx p s m args c cc own nL G) (hw : Wd G n C H) {a N t0 : Nat} {cA : ClassId} {Cn : String} {f : Nat → Nat} (ha : a < n) (he : cellAt G C a = .inl (cA, N, .inr (.inr (.inr (.inr (fun j => some (f j))))))) (ht : (tysG G)[t0]? = some (cA, .object Cn)) {i : Int32} (hin : vp_in i N) (hdg : decode cc pc = .ok (.aaload, 1))
    (kk : W p l e R s m args below meth c H locs cells slots Q (F0 m (pc + 1) ls (.ref (f i.toNatClampNeg) :: rest))) : W p l e R s m args below meth c H locs cells slots Q (F0 m pc ls (.int i :: .ref (bb G + a) :: rest)) :=
  va_aldq hC.1 hC.2.1 hC.2.2.2.2.2.1.1 (hw.one ha he) 0 t0 rfl ht hin hdg kk
theorem vp_lt {i : Int32} {N : Nat} (h : vp_in i N) : i.toNatClampNeg < N := Nat.not_le.mp fun q => h (Or.inr q)
theorem m_iast (hC : Cx p s m args c cc own nL G) (hw : Wd G n C H) (hS : LW G s H locs) {a N : Nat} {f : Nat → Int32} (ha : a < n) (he : cellAt G C a = .inl (G.2.1 0, N, .inl f)) {i x : Int32} (hin : vp_in i N) {C1 : Mem} (hs : cellAt G C1 a = .inl (G.2.1 0, N, .inl (upd f i.toNatClampNeg x))) (ho : ∀ q, q < n → q ≠ a → cellAt G C1 q = cellAt G C q) (hdg : decode cc pc = .ok (.iastore, 1))
    (kk : ∀ (H1 : Heap) (locs1 : List Loc), Wd G n C1 H1 → LW G s H1 locs1 → H1.size = H.size → W p l e R s m args below meth c H1 locs1 cells slots Q (F0 m (pc + 1) ls rest)) : W p l e R s m args below meth c H locs cells slots Q (F0 m pc ls (.int x :: .int i :: .ref (bb G + a) :: rest)) := by
  obtain ⟨hx, hb, -, hown, hts, hT, -⟩ := hC
  refine W.iast hx hb (hw.one ha he 0 _ rfl) ((hT.1.2 0 _ rfl).1 N (fun j => .int (f j))) (fun q => by cases q) (by show ¬ (i < 0 ∨ (arrV _ _ _).slots.size ≤ _); rw [arrV_size]; exact hin) rfl rfl hdg fun H1 e1 z oq => ?_
  refine kk H1 _ (hw.put z oq ?_ ho) (hS.put z oq (Nat.le_add_right _ _)) z
  rw [hs]
  show H1[_]? = some (vp_cell _ _)
  rw [e1, vp_cell_i, vp_cell_i, arrV_store]
  congr 2
  funext q
  by_cases hq : q = i.toNatClampNeg
  · subst hq
    simp [updV, upd]
  · simp [updV, upd, hq]
/-- a static row of settings, read -/
theorem m_sald (hC : Cx p s m args c cc own nL G) (hS : LW G s H locs) {t N : Nat} {f : Nat → Int32} (hT : va_T .int t N (fun j => .int (f j)) (frA G) s G.2.2.1) {i : Int32} (hin : vp_in i N) (hdg : decode cc pc = .ok (.iaload, 1))
    (kk : W p l e R s m args below meth c H locs cells slots Q (F0 m (pc + 1) ls (.int (f i.toNatClampNeg) :: rest))) : W p l e R s m args below meth c H locs cells slots Q (F0 m pc ls (.int i :: .ref t :: rest)) :=
  va_ti hC.1 hC.2.1 (va_T.kept hT (fun a h _ => hC.2.2.2.2.2.2.2 a h)) hS hin rfl hdg kk
theorem m_gets (hC : Cx p s m args c cc own nL G) (hS : LW G s H locs) {nm : String} {t index : Nat} (hZ : va_Z RX8 nm "[I" (.ref t) (frA G) s G.2.2.1) (hlink : Cond.fieldLink own index RX8 nm "[I" ∈ lw_g) (hdg : decode cc pc = .ok (.getstatic index, 3))
    (kk : W p l e R s m args below meth c H locs cells slots Q (F0 m (pc + 3) ls (.ref t :: rest))) : W p l e R s m args below meth c H locs cells slots Q (F0 m pc ls rest) :=
  va_gets hC.1 hC.2.1 (va_Z.kept hZ (fun a h _ => hC.2.2.2.2.2.2.2 a h)) hS hC.2.2.2.1 (hC.2.2.2.2.1 _ hlink) (fun _ h => h) hdg kk
theorem m_getsN (hC : Cx p s m args c cc RX5 nL G) (hS : LW G s H locs) (hdg : decode cc pc = .ok (.getstatic 79, 3))
    (kk : W p l e R s m args below meth c H locs cells slots Q (F0 m (pc + 3) ls (.ref (G.2.2.2 2) :: rest))) : W p l e R s m args below meth c H locs cells slots Q (F0 m pc ls rest) :=
  va_getsN hC.1 hC.2.1 (va_Z.kept hC.2.2.2.2.2.1.2.2.2.1.1 (fun a h _ => hC.2.2.2.2.2.2.2 a h)) hS hC.2.2.2.1 (va_Nw.use rfl hC.2.2.2.2.2.1.2.2.2.2.2.2.2.2.2.1) (fun _ h => h) hdg kk
end ROWS
end
section
/-! contracts over the world, calls by them, ends -/
theorem lg_hot {w : Cond} (h : w ∈ lw_g) : goodWord w = true := (List.mem_filter.mp h).2
abbrev wsG (y : MethodName) (bytes : ByteArray) (maxL : Nat) (ret : Option FieldType) : List Cond := Cond.code y bytes maxL ret :: lw_g
abbrev rmN (f n : Nat) : Room := { frames := f, cells := 0, slots := 0, locals := n }
abbrev rmX (f n mc ms : Nat) : Room := { frames := f, cells := mc, slots := ms, locals := n }
def PC (G : GG) (n : Nat) (C : Mem) (av : List Value) : Array Value → State → Prop := fun v U => v = av.toArray ∧ Wd G n C U.heap ∧ TT G U
theorem PC.blind {G : GG} {n : Nat} {C : Mem} {av : List Value} : FrameBlind (PC G n C av) := fun _ U g mk h => ⟨h.1, h.2.1, TT.warm (s := U) (U := U.calling g mk _) (State.WarmedH.refl U) h.2.2⟩
/-- it returns r, the memory is C1 -/
def QR (G : GG) (n : Nat) (r : Option Value) (C1 : Mem) : Array Value → State → Outcome → State → Prop := fun _ st o t => o = .returned r ∧ Wd G n C1 t.heap ∧ st.heap.size ≤ t.heap.size
def Ct (l : Launch) (y : MethodName) (bytes : ByteArray) (maxL : Nat) (ret : Option FieldType) (rm : Room) (G : GG) (n : Nat) (C : Mem) (av : List Value) (r : Option Value) (C1 : Mem) : Prop := Met l y (wsG y bytes maxL ret) rm (PC G n C av) (QR G n r C1) 0 0 (frA G)
/-- an answer, or an exception by its number -/
abbrev Rs : Type := Int32 ⊕ Nat
def QX (G : GG) (n : Nat) (rv : Int32 → Option Value) (o : Rs) (C1 : Mem) : Array Value → State → Outcome → State → Prop := fun _ st oc t => ∃ v, o = .inl v ∧ oc = .returned (rv v) ∧ Wd G n C1 t.heap ∧ st.heap.size ≤ t.heap.size
def XX (G : GG) (n : Nat) (o : Rs) (C1 : Mem) : String → State → State → Prop := fun E st t => ∃ k, o = .inr k ∧ 1 ≤ k ∧ k ≤ 3 ∧ E = xN k ∧ Wd G n C1 t.heap ∧ st.heap.size ≤ t.heap.size
def CtX (l : Launch) (y : MethodName) (bytes : ByteArray) (maxL : Nat) (ret : Option FieldType) (rm : Room) (mc ms : Nat) (G : GG) (n : Nat) (C : Mem) (av : List Value) (rv : Int32 → Option Value) (o : Rs) (C1 : Mem) : Prop := vx_Met l y (wsG y bytes maxL ret) rm (PC G n C av) (QX G n rv o C1) (XX G n o C1) mc ms (frA G)
/-- the words of a call -/
def WV (own : String) (index : Nat) (y : MethodName) (bytes : ByteArray) (maxL : Nat) (ret : Option FieldType) (na : Nat) : Prop :=
  Cond.methodLink own index y ∈ lw_g ∧ Cond.instanceMethod y ∈ lw_g ∧ Cond.selects y.cls y y ∈ lw_g ∧ Cond.initialized y.cls ∈ lw_g ∧ Cond.code y bytes maxL ret ∈ lw_g ∧ (y.cls ≠ "java/lang/invoke/MethodHandle" ∧ y.cls ≠ "java/lang/invoke/VarHandle") ∧ (parseMethodDescriptor y.desc).map (fun d => d.parameters.length) = some na
def WS (own : String) (index : Nat) (y : MethodName) (bytes : ByteArray) (maxL : Nat) (ret : Option FieldType) (na : Nat) : Prop :=
  Cond.methodLink own index y ∈ lw_g ∧ Cond.static y ∈ lw_g ∧ Cond.initialized y.cls ∈ lw_g ∧ Cond.code y bytes maxL ret ∈ lw_g ∧ (y.cls ≠ "java/lang/invoke/MethodHandle" ∧ y.cls ≠ "java/lang/invoke/VarHandle") ∧ (parseMethodDescriptor y.desc).map (fun d => d.parameters.length) = some na
section CALLS
variable {p : Program} {l : Launch} {e : Env} {R : Room} {s : State} {m : MethodId} {args : Array Value} {below : List Frame} {meth : Method} {c : Code} {H : Heap} {locs : List Loc} {cells slots : Nat} {Q : State → Prop}
variable {cc : ByteArray} {pc : Nat} {ls : Array Slot} {rest st0 As : List Value} {own : String} {nL : Nat} {G : GG} {n : Nat} {C C1 : Mem} {index na mc ms maxL : Nat} {y : MethodName} {bytes : ByteArray} {ret : Option FieldType} {rm : Room} {r : Option Value} {o : Rs} {rv : Int32 → Option Value} {a : Array Value}
theorem lg_warm (h : ∀ w ∈ lw_g, w.before args s = true) : ∀ w ∈ lw_g, ∀ (a' : Array Value) (U : State), s.WarmedH U.vm → w.before a' U = true := fun w hw _ _ hW => word_at hW (good_of_word (lg_hot hw)) (h w hw)
theorem WV.b (hV : WV own index y bytes maxL ret na) (h : ∀ w ∈ lw_g, w.before args s = true) (hR : rm.cells = mc ∧ rm.slots = ms ∧ rm.frames + 1 ≤ R.frames ∧ 8 + (maxL + 11) + rm.locals ≤ R.locals) : CallW R s args own y.cls index y bytes maxL ret (wsG y bytes maxL ret) rm mc ms na := by
  obtain ⟨h1, h2, h3, h4, h5, h6, h7⟩ := hV
  refine ⟨⟨hR.1, hR.2.1, hR.2.2.1, hR.2.2.2, fun w hw => ?_, List.mem_cons_self, h _ h5, h _ h4, h6, fun sig hs => ?_, h _ h1⟩, h _ h2, h _ h3⟩
  · rcases List.mem_cons.mp hw with rfl | hw
    · exact lg_warm h _ h5
    · exact lg_warm h _ hw
  · rw [hs] at h7
    exact (Option.some.inj h7).symm
theorem WS.b (hV : WS own index y bytes maxL ret na) (h : ∀ w ∈ lw_g, w.before args s = true) (hR : rm.cells = mc ∧ rm.slots = ms ∧ rm.frames + 1 ≤ R.frames ∧ 8 + (maxL + 11) + rm.locals ≤ R.locals) : CallB R s args own index y bytes maxL ret (wsG y bytes maxL ret) rm mc ms na ∧ (Cond.static y).before args s = true := by
  obtain ⟨h1, h2, h4, h5, h6, h7⟩ := hV
  refine ⟨⟨hR.1, hR.2.1, hR.2.2.1, hR.2.2.2, fun w hw => ?_, List.mem_cons_self, h _ h5, h _ h4, h6, fun sig hs => ?_, h _ h1⟩, h _ h2⟩
  · rcases List.mem_cons.mp hw with rfl | hw
    · exact lg_warm h _ h5
    · exact lg_warm h _ hw
  · rw [hs] at h7
    exact (Option.some.inj h7).symm
theorem LW.call (hw : Wd G n C H) (hS : LW G s H locs) (hbs : bb G ≤ s.heap.size) {H1 : Heap} {L : List Loc} (h1 : Wd G n C1 H1) (hz : H.size ≤ H1.size) (hL : ∀ q ∈ L, frA G q.base) : LW G s H1 (locs ++ L) := by
  refine ⟨Nat.le_trans hS.1 hz, fun q hq hn => ?_, fun q hq => ?_⟩
  · have hb : q < bb G := Nat.not_le.mp hn
    rw [h1.2.1 q hb, ← hw.2.1 q hb]
    exact hS.2.1 q hq hn
  · rcases List.mem_append.mp hq with h | h
    · exact hS.2.2 q h
    · exact hL q h
theorem m_call (hr : va_Run p l e R s m args below meth c H locs cells slots 0 0 (F0 m pc ls st0) rest (QR G n r C1 a) (frA G)) (hC : Cx p s m args c cc own nL G) (hw : Wd G n C H) (hS : LW G s H locs)
    (kk : ∀ (H1 : Heap) (locs1 : List Loc), Wd G n C1 H1 → LW G s H1 locs1 → H.size ≤ H1.size ∧ H1.size ≤ s.heap.size + cells → W p l e R s m args below meth c H1 locs1 cells slots Q (F0 m (pc + 3) ls (r.toList ++ rest))) : W p l e R s m args below meth c H locs cells slots Q (F0 m pc ls st0) := by
  intro T hT X
  obtain ⟨v, st₀, t, T', L, h0, X', hL, e1, e2, ⟨hv, hwd, hz⟩, st⟩ := hr T hT X
  cases hv
  rw [h0, ← e1] at hz
  rw [← e1] at hwd
  obtain ⟨t2, a1, b1⟩ := kk T'.heap (locs ++ L) hwd (hS.call hw hC.2.2.2.2.2.2.1 hwd hz hL) ⟨hz, X'.heapSize⟩ T' rfl X'
  exact ⟨t2, st t2 a1, b1⟩
theorem call_V {q0 : Nat} (hC : Cx p s m args c cc own nL G) (hM : Ct l y bytes maxL ret rm G n C (.ref (bb G + q0) :: As) r C1) (hV : WV own index y bytes maxL ret na) (hR : rm.cells = 0 ∧ rm.slots = 0 ∧ rm.frames + 1 ≤ R.frames ∧ 8 + (maxL + 11) + rm.locals ≤ R.locals) (hw : Wd G n C H) (hS : LW G s H locs) {ci N : Nat} {T : u_T} {fs : List Value} (ha : q0 < n) (he : cellAt G C q0 = .inr (ci, fs)) (hc : vwCl[ci]? = some (y.cls, T, N)) (hls : ls.size = nL) (hna : As.length = na) (hst : st0 = As.reverse ++ .ref (bb G + q0) :: rest) (hWd : (rest.map fun v => v.category).sum ≤ 8) (hdg : decode cc pc = .ok (.invokevirtual index, 3)) (hf : cells + 0 ≤ R.cells ∧ slots + 0 ≤ R.slots)
    (kk : ∀ (H1 : Heap) (locs1 : List Loc), Wd G n C1 H1 → LW G s H1 locs1 → H.size ≤ H1.size ∧ H1.size ≤ s.heap.size + cells → W p l e R s m args below meth c H1 locs1 cells slots Q (F0 m (pc + 3) ls (r.toList ++ rest))) : W p l e R s m args below meth c H locs cells slots Q (F0 m pc ls st0) := by
  subst hst
  have hK := va_recv hC.2.2.2.2.2.1.1 (hw.one ha he) (q0 := 0) hc rfl
  exact m_call (va_runV (As := As) (rest := rest) ⟨hC.1, hC.2.1, hC.2.2.1, hC.2.2.2.1, hC.2.2.2.2.1⟩ hM (hV.b hC.2.2.2.2.1 hR) ⟨PC.blind, hK, fun U hU hW => ⟨rfl, by rw [hU]; exact hw, hC.2.2.2.2.2.1.warm hW⟩⟩ rfl hna hls rfl (lv_room hWd) hdg hf) hC hw hS kk
theorem call_S (hC : Cx p s m args c cc own nL G) (hM : Ct l y bytes maxL ret rm G n C As r C1) (hV : WS own index y bytes maxL ret na) (hR : rm.cells = 0 ∧ rm.slots = 0 ∧ rm.frames + 1 ≤ R.frames ∧ 8 + (maxL + 11) + rm.locals ≤ R.locals) (hw : Wd G n C H) (hS : LW G s H locs) (hls : ls.size = nL) (hna : As.length = na) (hst : st0 = As.reverse ++ rest) (hWd : (rest.map fun v => v.category).sum ≤ 8) (hdg : decode cc pc = .ok (.invokestatic index, 3)) (hf : cells + 0 ≤ R.cells ∧ slots + 0 ≤ R.slots)
    (kk : ∀ (H1 : Heap) (locs1 : List Loc), Wd G n C1 H1 → LW G s H1 locs1 → H.size ≤ H1.size ∧ H1.size ≤ s.heap.size + cells → W p l e R s m args below meth c H1 locs1 cells slots Q (F0 m (pc + 3) ls (r.toList ++ rest))) : W p l e R s m args below meth c H locs cells slots Q (F0 m pc ls st0) := by
  subst hst
  exact m_call (va_runS (As := As) (rest := rest) ⟨hC.1, hC.2.1, hC.2.2.1, hC.2.2.2.1, hC.2.2.2.2.1⟩ hM (hV.b hC.2.2.2.2.1 hR) ⟨PC.blind, fun U hU hW => ⟨rfl, by rw [hU]; exact hw, hC.2.2.2.2.2.1.warm hW⟩⟩ rfl hna hls rfl (lv_room hWd) hdg hf) hC hw hS kk
/-- a call that returns or throws -/
theorem m_callX (hr : vx_Run p l e R s m args below meth c H locs cells slots mc ms (F0 m pc ls st0) rest (QX G n rv o C1 a) (XX G n o C1) (frA G)) (hC : Cx p s m args c cc own nL G) (hw : Wd G n C H) (hS : LW G s H locs)
    (kx : ∀ (k : Nat) (ce : Cell) (q9 : Addr) (H1 : Heap) (locs1 : List Loc), o = .inr k → 1 ≤ k → k ≤ 3 → Wd G n C1 H1 → LW G s H1 locs1 → H1[q9]? = some ce → ce.vm = .none → s.vm.findClass (xN k) = some ce.cls → vx_W p l e R s m args below meth c H1 locs1 (cells + mc) (slots + ms) Q (F0 m pc ls rest) q9)
    (kk : ∀ (v : Int32) (H1 : Heap) (locs1 : List Loc), o = .inl v → Wd G n C1 H1 → LW G s H1 locs1 → W p l e R s m args below meth c H1 locs1 (cells + mc) (slots + ms) Q (F0 m (pc + 3) ls ((rv v).toList ++ rest))) : W p l e R s m args below meth c H locs cells slots Q (F0 m pc ls st0) := by
  intro T hT X
  rcases hr T hT X with ⟨v, st₀, t, T', L, h0, X', hL, e1, e2, ⟨x, hx, hv, hwd, hz⟩, st⟩ | ⟨q, st₀, t, T', L, E, ce, h0, X', hL, e1, e2, ⟨k, hk, k1, k2, rfl, hwd, hz⟩, hce, hcv, hcl, st⟩
  · cases hv
    rw [h0, ← e1] at hz
    rw [← e1] at hwd
    obtain ⟨t2, a1, b1⟩ := kk x T'.heap (locs ++ L) hx hwd (hS.call hw hC.2.2.2.2.2.2.1 hwd hz hL) T' rfl X'
    exact ⟨t2, st t2 a1, b1⟩
  · rw [h0, ← e1] at hz
    rw [← e1] at hwd hce
    obtain ⟨t2, a1, b1⟩ := kx k ce q T'.heap (locs ++ L) hk k1 k2 hwd (hS.call hw hC.2.2.2.2.2.2.1 hwd hz hL) hce hcv hcl T' rfl X'
    exact ⟨t2, st.trans a1, b1⟩
theorem call_VX {q0 : Nat} (hC : Cx p s m args c cc own nL G) (hM : CtX l y bytes maxL ret rm mc ms G n C (.ref (bb G + q0) :: As) rv o C1) (hV : WV own index y bytes maxL ret na) (hR : rm.cells = mc ∧ rm.slots = ms ∧ rm.frames + 1 ≤ R.frames ∧ 8 + (maxL + 11) + rm.locals ≤ R.locals) (hw : Wd G n C H) (hS : LW G s H locs) {ci N : Nat} {T : u_T} {fs : List Value} (ha : q0 < n) (he : cellAt G C q0 = .inr (ci, fs)) (hc : vwCl[ci]? = some (y.cls, T, N)) (hls : ls.size = nL) (hna : As.length = na) (hst : st0 = As.reverse ++ .ref (bb G + q0) :: rest) (hWd : (rest.map fun v => v.category).sum ≤ 8) (hdg : decode cc pc = .ok (.invokevirtual index, 3)) (hf : cells + mc ≤ R.cells ∧ slots + ms ≤ R.slots)
    (kx : ∀ (k : Nat) (ce : Cell) (q9 : Addr) (H1 : Heap) (locs1 : List Loc), o = .inr k → 1 ≤ k → k ≤ 3 → Wd G n C1 H1 → LW G s H1 locs1 → H1[q9]? = some ce → ce.vm = .none → s.vm.findClass (xN k) = some ce.cls → vx_W p l e R s m args below meth c H1 locs1 (cells + mc) (slots + ms) Q (F0 m pc ls rest) q9)
    (kk : ∀ (v : Int32) (H1 : Heap) (locs1 : List Loc), o = .inl v → Wd G n C1 H1 → LW G s H1 locs1 → W p l e R s m args below meth c H1 locs1 (cells + mc) (slots + ms) Q (F0 m (pc + 3) ls ((rv v).toList ++ rest))) : W p l e R s m args below meth c H locs cells slots Q (F0 m pc ls st0) := by
  subst hst
  have hK := va_recv hC.2.2.2.2.2.1.1 (hw.one ha he) (q0 := 0) hc rfl
  exact m_callX (vx_runV (As := As) (rest := rest) ⟨hC.1, hC.2.1, hC.2.2.1, hC.2.2.2.1, hC.2.2.2.2.1⟩ hM (hV.b hC.2.2.2.2.1 hR) ⟨PC.blind, hK, fun U hU hW => ⟨rfl, by rw [hU]; exact hw, hC.2.2.2.2.2.1.warm hW⟩⟩ rfl hna hls rfl (lv_room hWd) hdg hf) hC hw hS kx kk
theorem call_SX (hC : Cx p s m args c cc own nL G) (hM : CtX l y bytes maxL ret rm mc ms G n C As rv o C1) (hV : WS own index y bytes maxL ret na) (hR : rm.cells = mc ∧ rm.slots = ms ∧ rm.frames + 1 ≤ R.frames ∧ 8 + (maxL + 11) + rm.locals ≤ R.locals) (hw : Wd G n C H) (hS : LW G s H locs) (hls : ls.size = nL) (hna : As.length = na) (hst : st0 = As.reverse ++ rest) (hWd : (rest.map fun v => v.category).sum ≤ 8) (hdg : decode cc pc = .ok (.invokestatic index, 3)) (hf : cells + mc ≤ R.cells ∧ slots + ms ≤ R.slots)
    (kx : ∀ (k : Nat) (ce : Cell) (q9 : Addr) (H1 : Heap) (locs1 : List Loc), o = .inr k → 1 ≤ k → k ≤ 3 → Wd G n C1 H1 → LW G s H1 locs1 → H1[q9]? = some ce → ce.vm = .none → s.vm.findClass (xN k) = some ce.cls → vx_W p l e R s m args below meth c H1 locs1 (cells + mc) (slots + ms) Q (F0 m pc ls rest) q9)
    (kk : ∀ (v : Int32) (H1 : Heap) (locs1 : List Loc), o = .inl v → Wd G n C1 H1 → LW G s H1 locs1 → W p l e R s m args below meth c H1 locs1 (cells + mc) (slots + ms) Q (F0 m (pc + 3) ls ((rv v).toList ++ rest))) : W p l e R s m args below meth c H locs cells slots Q (F0 m pc ls st0) := by
  subst hst
  exact m_callX (vx_runS (As := As) (rest := rest) ⟨hC.1, hC.2.1, hC.2.2.1, hC.2.2.2.1, hC.2.2.2.2.1⟩ hM (hV.b hC.2.2.2.2.1 hR) ⟨PC.blind, fun U hU hW => ⟨rfl, by rw [hU]; exact hw, hC.2.2.2.2.2.1.warm hW⟩⟩ rfl hna hls rfl (lv_room hWd) hdg hf) hC hw hS kx kk
/-! ends -/
theorem m_iret (hC : Cx p s m args c cc own nL G) (hr : meth.sig.returnType = some .int) (hlocks : meth.locks = false) (hw : Wd G n C H) (hS : LW G s H locs) {v r1 : Int32} (hdg : decode cc pc = .ok (.ireturn, 1)) (hF : some (v, C) = some (r1, C1)) : W p l e R s m args below meth c H locs cells slots (MQ below (QR G n (some (.int r1)) C1) args s cells slots (frA G)) (F0 m pc ls [.int v]) := by
  cases hF
  exact W.iret hC.1 hC.2.1 hr (fun t ht _ => ⟨rfl, by rw [ht]; exact hw, by rw [ht]; exact hS.1⟩) hS.2.2 hdg
theorem z_nar {v : Int32} (hv : v = 0 ∨ v = 1) : narrow .boolean (.int v) = .int v := by rcases hv with rfl | rfl <;> decide
theorem z_fit {v : Int32} (hv : v = 0 ∨ v = 1) : fits .boolean (.int v) = true := by rcases hv with rfl | rfl <;> decide
theorem m_zret (hC : Cx p s m args c cc own nL G) (hr : meth.sig.returnType = some .boolean) (hlocks : meth.locks = false) (hw : Wd G n C H) (hS : LW G s H locs) {v r1 : Int32} (hdg : decode cc pc = .ok (.ireturn, 1)) (hv : v = 0 ∨ v = 1) (hF : some (v, C) = some (r1, C1)) : W p l e R s m args below meth c H locs cells slots (MQ below (QR G n (some (.int r1)) C1) args s cells slots (frA G)) (F0 m pc ls [.int v]) := by
  cases hF
  exact W.zret hC.1 hC.2.1 hr (z_nar hv) (fun t ht _ => ⟨rfl, by rw [ht]; exact hw, by rw [ht]; exact hS.1⟩) hS.2.2 hdg
theorem m_vret (hC : Cx p s m args c cc own nL G) (hr : meth.sig.returnType = none) (hlocks : meth.locks = false) (hw : Wd G n C H) (hS : LW G s H locs) {r1 : Int32} (hdg : decode cc pc = .ok (.return_, 1)) (hF : some ((0 : Int32), C) = some (r1, C1)) : W p l e R s m args below meth c H locs cells slots (MQ below (QR G n none C1) args s cells slots (frA G)) (F0 m pc ls []) := by
  cases hF
  exact W.vret hC.1 hC.2.1 hr (fun t ht _ => ⟨rfl, by rw [ht]; exact hw, by rw [ht]; exact hS.1⟩) hS.2.2 hdg
theorem m_aret (hC : Cx p s m args c cc own nL G) {cls : String} (hr : meth.sig.returnType = some (.object cls)) (hlocks : meth.locks = false) (hw : Wd G n C H) (hS : LW G s H locs) {f r1 : Nat} {ad : Nat → Nat} (hdg : decode cc pc = .ok (.areturn, 1)) (hF : some (f, C) = some (r1, C1)) : W p l e R s m args below meth c H locs cells slots (MQ below (QR G n (some (.ref (ad r1))) C1) args s cells slots (frA G)) (F0 m pc ls [.ref (ad f)]) := by
  cases hF
  exact W.aret hC.1 hC.2.1 hr (Or.inl ⟨_, rfl⟩) (Or.inr ⟨_, rfl⟩) (fun t ht _ => ⟨rfl, by rw [ht]; exact hw, by rw [ht]; exact hS.1⟩) hS.2.2 hdg
theorem m_iretX (hC : Cx p s m args c cc own nL G) (hr : meth.sig.returnType = some .int) (hlocks : meth.locks = false) (hw : Wd G n C H) (hS : LW G s H locs) {v : Int32} (hc : cells ≤ mc) (hs : slots ≤ ms) (hdg : decode cc pc = .ok (.ireturn, 1)) (hF : some (Sum.inl v, C) = some (o, C1)) : W p l e R s m args below meth c H locs cells slots (vx_MQ below (QX G n (fun v => some (.int v)) o C1) (XX G n o C1) args s mc ms (frA G)) (F0 m pc ls [.int v]) := by
  cases hF
  exact W.widen hc hs (vx_ret (W.iret hC.1 hC.2.1 hr (fun t ht _ => ⟨v, rfl, rfl, by rw [ht]; exact hw, by rw [ht]; exact hS.1⟩) hS.2.2 hdg))
theorem m_vretX (hC : Cx p s m args c cc own nL G) (hr : meth.sig.returnType = none) (hlocks : meth.locks = false) (hw : Wd G n C H) (hS : LW G s H locs) (hc : cells ≤ mc) (hs : slots ≤ ms) (hdg : decode cc pc = .ok (.return_, 1)) (hF : some (Sum.inl (0 : Int32), C) = some (o, C1)) : W p l e R s m args below meth c H locs cells slots (vx_MQ below (QX G n (fun _ => none) o C1) (XX G n o C1) args s mc ms (frA G)) (F0 m pc ls []) := by
  cases hF
  exact W.widen hc hs (vx_ret (W.vret hC.1 hC.2.1 hr (fun t ht _ => ⟨0, rfl, rfl, by rw [ht]; exact hw, by rw [ht]; exact hS.1⟩) hS.2.2 hdg))
/-- an exception goes on to the caller -/
theorem m_out (hC : Cx p s m args c cc own nL G) (hlocks : meth.locks = false) (ht : ∀ x ∈ c.exceptionTable.toList, False) (hw : Wd G n C H) (hS : LW G s H locs) {k : Nat} {ce : Cell} {q : Addr} (k1 : 1 ≤ k) (k2 : k ≤ 3) (hce : H[q]? = some ce) (hcv : ce.vm = .none) (hcl : s.vm.findClass (xN k) = some ce.cls) (hc : cells ≤ mc) (hs : slots ≤ ms) (hF : some (Sum.inr k, C) = some (o, C1)) {Qc : Array Value → State → Outcome → State → Prop} : vx_W p l e R s m args below meth c H locs cells slots (vx_MQ below Qc (XX G n o C1) args s mc ms (frA G)) (F0 m pc ls rest) q := by
  cases hF
  exact vx_out (fun x hx => (ht x hx).elim) hlocks hce hcv hcl (fun t ht _ => ⟨k, rfl, k1, k2, rfl, by rw [ht]; exact hw, by rw [ht]; exact hS.1⟩) hS.2.2 hc hs
end CALLS
/-! a contract out of a walk -/
theorem Ct.of {l : Launch} {y : MethodName} {cc : ByteArray} {maxL : Nat} {ret : Option FieldType} {rm : Room} {G : GG} {n : Nat} {C C1 : Mem} {av : List Value} {r : Option Value} (hy : plainName y.cls = true) (hN : (lg_sl av).length ≤ maxL)
    (body : ∀ (p : Program) (e : Env) (s : State) (m : MethodId) (below : List Frame) (meth : Method) (c : Code) (ls : Array Slot), Cx p s m av.toArray c cc y.cls maxL G → meth.sig.returnType = ret → meth.locks = false → Wd G n C s.heap → lv_has ls maxL (lv_args 0 av) →
      W p l e rm s m av.toArray below meth c s.heap [] 0 0 (MQ below (QR G n r C1) av.toArray s 0 0 (frA G)) (F0 m 0 ls [])) : Ct l y cc maxL ret rm G n C av r C1 := by
  refine Met.ofW (cc := cc) (maxL := maxL) (ret := ret) hy rfl ?_
  intro p e s m args below meth c s₁ B hml hv
  obtain ⟨rfl, hwd, hT⟩ := hv
  have hl := lv_entry av (n := maxL) hN
  rw [lg_entry_eq]
  generalize (lg_sl av ++ List.replicate (maxL - (lg_sl av).length) Slot.unset).toArray = ls at hl ⊢
  exact body p e s m below meth c ls ⟨B.exec, B.bytes, hml, findClass_of_methodNamed B.named, fun w hw => atoms_spec (ws := wsG y cc maxL ret) B.pre w (List.mem_cons_of_mem _ hw), hT, Nat.le_trans (Nat.le_add_right _ _) hwd.1, hwd.2.1⟩ B.returns B.notSynchronized hwd hl
theorem CtX.of {l : Launch} {y : MethodName} {cc : ByteArray} {maxL mc ms : Nat} {ret : Option FieldType} {rm : Room} {G : GG} {n : Nat} {C : Mem} {C1 : Mem} {av : List Value} {rv : Int32 → Option Value} {o : Rs} (hy : plainName y.cls = true) (hN : (lg_sl av).length ≤ maxL)
    (body : ∀ (p : Program) (e : Env) (s : State) (m : MethodId) (below : List Frame) (meth : Method) (c : Code) (ls : Array Slot), Cx p s m av.toArray c cc y.cls maxL G → meth.sig.returnType = ret → meth.locks = false → (∀ x ∈ c.exceptionTable.toList, False) → Wd G n C s.heap → lv_has ls maxL (lv_args 0 av) →
      W p l e rm s m av.toArray below meth c s.heap [] 0 0 (vx_MQ below (QX G n rv o C1) (XX G n o C1) av.toArray s mc ms (frA G)) (F0 m 0 ls [])) : CtX l y cc maxL ret rm mc ms G n C av rv o C1 := by
  refine vx_ofW (cc := cc) (maxL := maxL) (ret := ret) hy rfl ?_
  intro p e s m args below meth c s₁ B hml htab hv
  obtain ⟨rfl, hwd, hT⟩ := hv
  have hl := lv_entry av (n := maxL) hN
  rw [lg_entry_eq]
  generalize (lg_sl av ++ List.replicate (maxL - (lg_sl av).length) Slot.unset).toArray = ls at hl ⊢
  exact body p e s m below meth c ls ⟨B.exec, B.bytes, hml, findClass_of_methodNamed B.named, fun w hw => atoms_spec (ws := wsG y cc maxL ret) B.pre w (List.mem_cons_of_mem _ hw), hT, Nat.le_trans (Nat.le_add_right _ _) hwd.1, hwd.2.1⟩ B.returns B.notSynchronized htab hwd hl
end
section
/-! the words of which the pure functions of the methods are made, and what a walk reads off them -/
def vp_dec (x : Int32) (n : Nat) : Decidable (vp_in x n) := by unfold vp_in; infer_instance
def gi {α : Type} (x : Int32) (n : Nat) (A : Option α) : Option α := @ite _ (vp_in x n) (vp_dec x n) A none
theorem gi_t {α : Type} {x : Int32} {n : Nat} {A : Option α} {r : α} (h : gi x n A = some r) : vp_in x n ∧ A = some r := by
  unfold gi at h
  by_cases c : vp_in x n
  · rw [if_pos c] at h; exact ⟨c, h⟩
  · rw [if_neg c] at h; cases h
def gz {α : Type} (y : Int32) (A : Option α) : Option α := if y = 0 then none else A
theorem gz_t {α : Type} {y : Int32} {A : Option α} {r : α} (h : gz y A = some r) : ¬ y = 0 ∧ A = some r := by
  unfold gz at h
  by_cases c : y = 0
  · rw [if_pos c] at h; cases h
  · rw [if_neg c] at h; exact ⟨c, h⟩
def gzL {α : Type} (y : Int64) (A : Option α) : Option α := if y = 0 then none else A
theorem gzL_t {α : Type} {y : Int64} {A : Option α} {r : α} (h : gzL y A = some r) : ¬ y = 0 ∧ A = some r := by
  unfold gzL at h
  by_cases c : y = 0
  · rw [if_pos c] at h; cases h
  · rw [if_neg c] at h; exact ⟨c, h⟩
def gb {α : Type} (v : Int32) (A : Option α) : Option α := if v = 0 ∨ v = 1 then A else none
theorem gb_t {α : Type} {v : Int32} {A : Option α} {r : α} (h : gb v A = some r) : (v = 0 ∨ v = 1) ∧ A = some r := by
  unfold gb at h
  by_cases c : v = 0 ∨ v = 1
  · rw [if_pos c] at h; exact ⟨c, h⟩
  · rw [if_neg c] at h; cases h
def nm {α β : Type} (e : α) (k : α → Option β) : Option β := k e
theorem nm_t {α β : Type} {e : α} {k : α → Option β} {r : β} (h : nm e k = some r) : ∃ x, x = e ∧ k x = some r := ⟨e, rfl, h⟩
theorem ob {α β : Type} {x : Option α} {f : α → Option β} {r : β} (h : x.bind f = some r) : ∃ o, x = some o ∧ f o = some r := by
  cases x with
  | none => cases h
  | some o => exact ⟨o, rfl, h⟩
theorem it_t {α : Type} {c : Prop} [Decidable c] {A B : Option α} {r : α} (h : c) (e : (if c then A else B) = some r) : A = some r := by rwa [if_pos h] at e
theorem it_f {α : Type} {c : Prop} [Decidable c] {A B : Option α} {r : α} (h : ¬ c) (e : (if c then A else B) = some r) : B = some r := by rwa [if_neg h] at e
theorem se_l {α β γ : Type} {f : α → γ} {g : β → γ} {o : α ⊕ β} {r : γ} {v : α} (h : o = .inl v) (e : Sum.elim f g o = r) : f v = r := by subst h; exact e
theorem se_r {α β γ : Type} {f : α → γ} {g : β → γ} {o : α ⊕ β} {r : γ} {v : β} (h : o = .inr v) (e : Sum.elim f g o = r) : g v = r := by subst h; exact e
def iter {σ ρ : Type} (step : σ → Option (σ ⊕ ρ)) : Nat → σ → Option ρ
  | 0, _ => none
  | n + 1, x => (step x).bind (Sum.elim (iter step n) some)
def fuel : Nat := 1000
theorem iter_sound {σ ρ : Type} {step : σ → Option (σ ⊕ ρ)} {P : σ → Prop} {X : ρ → Prop} (hb : ∀ x o, step x = some o → (∀ x', o = .inl x' → P x') → (∀ r, o = .inr r → X r) → P x) : ∀ (n : Nat) (x : σ) (r : ρ), iter step n x = some r → X r → P x
  | 0, _, _, h, _ => by cases h
  | n + 1, x, r, h, hX => by
    obtain ⟨o, h1, h2⟩ := ob h
    refine hb x o h1 (fun x' e => ?_) (fun r' e => ?_)
    · subst e
      exact iter_sound hb n x' r h2 hX
    · subst e
      cases h2
      exact hX
theorem it_back {σ ρ : Type} {P : σ → Prop} {o : σ ⊕ ρ} {x' : σ} (hF : some (Sum.inl x' : σ ⊕ ρ) = some o) (hk : ∀ x', o = .inl x' → P x') : P x' := hk x' (Option.some.inj hF).symm
theorem it_exit {σ ρ : Type} {X : ρ → Prop} {o : σ ⊕ ρ} {r : ρ} (hF : some (Sum.inr r : σ ⊕ ρ) = some o) (hk : ∀ r, o = .inr r → X r) : X r := hk r (Option.some.inj hF).symm
theorem Wd.grow {G : GG} {n : Nat} {C : Mem} {H H1 : Heap} (hw : Wd G n C H) (hz : H.size ≤ H1.size) (hq : ∀ q, q < H.size → H1[q]? = H[q]?) : Wd G n C H1 :=
  ⟨Nat.le_trans hw.1 hz, fun q h => by rw [hq q (by have := hw.1; omega)]; exact hw.2.1 q h, fun q h => (hw.2.2 q h).kept (hq _ (by have := hw.1; simp only; omega))⟩
def b2 {A B γ : Type} (x : Option (A × B)) (k : A → B → Option γ) : Option γ := x.bind fun o => k o.1 o.2
theorem b2_t {A B γ : Type} {x : Option (A × B)} {k : A → B → Option γ} {r : γ} (h : b2 x k = some r) : ∃ a b, x = some (a, b) ∧ k a b = some r := by
  obtain ⟨⟨a, b⟩, h1, h2⟩ := ob h
  exact ⟨a, b, h1, h2⟩
def b1 {A γ : Type} (x : Option A) (k : A → Option γ) : Option γ := x.bind k
theorem b1_t {A γ : Type} {x : Option A} {k : A → Option γ} {r : γ} (h : b1 x k = some r) : ∃ a, x = some a ∧ k a = some r := ob h
theorem b2_s {A B γ : Type} (a : A) (b : B) (k : A → B → Option γ) : b2 (some (a, b)) k = k a b := rfl
theorem b1_s {A γ : Type} (a : A) (k : A → Option γ) : b1 (some a) k = k a := rfl
def gn {α : Type} (f n : Nat) (A : Option α) : Option α := if f < n then A else none
theorem gn_t {α : Type} {f n : Nat} {A : Option α} {r : α} (h : gn f n A = some r) : f < n ∧ A = some r := by
  unfold gn at h
  by_cases c : f < n
  · rw [if_pos c] at h; exact ⟨c, h⟩
  · rw [if_neg c] at h; cases h
theorem Wd.cast {G : GG} {n : Nat} {C C1 : Mem} {H : Heap} (h : C1 = C) (hw : Wd G n C H) : Wd G n C1 H := h ▸ hw
/-! switches -/
theorem sw_out {x : Int32} {lo hi : Int} (h : ∀ k : Int, lo ≤ k → k ≤ hi → x.toInt ≠ k) : x.toInt < lo ∨ hi < x.toInt := by
  rcases Int.lt_or_le x.toInt lo with q | q
  · exact Or.inl q
  · rcases Int.lt_or_le hi x.toInt with q2 | q2
    · exact Or.inr q2
    · exact absurd rfl (h _ q q2)
/-! throws -/
abbrev xnms : List String := ["java/lang/RuntimeException", "java/lang/Exception"]
def XAT (ik ic k : Nat) : Prop := Cond.classLink RX8 ik (xN k) ∈ lw_g ∧ Cond.initialized (xN k) ∈ lw_g ∧ (∀ w ∈ (vx_atS RX8 ic (xN k) xnms).filter goodWord, w ∈ lw_g) ∧ (∀ w ∈ (vx_atS RX8 ic (xN k) xnms).filter (fun w => !goodWord w), w ∈ [Cond.castable (xN k) (xN k), Cond.declares (xS "java/lang/RuntimeException"), Cond.declares (xS "java/lang/Exception"), Cond.declares (xS "java/lang/Throwable")]) ∧ (∀ w ∈ Cond.classLink RX8 ik (xN k) :: Cond.initialized (xN k) :: vx_atS RX8 ic (xN k) xnms, vx_ot w = true) ∧ Bundle.fit (xN k) = true ∧ 1 ≤ k ∧ k ≤ 3
theorem xnms_fit : ∀ n ∈ xnms, Bundle.fit n = true := by decide +kernel
theorem xat_1 : XAT 228 232 1 := ⟨by decide +kernel, by decide +kernel, by decide +kernel, by decide +kernel, by decide +kernel, by decide +kernel, by decide, by decide⟩
theorem xat_2 : XAT 55 59 2 := ⟨by decide +kernel, by decide +kernel, by decide +kernel, by decide +kernel, by decide +kernel, by decide +kernel, by decide, by decide⟩
theorem xat_3 : XAT 185 189 3 := ⟨by decide +kernel, by decide +kernel, by decide +kernel, by decide +kernel, by decide +kernel, by decide +kernel, by decide, by decide⟩
section THROWS
variable {p : Program} {l : Launch} {e : Env} {R : Room} {s : State} {m : MethodId} {args : Array Value} {below : List Frame} {meth : Method} {c : Code} {H : Heap} {locs : List Loc} {cells slots : Nat} {Q : State → Prop}
variable {cc : ByteArray} {pc : Nat} {ls : Array Slot} {rest : List Value} {nL : Nat} {G : GG} {n : Nat} {C : Mem} {mc ms : Nat}
theorem XAT.hat {ik ic k : Nat} (h : XAT ik ic k) (hts : ∀ w ∈ lw_g, w.before args s = true) (hT : TT G s) : ∀ w ∈ vx_atS RX8 ic (xN k) xnms, w.before args s = true :=
  vx_hat (fun w hw => hts w (h.2.2.1 w hw)) h.2.2.2.1 (vx_c (va_Nw.use rfl (hT.2.2.2.2.2.2.2.1 k)) (vx_c (va_Nw.use rfl hT.2.2.2.2.2.2.2.2.2.2.1) (vx_c (va_Nw.use rfl hT.2.2.2.2.2.2.2.2.2.2.2.1) (vx_c (va_Nw.use rfl hT.2.2.2.2.2.2.2.2.2.2.2.2) vx_n))))
theorem m_throwS (hC : Cx p s m args c cc RX8 nL G) (hfl : l.stackTraces = false) (hlocks : meth.locks = false) (ht : ∀ x ∈ c.exceptionTable.toList, False) (hw : Wd G n C H) (hS : LW G s H locs) {ik ic k is : Nat} {text : String} {o : Rs} {C1 : Mem} (hX : XAT ik ic k) (hstr : (is, text) ∈ strs) (hls : ls.size = nL)
    (d0 : decode cc pc = .ok (.new ik, 3)) (d3 : decode cc (pc + 3) = .ok (.dup, 1)) (d4 : decode cc (pc + 4) = .ok (.ldc is, 2)) (d6 : decode cc (pc + 6) = .ok (.invokespecial ic, 3)) (d9 : decode cc (pc + 9) = .ok (.athrow, 1))
    (hRf : 6 ≤ R.frames) (hRl : (rest.map fun v => v.category).sum + 82 ≤ R.locals) (hRc : cells + 1 ≤ R.cells) (hRs : slots + 6 ≤ R.slots) (hc : cells + 1 ≤ mc) (hs : slots + 6 ≤ ms) (hF : some (Sum.inr k, C) = some (o, C1)) {Qc : Array Value → State → Outcome → State → Prop} :
    W p l e R s m args below meth c H locs cells slots (vx_MQ below Qc (XX G n o C1) args s mc ms (frA G)) (F0 m pc ls rest) := by
  cases hF
  obtain ⟨sa, hsa⟩ := hC.2.2.2.2.2.1.2.2.2.2.2.2.1 _ hstr
  exact vx_throwS (A := frA G) hC.1 hC.2.1 hfl hC.2.2.2.1 hX.2.2.2.2.2.1 xnms_fit (hC.2.2.2.2.1 _ hX.1) (hC.2.2.2.2.1 _ hX.2.1) hsa (hX.hat hC.2.2.2.2.1 hC.2.2.2.2.2.1) hX.2.2.2.2.1
    (vx_Zq.kept hC.2.2.2.2.2.1.2.2.2.2.1 (fun a h _ => hC.2.2.2.2.2.2.2 a h)) (vx_Zq.kept hC.2.2.2.2.2.1.2.2.2.2.2.1 (fun a h _ => hC.2.2.2.2.2.2.2 a h)) hS (hls.trans hC.2.2.1.symm) d0 d3 d4 d6 d9 (fun x hx => (ht x hx).elim) hRf hRl hRc hRs hlocks
    (fun t _ h1 h2 => ⟨k, rfl, hX.2.2.2.2.2.2.1, hX.2.2.2.2.2.2.2, rfl, hw.grow h1 h2, Nat.le_trans hS.1 h1⟩) hS.2.2 hc hs
theorem m_throwSW (hC : Cx p s m args c cc RX8 nL G) (hfl : l.stackTraces = false) (hlocks : meth.locks = false) (ht : ∀ x ∈ c.exceptionTable.toList, False) (hw : Wd G n C H) (hS : LW G s H locs) {ik ic k is : Nat} {text : String} {o : Rs} {C1 : Mem} (hX : XAT ik ic k) (hstr : (is, text) ∈ strs) (hls : ls.size = nL)
    (d0 : decode cc pc = .ok (.new ik, 3)) (d3 : decode cc (pc + 3) = .ok (.dup, 1)) (d4 : decode cc (pc + 4) = .ok (.ldc_w is, 3)) (d6 : decode cc (pc + 7) = .ok (.invokespecial ic, 3)) (d9 : decode cc (pc + 10) = .ok (.athrow, 1))
    (hRf : 6 ≤ R.frames) (hRl : (rest.map fun v => v.category).sum + 82 ≤ R.locals) (hRc : cells + 1 ≤ R.cells) (hRs : slots + 6 ≤ R.slots) (hc : cells + 1 ≤ mc) (hs : slots + 6 ≤ ms) (hF : some (Sum.inr k, C) = some (o, C1)) {Qc : Array Value → State → Outcome → State → Prop} :
    W p l e R s m args below meth c H locs cells slots (vx_MQ below Qc (XX G n o C1) args s mc ms (frA G)) (F0 m pc ls rest) := by
  cases hF
  obtain ⟨sa, hsa⟩ := hC.2.2.2.2.2.1.2.2.2.2.2.2.1 _ hstr
  exact vx_throwSW (A := frA G) hC.1 hC.2.1 hfl hC.2.2.2.1 hX.2.2.2.2.2.1 xnms_fit (hC.2.2.2.2.1 _ hX.1) (hC.2.2.2.2.1 _ hX.2.1) hsa (hX.hat hC.2.2.2.2.1 hC.2.2.2.2.2.1) hX.2.2.2.2.1
    (vx_Zq.kept hC.2.2.2.2.2.1.2.2.2.2.1 (fun a h _ => hC.2.2.2.2.2.2.2 a h)) (vx_Zq.kept hC.2.2.2.2.2.1.2.2.2.2.2.1 (fun a h _ => hC.2.2.2.2.2.2.2 a h)) hS (hls.trans hC.2.2.1.symm) d0 d3 d4 d6 d9 (fun x hx => (ht x hx).elim) hRf hRl hRc hRs hlocks
    (fun t _ h1 h2 => ⟨k, rfl, hX.2.2.2.2.2.2.1, hX.2.2.2.2.2.2.2, rfl, hw.grow h1 h2, Nat.le_trans hS.1 h1⟩) hS.2.2 hc hs
end THROWS
end
section
/-! the cells by their kinds -/
section CA
variable {G : GG} {C : Mem} {q i f k : Nat}
theorem ca_casc : cellAt G C 0 = .inr (8, [.ref (bb G + 1), .ref (bb G + po 0), .ref (bb G + po 1), .ref (bb G + 32), .ref (bb G + (216 + 14 * 0)), .ref (bb G + (216 + 14 * 1))]) := rfl
theorem ca_plan : cellAt G C 1 = .inr (4, [.ref (bb G + 2), .int (C 18 1), .int (C 18 2), .int (C 18 3), .int (C 18 4), .int (C 18 5), .ref (bb G + 3), .ref (bb G + 4), .ref (bb G + 5), .int (C 18 9), .int (C 18 10)]) := rfl
theorem ca_signs : cellAt G C 2 = .inl (G.2.1 0, 60, .inl (tr 60 (C 19))) := rfl
theorem ca_powers : cellAt G C 3 = .inl (G.2.1 0, 5, .inl (tr 5 (C 20))) := rfl
theorem ca_flues : cellAt G C 4 = .inl (G.2.1 0, 5, .inl (tr 5 (C 21))) := rfl
theorem ca_ptemps : cellAt G C 5 = .inl (G.2.1 0, 8, .inl (tr 8 (C 22))) := rfl
theorem ca_hist : cellAt G C 32 = .inr (2, [.ref (bb G + 33), .int (C 23 1), .int (C 23 2)]) := rfl
theorem ca_states : cellAt G C 33 = .inl (G.2.1 3, 14, .inr (.inr (.inr (.inr (fun j => some (bb G + (34 + 13 * j))))))) := rfl
theorem po_hist {j : Nat} (h : j < 14) : po (2 + j) = 34 + 13 * j := by
  unfold po
  rw [if_neg (by omega), if_neg (by omega), if_pos (by omega), show 2 + j - 2 = j by omega]
theorem ca_slot (h : k < 2) : cellAt G C (216 + 14 * k) = .inr (6, [.ref (bb G + po (16 + k)), .int (C 24 k)]) := by
  match k, h with
  | 0, _ => rfl
  | 1, _ => rfl
theorem ca_plant (h : q < 18) : cellAt G C (po q) = .inr (5, [.ref (bb G + (po q + 1)), .int (C q 65), .ref (bb G + (po q + (2 + 0))), .ref (bb G + (po q + (2 + 1))), .ref (bb G + (po q + 4)), .ref (bb G + (po q + 5)), .ref (bb G + (po q + 7)), .int (C q 6), .int (C q 7)]) := cell_plant G C (j := 0) h (by decide)
theorem ca_barr (h : q < 18) : cellAt G C (po q + 1) = .inl (G.2.1 2, 5, .inr (.inr (.inr (.inr (fun j => some (bb G + (po q + (8 + j)))))))) := by
  rw [cell_plant G C (j := 1) h (by decide)]
  simp only [plantC, Nat.add_assoc]
theorem ca_flue (h : q < 18) (hf : f < 2) : cellAt G C (po q + (2 + f)) = .inr (1, [.int (C q (18 + f)), .int (C q (20 + f))]) := by
  rw [cell_plant G C (j := 2 + f) h (by omega)]
  match f, hf with
  | 0, _ => rfl
  | 1, _ => rfl
theorem ca_sett (h : q < 18) : cellAt G C (po q + 4) = .inl (G.2.1 0, 6, .inl (tr 6 (C q))) := cell_plant G C (j := 4) h (by decide)
theorem ca_tank (h : q < 18) : cellAt G C (po q + 5) = .inr (7, [.ref (bb G + (po q + 6)), .int (C q 66), .int (C q 13), .int (C q 14), .int (C q 15), .int (C q 16), .int (C q 17)]) := cell_plant G C (j := 5) h (by decide)
theorem ca_temps (h : q < 18) : cellAt G C (po q + 6) = .inl (G.2.1 0, 8, .inl (tr 8 (fun j => C q (22 + j)))) := cell_plant G C (j := 6) h (by decide)
theorem ca_kill (h : q < 18) : cellAt G C (po q + 7) = .inr (3, [.int (C q 8), .int (C q 9), .int (C q 10), .int (C q 11), .int (C q 12)]) := cell_plant G C (j := 7) h (by decide)
theorem ca_boiler (h : q < 18) (hi : i < 5) : cellAt G C (po q + (8 + i)) = .inr (0, [.int (C q (30 + 7 * i)), .int (C q (30 + 7 * i + 1)), .int (C q (30 + 7 * i + 2)), .int (C q (30 + 7 * i + 3)), .int (C q (30 + 7 * i + 4)), .int (C q (30 + 7 * i + 5)), .int (C q (30 + 7 * i + 6))]) := by
  rw [cell_plant G C (j := 8 + i) h (by omega), Nat.add_comm 8 i]
  rfl
theorem ca_model : cellAt G C 244 = .inr (9, [.int (C 30 0), .ref (bb G + (31 + 214)), .int (C 30 2), .int (C 30 3), .int (C 30 4), .int (C 30 5), .int (C 30 6), .int (C 30 7), .ref (bb G + (32 + 214)), .ref (bb G + (33 + 214)), .ref (bb G + (34 + 214)), .ref (bb G + (35 + 214)), .int (C 30 12), .ref (bb G + (36 + 214)), .ref (bb G + (37 + 214))]) := rfl
theorem ca_marr {r : Nat} (h : 31 ≤ r ∧ r ≤ 36) : cellAt G C (r + 214) = .inl (G.2.1 0, alen r, .inl (tr (alen r) (C r))) := by
  unfold cellAt
  rw [if_neg (by omega), if_neg (by omega), if_neg (by omega), if_neg (by omega), if_neg (by omega), if_neg (by omega), if_neg (by omega), if_neg (by omega), if_neg (by omega)]
  unfold fixM
  rw [if_neg (by omega), if_pos (by omega), show r + 214 - 214 = r by omega]
theorem ca_kept : cellAt G C (37 + 214) = .inl (G.2.1 1, 2, .inl (tr 2 (C 37))) := rfl
theorem ca_out : cellAt G C 252 = .inl (G.2.1 4, 1, .inr (.inl (fun j => (tr 1 (C 40) j).toInt64))) := rfl
theorem hm_boiler (hi : i < 5) (hf : f < 7) : hm (30 + 7 * i + f) = 8 + i := by
  unfold hm
  rw [if_neg (by omega), if_neg (by omega), if_neg (by omega), if_neg (by omega), if_neg (by omega), if_neg (by omega), if_neg (by omega), if_pos (by omega)]
  omega
theorem hm_temps (hi : i < 8) : hm (22 + i) = 6 := by
  unfold hm
  rw [if_neg (by omega), if_neg (by omega), if_neg (by omega), if_neg (by omega), if_neg (by omega), if_neg (by omega), if_pos (by omega)]
theorem hm_sett (hi : i < 6) : hm i = 4 := by
  unfold hm
  rw [if_pos hi]
theorem hm_flue (hf : f < 2) : hm (18 + f) = 2 + f ∧ hm (20 + f) = 2 + f := by
  match f, hf with
  | 0, _ => exact ⟨rfl, rfl⟩
  | 1, _ => exact ⟨rfl, rfl⟩
end CA
section AR
variable {p : Program} {l : Launch} {e : Env} {R : Room} {s : State} {m : MethodId} {args : Array Value} {below : List Frame} {meth : Method} {c : Code} {H : Heap} {locs : List Loc} {cells slots : Nat} {Q : State → Prop}
variable {cc : ByteArray} {pc : Nat} {ls : Array Slot} {rest st0 As : List Value} {own : String} {nL : Nat} {G : GG} {n : Nat} {C C1 : Mem} {q : Nat} {i x : Int32}
/-! rows of numbers, read and written -/
theorem lv_nmi {x y : Int32} (h : y = x) (k : W p l e R s m args below meth c H locs cells slots Q (F0 m pc ls (.int y :: rest))) : W p l e R s m args below meth c H locs cells slots Q (F0 m pc ls (.int x :: rest)) := h ▸ k
theorem lv_nml {x y : Int64} (h : y = x) (k : W p l e R s m args below meth c H locs cells slots Q (F0 m pc ls (.long y :: rest))) : W p l e R s m args below meth c H locs cells slots Q (F0 m pc ls (.long x :: rest)) := h ▸ k
theorem ld_at {a N : Nat} {g : Nat → Int32} (hC : Cx p s m args c cc own nL G) (hw : Wd G n C H) (ha : a < n) (he : cellAt G C a = .inl (G.2.1 0, N, .inl (tr N g))) (hin : vp_in i N) (hdg : decode cc pc = .ok (.iaload, 1)) (kk : W p l e R s m args below meth c H locs cells slots Q (F0 m (pc + 1) ls (.int (g i.toNatClampNeg) :: rest))) : W p l e R s m args below meth c H locs cells slots Q (F0 m pc ls (.int i :: .ref (bb G + a) :: rest)) :=
  m_iald hC hw ha he hin hdg (by rw [tr_lt g (vp_lt hin)]; exact kk)
theorem ld_signs (hC : Cx p s m args c cc own nL G) (hw : Wd G n C H) (hn : 244 ≤ n) (hin : vp_in i 60) (hdg : decode cc pc = .ok (.iaload, 1)) (kk : W p l e R s m args below meth c H locs cells slots Q (F0 m (pc + 1) ls (.int (C 19 i.toNatClampNeg) :: rest))) : W p l e R s m args below meth c H locs cells slots Q (F0 m pc ls (.int i :: .ref (bb G + 2) :: rest)) := ld_at hC hw (by omega) ca_signs hin hdg kk
theorem ld_powers (hC : Cx p s m args c cc own nL G) (hw : Wd G n C H) (hn : 244 ≤ n) (hin : vp_in i 5) (hdg : decode cc pc = .ok (.iaload, 1)) (kk : W p l e R s m args below meth c H locs cells slots Q (F0 m (pc + 1) ls (.int (C 20 i.toNatClampNeg) :: rest))) : W p l e R s m args below meth c H locs cells slots Q (F0 m pc ls (.int i :: .ref (bb G + 3) :: rest)) := ld_at hC hw (by omega) ca_powers hin hdg kk
theorem ld_flues (hC : Cx p s m args c cc own nL G) (hw : Wd G n C H) (hn : 244 ≤ n) (hin : vp_in i 5) (hdg : decode cc pc = .ok (.iaload, 1)) (kk : W p l e R s m args below meth c H locs cells slots Q (F0 m (pc + 1) ls (.int (C 21 i.toNatClampNeg) :: rest))) : W p l e R s m args below meth c H locs cells slots Q (F0 m pc ls (.int i :: .ref (bb G + 4) :: rest)) := ld_at hC hw (by omega) ca_flues hin hdg kk
theorem ld_ptemps (hC : Cx p s m args c cc own nL G) (hw : Wd G n C H) (hn : 244 ≤ n) (hin : vp_in i 8) (hdg : decode cc pc = .ok (.iaload, 1)) (kk : W p l e R s m args below meth c H locs cells slots Q (F0 m (pc + 1) ls (.int (C 22 i.toNatClampNeg) :: rest))) : W p l e R s m args below meth c H locs cells slots Q (F0 m pc ls (.int i :: .ref (bb G + 5) :: rest)) := ld_at hC hw (by omega) ca_ptemps hin hdg kk
theorem ld_sett (hC : Cx p s m args c cc own nL G) (hw : Wd G n C H) (hn : 244 ≤ n) (hq : q < 18) (hin : vp_in i 6) (hdg : decode cc pc = .ok (.iaload, 1)) (kk : W p l e R s m args below meth c H locs cells slots Q (F0 m (pc + 1) ls (.int (C q i.toNatClampNeg) :: rest))) : W p l e R s m args below meth c H locs cells slots Q (F0 m pc ls (.int i :: .ref (bb G + (po q + 4)) :: rest)) := ld_at hC hw (by have := po_lt hq; omega) (ca_sett hq) hin hdg kk
theorem ld_temps (hC : Cx p s m args c cc own nL G) (hw : Wd G n C H) (hn : 244 ≤ n) (hq : q < 18) (hin : vp_in i 8) (hdg : decode cc pc = .ok (.iaload, 1)) (kk : W p l e R s m args below meth c H locs cells slots Q (F0 m (pc + 1) ls (.int (C q (22 + i.toNatClampNeg)) :: rest))) : W p l e R s m args below meth c H locs cells slots Q (F0 m pc ls (.int i :: .ref (bb G + (po q + 6)) :: rest)) := ld_at hC hw (by have := po_lt hq; omega) (ca_temps hq) hin hdg kk
theorem ld_marr {r : Nat} (hC : Cx p s m args c cc own nL G) (hw : Wd G n C H) (hn : 252 ≤ n) (hr : 31 ≤ r ∧ r ≤ 36) (hin : vp_in i (alen r)) (hdg : decode cc pc = .ok (.iaload, 1)) (kk : W p l e R s m args below meth c H locs cells slots Q (F0 m (pc + 1) ls (.int (C r i.toNatClampNeg) :: rest))) : W p l e R s m args below meth c H locs cells slots Q (F0 m pc ls (.int i :: .ref (bb G + (r + 214)) :: rest)) := ld_at hC hw (by omega) (ca_marr hr) hin hdg kk
theorem ld_kept (hC : Cx p s m args c cc own nL G) (hw : Wd G n C H) (hn : 252 ≤ n) (hin : vp_in i 2) (hdg : decode cc pc = .ok (.baload, 1)) (kk : W p l e R s m args below meth c H locs cells slots Q (F0 m (pc + 1) ls (.int (C 37 i.toNatClampNeg) :: rest))) : W p l e R s m args below meth c H locs cells slots Q (F0 m pc ls (.int i :: .ref (bb G + (37 + 214)) :: rest)) :=
  m_zald hC hw (by omega) ca_kept hin hdg (by rw [tr_lt _ (vp_lt hin)]; exact kk)
theorem ld_barr (hC : Cx p s m args c cc own nL G) (hw : Wd G n C H) (hn : 244 ≤ n) (hq : q < 18) (hin : vp_in i 5) (hdg : decode cc pc = .ok (.aaload, 1)) (kk : W p l e R s m args below meth c H locs cells slots Q (F0 m (pc + 1) ls (.ref (bb G + (po q + (8 + i.toNatClampNeg))) :: rest))) : W p l e R s m args below meth c H locs cells slots Q (F0 m pc ls (.int i :: .ref (bb G + (po q + 1)) :: rest)) :=
  m_aald hC hw (by have := po_lt hq; omega) (f := fun j => bb G + (po q + (8 + j))) (ca_barr hq) (t0 := 2) rfl hin hdg kk
theorem ld_states (hC : Cx p s m args c cc own nL G) (hw : Wd G n C H) (hn : 244 ≤ n) (hin : vp_in i 14) (hdg : decode cc pc = .ok (.aaload, 1)) (kk : W p l e R s m args below meth c H locs cells slots Q (F0 m (pc + 1) ls (.ref (bb G + po (2 + i.toNatClampNeg)) :: rest))) : W p l e R s m args below meth c H locs cells slots Q (F0 m pc ls (.int i :: .ref (bb G + 33) :: rest)) :=
  m_aald hC hw (by omega) (f := fun j => bb G + (34 + 13 * j)) ca_states (t0 := 3) rfl hin hdg (by rw [← po_hist (vp_lt hin)]; exact kk)
theorem ld_out (hC : Cx p s m args c cc own nL G) (hw : Wd G n C H) (hn : 253 ≤ n) (hdg : decode cc pc = .ok (.laload, 1)) (kk : W p l e R s m args below meth c H locs cells slots Q (F0 m (pc + 1) ls (.long ((C 40 0).toInt64) :: rest))) : W p l e R s m args below meth c H locs cells slots Q (F0 m pc ls (.int 0 :: .ref (bb G + 252) :: rest)) :=
  m_lald hC hw (by omega) ca_out (i := 0) (by unfold vp_in; decide) hdg kk
theorem st_at {a N r k : Nat} {g : Nat → Int32} (hC : Cx p s m args c cc own nL G) (hw : Wd G n C H) (hS : LW G s H locs) (ha : a < n) (he : cellAt G C a = .inl (G.2.1 0, N, .inl (tr N g))) (hin : vp_in i N) (hs : cellAt G (mu C r k x) a = .inl (G.2.1 0, N, .inl (tr N (up g i.toNatClampNeg x)))) (ho : ∀ q, q < n → q ≠ a → cellAt G (mu C r k x) q = cellAt G C q) (hdg : decode cc pc = .ok (.iastore, 1))
    (kk : ∀ (H1 : Heap) (locs1 : List Loc), Wd G n (mu C r k x) H1 → LW G s H1 locs1 → H1.size = H.size → W p l e R s m args below meth c H1 locs1 cells slots Q (F0 m (pc + 1) ls rest)) : W p l e R s m args below meth c H locs cells slots Q (F0 m pc ls (.int x :: .int i :: .ref (bb G + a) :: rest)) :=
  m_iast hC hw hS ha he hin (by rw [hs, tr_upd g x (vp_lt hin)]) ho hdg kk
theorem st_fix {a N r : Nat} (hC : Cx p s m args c cc own nL G) (hw : Wd G n C H) (hS : LW G s H locs) (ha : a < n) (hn2 : n ≤ 253) (hr : 18 ≤ r ∧ r ≠ 24) (hh : ∀ k, hmF r k = a) (he : ∀ C : Mem, cellAt G C a = .inl (G.2.1 0, N, .inl (tr N (C r)))) (hin : vp_in i N) (hdg : decode cc pc = .ok (.iastore, 1))
    (kk : ∀ (H1 : Heap) (locs1 : List Loc), Wd G n (mu C r i.toNatClampNeg x) H1 → LW G s H1 locs1 → H1.size = H.size → W p l e R s m args below meth c H1 locs1 cells slots Q (F0 m (pc + 1) ls rest)) : W p l e R s m args below meth c H locs cells slots Q (F0 m pc ls (.int x :: .int i :: .ref (bb G + a) :: rest)) :=
  st_at hC hw hS ha (he C) hin (by rw [he, mu_same]) (fun q h1 h2 => cell_muF G C x hr.1 (fun e => absurd e hr.2) q (by omega) (by rw [hh]; exact h2)) hdg kk
theorem st_powers (hC : Cx p s m args c cc own nL G) (hw : Wd G n C H) (hS : LW G s H locs) (hn : 244 ≤ n) (hn2 : n ≤ 253) (hin : vp_in i 5) (hdg : decode cc pc = .ok (.iastore, 1)) (kk : ∀ (H1 : Heap) (locs1 : List Loc), Wd G n (mu C 20 i.toNatClampNeg x) H1 → LW G s H1 locs1 → H1.size = H.size → W p l e R s m args below meth c H1 locs1 cells slots Q (F0 m (pc + 1) ls rest)) : W p l e R s m args below meth c H locs cells slots Q (F0 m pc ls (.int x :: .int i :: .ref (bb G + 3) :: rest)) := st_fix hC hw hS (by omega) hn2 (by decide) (fun _ => rfl) (fun _ => ca_powers) hin hdg kk
theorem st_flues (hC : Cx p s m args c cc own nL G) (hw : Wd G n C H) (hS : LW G s H locs) (hn : 244 ≤ n) (hn2 : n ≤ 253) (hin : vp_in i 5) (hdg : decode cc pc = .ok (.iastore, 1)) (kk : ∀ (H1 : Heap) (locs1 : List Loc), Wd G n (mu C 21 i.toNatClampNeg x) H1 → LW G s H1 locs1 → H1.size = H.size → W p l e R s m args below meth c H1 locs1 cells slots Q (F0 m (pc + 1) ls rest)) : W p l e R s m args below meth c H locs cells slots Q (F0 m pc ls (.int x :: .int i :: .ref (bb G + 4) :: rest)) := st_fix hC hw hS (by omega) hn2 (by decide) (fun _ => rfl) (fun _ => ca_flues) hin hdg kk
theorem st_signs (hC : Cx p s m args c cc own nL G) (hw : Wd G n C H) (hS : LW G s H locs) (hn : 244 ≤ n) (hn2 : n ≤ 253) (hin : vp_in i 60) (hdg : decode cc pc = .ok (.iastore, 1)) (kk : ∀ (H1 : Heap) (locs1 : List Loc), Wd G n (mu C 19 i.toNatClampNeg x) H1 → LW G s H1 locs1 → H1.size = H.size → W p l e R s m args below meth c H1 locs1 cells slots Q (F0 m (pc + 1) ls rest)) : W p l e R s m args below meth c H locs cells slots Q (F0 m pc ls (.int x :: .int i :: .ref (bb G + 2) :: rest)) := st_fix hC hw hS (by omega) hn2 (by decide) (fun _ => rfl) (fun _ => ca_signs) hin hdg kk
theorem st_ptemps (hC : Cx p s m args c cc own nL G) (hw : Wd G n C H) (hS : LW G s H locs) (hn : 6 ≤ n) (hn2 : n ≤ 253) (hin : vp_in i 8) (hdg : decode cc pc = .ok (.iastore, 1)) (kk : ∀ (H1 : Heap) (locs1 : List Loc), Wd G n (mu C 22 i.toNatClampNeg x) H1 → LW G s H1 locs1 → H1.size = H.size → W p l e R s m args below meth c H1 locs1 cells slots Q (F0 m (pc + 1) ls rest)) : W p l e R s m args below meth c H locs cells slots Q (F0 m pc ls (.int x :: .int i :: .ref (bb G + 5) :: rest)) := st_fix hC hw hS (by omega) hn2 (by decide) (fun _ => rfl) (fun _ => ca_ptemps) hin hdg kk
theorem st_marr {r : Nat} (hC : Cx p s m args c cc own nL G) (hw : Wd G n C H) (hS : LW G s H locs) (hn : 252 ≤ n) (hn2 : n ≤ 253) (hr : 31 ≤ r ∧ r ≤ 36) (hin : vp_in i (alen r)) (hdg : decode cc pc = .ok (.iastore, 1)) (kk : ∀ (H1 : Heap) (locs1 : List Loc), Wd G n (mu C r i.toNatClampNeg x) H1 → LW G s H1 locs1 → H1.size = H.size → W p l e R s m args below meth c H1 locs1 cells slots Q (F0 m (pc + 1) ls rest)) : W p l e R s m args below meth c H locs cells slots Q (F0 m pc ls (.int x :: .int i :: .ref (bb G + (r + 214)) :: rest)) :=
  st_fix hC hw hS (by omega) hn2 (by omega) (fun k => by
    unfold hmF
    rw [if_neg (by omega), if_neg (by omega), if_neg (by omega), if_neg (by omega), if_neg (by omega), if_neg (by omega), if_neg (by omega), if_neg (by omega), if_neg (by omega)]) (fun _ => ca_marr hr) hin hdg kk
theorem st_sett (hC : Cx p s m args c cc own nL G) (hw : Wd G n C H) (hS : LW G s H locs) (hn : 244 ≤ n) (hq : q < 18) (hin : vp_in i 6) (hdg : decode cc pc = .ok (.iastore, 1)) (kk : ∀ (H1 : Heap) (locs1 : List Loc), Wd G n (mu C q i.toNatClampNeg x) H1 → LW G s H1 locs1 → H1.size = H.size → W p l e R s m args below meth c H1 locs1 cells slots Q (F0 m (pc + 1) ls rest)) : W p l e R s m args below meth c H locs cells slots Q (F0 m pc ls (.int x :: .int i :: .ref (bb G + (po q + 4)) :: rest)) :=
  st_at hC hw hS (by have := po_lt hq; omega) (ca_sett hq) hin (by rw [ca_sett hq, mu_same]) (fun a h1 h2 => cell_muP G C x hq (by have := vp_lt hin; omega) a (by rw [hm_sett (vp_lt hin)]; exact h2)) hdg kk
theorem st_temps (hC : Cx p s m args c cc own nL G) (hw : Wd G n C H) (hS : LW G s H locs) (hn : 244 ≤ n) (hq : q < 18) (hin : vp_in i 8) (hdg : decode cc pc = .ok (.iastore, 1)) (kk : ∀ (H1 : Heap) (locs1 : List Loc), Wd G n (mu C q (22 + i.toNatClampNeg) x) H1 → LW G s H1 locs1 → H1.size = H.size → W p l e R s m args below meth c H1 locs1 cells slots Q (F0 m (pc + 1) ls rest)) : W p l e R s m args below meth c H locs cells slots Q (F0 m pc ls (.int x :: .int i :: .ref (bb G + (po q + 6)) :: rest)) :=
  m_iast hC hw hS (by have := po_lt hq; omega) (ca_temps hq) hin (by rw [ca_temps hq, mu_same]; rw [tr_updS (C q) x (vp_lt hin)]) (fun a h1 h2 => cell_muP G C x hq (by have := vp_lt hin; omega) a (by rw [hm_temps (vp_lt hin)]; exact h2)) hdg kk
theorem st_kept (hC : Cx p s m args c cc own nL G) (hw : Wd G n C H) (hS : LW G s H locs) (hn : 252 ≤ n) (hn2 : n ≤ 253) (hin : vp_in i 2) (hv : x = 0 ∨ x = 1) (hdg : decode cc pc = .ok (.bastore, 1)) (kk : ∀ (H1 : Heap) (locs1 : List Loc), Wd G n (mu C 37 i.toNatClampNeg x) H1 → LW G s H1 locs1 → H1.size = H.size → W p l e R s m args below meth c H1 locs1 cells slots Q (F0 m (pc + 1) ls rest)) : W p l e R s m args below meth c H locs cells slots Q (F0 m pc ls (.int x :: .int i :: .ref (bb G + (37 + 214)) :: rest)) := by
  obtain ⟨hx, hb, -, hown, hts, hT, -⟩ := hC
  refine W.zast hx hb (hw.one (by omega) ca_kept 0 _ rfl) ((hT.1.2 1 _ rfl).1 2 (fun j => .int (tr 2 (C 37) j))) (fun q => by cases q) (by show ¬ (i < 0 ∨ (arrV _ _ _).slots.size ≤ _); rw [arrV_size]; exact hin) rfl rfl hdg fun H1 e1 z oq => ?_
  rw [z_nar hv] at e1
  refine kk H1 _ (hw.put z oq ?_ (fun q h1 h2 => cell_muF G C x (by decide) (fun e => absurd e (by decide)) q (by omega) h2)) (hS.put z oq (Nat.le_add_right _ _)) z
  show H1[_]? = some (vp_cell _ (2, .inl (tr 2 (mu C 37 i.toNatClampNeg x 37))))
  rw [e1, vp_cell_i, vp_cell_i, arrV_store]
  congr 2
  funext q
  rw [mu_same, ← tr_upd (C 37) x (vp_lt hin)]
  by_cases hq : q = i.toNatClampNeg
  · subst hq
    simp [updV, upd]
  · simp [updV, upd, hq]
theorem st_out (hC : Cx p s m args c cc own nL G) (hw : Wd G n C H) (hS : LW G s H locs) (hn : n = 253) (hdg : decode cc pc = .ok (.lastore, 1)) (kk : ∀ (H1 : Heap) (locs1 : List Loc), Wd G n (mu C 40 0 x) H1 → LW G s H1 locs1 → H1.size = H.size → W p l e R s m args below meth c H1 locs1 cells slots Q (F0 m (pc + 1) ls rest)) : W p l e R s m args below meth c H locs cells slots Q (F0 m pc ls (.long x.toInt64 :: .int 0 :: .ref (bb G + 252) :: rest)) := by
  obtain ⟨hx, hb, -, hown, hts, hT, -⟩ := hC
  refine W.last hx hb (hw.one (by omega) ca_out 0 _ rfl) ((hT.1.2 4 _ rfl).1 1 (fun j => .long (tr 1 (C 40) j).toInt64)) (fun q => by cases q) (by show ¬ ((0 : Int32) < 0 ∨ (arrV _ _ _).slots.size ≤ _); rw [arrV_size]; show ¬ ((0 : Int32) < 0 ∨ 1 ≤ Int32.toNatClampNeg 0); decide) rfl rfl hdg fun H1 e1 z oq => ?_
  refine kk H1 _ (hw.put z oq ?_ (fun q h1 h2 => cell_muF G C x (by decide) (fun e => absurd e (by decide)) q (by omega) h2)) (hS.put z oq (Nat.le_add_right _ _)) z
  show H1[_]? = some (vp_cell _ (1, .inr (.inl (fun j => (tr 1 (mu C 40 0 x 40) j).toInt64))))
  rw [e1, vp_cell_l, vp_cell_l, arrV_store]
  congr 2
  funext q
  rw [mu_same, ← tr_upd (C 40) x (by decide)]
  by_cases hq : q = 0
  · subst hq
    rfl
  · simp only [updV, upd]
    rw [if_neg (by simpa using hq), if_neg (by simpa using hq)]
end AR
end
