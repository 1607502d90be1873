theorem dX0_init_0 : decode cX0_init 0 = .ok (.aload_n 0, 1) := by decide +kernel
theorem dX0_init_1 : decode cX0_init 1 = .ok (.invokespecial 3, 3) := by decide +kernel
theorem dX0_init_4 : decode cX0_init 4 = .ok (.return_, 1) := by decide +kernel
theorem dX0_beginAs_0 : decode cX0_beginAs 0 = .ok (.aload_n 0, 1) := by decide +kernel
theorem dX0_beginAs_1 : decode cX0_beginAs 1 = .ok (.iload_n 1, 1) := by decide +kernel
theorem dX0_beginAs_2 : decode cX0_beginAs 2 = .ok (.putfield 9, 3) := by decide +kernel
theorem dX0_beginAs_5 : decode cX0_beginAs 5 = .ok (.aload_n 0, 1) := by decide +kernel
theorem dX0_beginAs_6 : decode cX0_beginAs 6 = .ok (.iload_n 2, 1) := by decide +kernel
theorem dX0_beginAs_7 : decode cX0_beginAs 7 = .ok (.putfield 15, 3) := by decide +kernel
theorem dX0_beginAs_10 : decode cX0_beginAs 10 = .ok (.aload_n 0, 1) := by decide +kernel
theorem dX0_beginAs_11 : decode cX0_beginAs 11 = .ok (.iconst 0, 1) := by decide +kernel
theorem dX0_beginAs_12 : decode cX0_beginAs 12 = .ok (.putfield 18, 3) := by decide +kernel
theorem dX0_beginAs_15 : decode cX0_beginAs 15 = .ok (.aload_n 0, 1) := by decide +kernel
theorem dX0_beginAs_16 : decode cX0_beginAs 16 = .ok (.iconst 0, 1) := by decide +kernel
theorem dX0_beginAs_17 : decode cX0_beginAs 17 = .ok (.putfield 21, 3) := by decide +kernel
theorem dX0_beginAs_20 : decode cX0_beginAs 20 = .ok (.aload_n 0, 1) := by decide +kernel
theorem dX0_beginAs_21 : decode cX0_beginAs 21 = .ok (.iconst 0, 1) := by decide +kernel
theorem dX0_beginAs_22 : decode cX0_beginAs 22 = .ok (.putfield 24, 3) := by decide +kernel
theorem dX0_beginAs_25 : decode cX0_beginAs 25 = .ok (.aload_n 0, 1) := by decide +kernel
theorem dX0_beginAs_26 : decode cX0_beginAs 26 = .ok (.iconst 0, 1) := by decide +kernel
theorem dX0_beginAs_27 : decode cX0_beginAs 27 = .ok (.putfield 27, 3) := by decide +kernel
theorem dX0_beginAs_30 : decode cX0_beginAs 30 = .ok (.aload_n 0, 1) := by decide +kernel
theorem dX0_beginAs_31 : decode cX0_beginAs 31 = .ok (.iconst 0, 1) := by decide +kernel
theorem dX0_beginAs_32 : decode cX0_beginAs 32 = .ok (.putfield 30, 3) := by decide +kernel
theorem dX0_beginAs_35 : decode cX0_beginAs 35 = .ok (.return_, 1) := by decide +kernel
theorem dX0_copyFrom_0 : decode cX0_copyFrom 0 = .ok (.aload_n 0, 1) := by decide +kernel
theorem dX0_copyFrom_1 : decode cX0_copyFrom 1 = .ok (.aload_n 1, 1) := by decide +kernel
theorem dX0_copyFrom_2 : decode cX0_copyFrom 2 = .ok (.getfield 9, 3) := by decide +kernel
theorem dX0_copyFrom_5 : decode cX0_copyFrom 5 = .ok (.putfield 9, 3) := by decide +kernel
theorem dX0_copyFrom_8 : decode cX0_copyFrom 8 = .ok (.aload_n 0, 1) := by decide +kernel
theorem dX0_copyFrom_9 : decode cX0_copyFrom 9 = .ok (.aload_n 1, 1) := by decide +kernel
theorem dX0_copyFrom_10 : decode cX0_copyFrom 10 = .ok (.getfield 15, 3) := by decide +kernel
theorem dX0_copyFrom_13 : decode cX0_copyFrom 13 = .ok (.putfield 15, 3) := by decide +kernel
theorem dX0_copyFrom_16 : decode cX0_copyFrom 16 = .ok (.aload_n 0, 1) := by decide +kernel
theorem dX0_copyFrom_17 : decode cX0_copyFrom 17 = .ok (.aload_n 1, 1) := by decide +kernel
theorem dX0_copyFrom_18 : decode cX0_copyFrom 18 = .ok (.getfield 18, 3) := by decide +kernel
theorem dX0_copyFrom_21 : decode cX0_copyFrom 21 = .ok (.putfield 18, 3) := by decide +kernel
theorem dX0_copyFrom_24 : decode cX0_copyFrom 24 = .ok (.aload_n 0, 1) := by decide +kernel
theorem dX0_copyFrom_25 : decode cX0_copyFrom 25 = .ok (.aload_n 1, 1) := by decide +kernel
theorem dX0_copyFrom_26 : decode cX0_copyFrom 26 = .ok (.getfield 21, 3) := by decide +kernel
theorem dX0_copyFrom_29 : decode cX0_copyFrom 29 = .ok (.putfield 21, 3) := by decide +kernel
theorem dX0_copyFrom_32 : decode cX0_copyFrom 32 = .ok (.aload_n 0, 1) := by decide +kernel
theorem dX0_copyFrom_33 : decode cX0_copyFrom 33 = .ok (.aload_n 1, 1) := by decide +kernel
theorem dX0_copyFrom_34 : decode cX0_copyFrom 34 = .ok (.getfield 24, 3) := by decide +kernel
theorem dX0_copyFrom_37 : decode cX0_copyFrom 37 = .ok (.putfield 24, 3) := by decide +kernel
theorem dX0_copyFrom_40 : decode cX0_copyFrom 40 = .ok (.aload_n 0, 1) := by decide +kernel
theorem dX0_copyFrom_41 : decode cX0_copyFrom 41 = .ok (.aload_n 1, 1) := by decide +kernel
theorem dX0_copyFrom_42 : decode cX0_copyFrom 42 = .ok (.getfield 27, 3) := by decide +kernel
theorem dX0_copyFrom_45 : decode cX0_copyFrom 45 = .ok (.putfield 27, 3) := by decide +kernel
theorem dX0_copyFrom_48 : decode cX0_copyFrom 48 = .ok (.aload_n 0, 1) := by decide +kernel
theorem dX0_copyFrom_49 : decode cX0_copyFrom 49 = .ok (.aload_n 1, 1) := by decide +kernel
theorem dX0_copyFrom_50 : decode cX0_copyFrom 50 = .ok (.getfield 30, 3) := by decide +kernel
theorem dX0_copyFrom_53 : decode cX0_copyFrom 53 = .ok (.putfield 30, 3) := by decide +kernel
theorem dX0_copyFrom_56 : decode cX0_copyFrom 56 = .ok (.return_, 1) := by decide +kernel
theorem dX0_waits_0 : decode cX0_waits 0 = .ok (.aload_n 0, 1) := by decide +kernel
theorem dX0_waits_1 : decode cX0_waits 1 = .ok (.getfield 18, 3) := by decide +kernel
theorem dX0_waits_4 : decode cX0_waits 4 = .ok (.ifCond .eq 11, 3) := by decide +kernel
theorem dX0_waits_7 : decode cX0_waits 7 = .ok (.aload_n 0, 1) := by decide +kernel
theorem dX0_waits_8 : decode cX0_waits 8 = .ok (.getfield 18, 3) := by decide +kernel
theorem dX0_waits_11 : decode cX0_waits 11 = .ok (.iconst 3, 1) := by decide +kernel
theorem dX0_waits_12 : decode cX0_waits 12 = .ok (.if_icmp .ne 7, 3) := by decide +kernel
theorem dX0_waits_15 : decode cX0_waits 15 = .ok (.iconst 1, 1) := by decide +kernel
theorem dX0_waits_16 : decode cX0_waits 16 = .ok (.goto 4, 3) := by decide +kernel
theorem dX0_waits_19 : decode cX0_waits 19 = .ok (.iconst 0, 1) := by decide +kernel
theorem dX0_waits_20 : decode cX0_waits 20 = .ok (.ireturn, 1) := by decide +kernel
theorem dX0_start_0 : decode cX0_start 0 = .ok (.aload_n 0, 1) := by decide +kernel
theorem dX0_start_1 : decode cX0_start 1 = .ok (.getfield 18, 3) := by decide +kernel
theorem dX0_start_4 : decode cX0_start 4 = .ok (.iconst 3, 1) := by decide +kernel
theorem dX0_start_5 : decode cX0_start 5 = .ok (.if_icmp .ne 11, 3) := by decide +kernel
theorem dX0_start_8 : decode cX0_start 8 = .ok (.aload_n 0, 1) := by decide +kernel
theorem dX0_start_9 : decode cX0_start 9 = .ok (.iconst 2, 1) := by decide +kernel
theorem dX0_start_10 : decode cX0_start 10 = .ok (.putfield 18, 3) := by decide +kernel
theorem dX0_start_13 : decode cX0_start 13 = .ok (.goto 13, 3) := by decide +kernel
theorem dX0_start_16 : decode cX0_start 16 = .ok (.aload_n 0, 1) := by decide +kernel
theorem dX0_start_17 : decode cX0_start 17 = .ok (.iconst 1, 1) := by decide +kernel
theorem dX0_start_18 : decode cX0_start 18 = .ok (.putfield 18, 3) := by decide +kernel
theorem dX0_start_21 : decode cX0_start 21 = .ok (.aload_n 0, 1) := by decide +kernel
theorem dX0_start_22 : decode cX0_start 22 = .ok (.iload_n 1, 1) := by decide +kernel
theorem dX0_start_23 : decode cX0_start 23 = .ok (.putfield 21, 3) := by decide +kernel
theorem dX0_start_26 : decode cX0_start 26 = .ok (.aload_n 0, 1) := by decide +kernel
theorem dX0_start_27 : decode cX0_start 27 = .ok (.dup, 1) := by decide +kernel
theorem dX0_start_28 : decode cX0_start 28 = .ok (.getfield 27, 3) := by decide +kernel
theorem dX0_start_31 : decode cX0_start 31 = .ok (.iconst 1, 1) := by decide +kernel
theorem dX0_start_32 : decode cX0_start 32 = .ok (.iadd, 1) := by decide +kernel
theorem dX0_start_33 : decode cX0_start 33 = .ok (.putfield 27, 3) := by decide +kernel
theorem dX0_start_36 : decode cX0_start 36 = .ok (.return_, 1) := by decide +kernel
theorem dX0_leaveFor_0 : decode cX0_leaveFor 0 = .ok (.aload_n 0, 1) := by decide +kernel
theorem dX0_leaveFor_1 : decode cX0_leaveFor 1 = .ok (.iload_n 1, 1) := by decide +kernel
theorem dX0_leaveFor_2 : decode cX0_leaveFor 2 = .ok (.putfield 18, 3) := by decide +kernel
theorem dX0_leaveFor_5 : decode cX0_leaveFor 5 = .ok (.aload_n 0, 1) := by decide +kernel
theorem dX0_leaveFor_6 : decode cX0_leaveFor 6 = .ok (.iconst 0, 1) := by decide +kernel
theorem dX0_leaveFor_7 : decode cX0_leaveFor 7 = .ok (.putfield 21, 3) := by decide +kernel
theorem dX0_leaveFor_10 : decode cX0_leaveFor 10 = .ok (.return_, 1) := by decide +kernel
theorem dX0_work_0 : decode cX0_work 0 = .ok (.aload_n 0, 1) := by decide +kernel
theorem dX0_work_1 : decode cX0_work 1 = .ok (.getfield 18, 3) := by decide +kernel
theorem dX0_work_4 : decode cX0_work 4 = .ok (.tableswitch 92 1 3 #[28, 52, 80], 28) := by decide +kernel
theorem dX0_work_32 : decode cX0_work 32 = .ok (.aload_n 0, 1) := by decide +kernel
theorem dX0_work_33 : decode cX0_work 33 = .ok (.dup, 1) := by decide +kernel
theorem dX0_work_34 : decode cX0_work 34 = .ok (.getfield 21, 3) := by decide +kernel
theorem dX0_work_37 : decode cX0_work 37 = .ok (.iconst 1, 1) := by decide +kernel
theorem dX0_work_38 : decode cX0_work 38 = .ok (.isub, 1) := by decide +kernel
theorem dX0_work_39 : decode cX0_work 39 = .ok (.putfield 21, 3) := by decide +kernel
theorem dX0_work_42 : decode cX0_work 42 = .ok (.aload_n 0, 1) := by decide +kernel
theorem dX0_work_43 : decode cX0_work 43 = .ok (.getfield 21, 3) := by decide +kernel
theorem dX0_work_46 : decode cX0_work 46 = .ok (.ifCond .gt 8, 3) := by decide +kernel
theorem dX0_work_49 : decode cX0_work 49 = .ok (.aload_n 0, 1) := by decide +kernel
theorem dX0_work_50 : decode cX0_work 50 = .ok (.iconst 2, 1) := by decide +kernel
theorem dX0_work_51 : decode cX0_work 51 = .ok (.invokevirtual 33, 3) := by decide +kernel
theorem dX0_work_54 : decode cX0_work 54 = .ok (.iconst 0, 1) := by decide +kernel
theorem dX0_work_55 : decode cX0_work 55 = .ok (.ireturn, 1) := by decide +kernel
theorem dX0_work_56 : decode cX0_work 56 = .ok (.aload_n 0, 1) := by decide +kernel
theorem dX0_work_57 : decode cX0_work 57 = .ok (.dup, 1) := by decide +kernel
theorem dX0_work_58 : decode cX0_work 58 = .ok (.getfield 24, 3) := by decide +kernel
theorem dX0_work_61 : decode cX0_work 61 = .ok (.iconst 1, 1) := by decide +kernel
theorem dX0_work_62 : decode cX0_work 62 = .ok (.iadd, 1) := by decide +kernel
theorem dX0_work_63 : decode cX0_work 63 = .ok (.putfield 24, 3) := by decide +kernel
theorem dX0_work_66 : decode cX0_work 66 = .ok (.aload_n 0, 1) := by decide +kernel
theorem dX0_work_67 : decode cX0_work 67 = .ok (.dup, 1) := by decide +kernel
theorem dX0_work_68 : decode cX0_work 68 = .ok (.getfield 30, 3) := by decide +kernel
theorem dX0_work_71 : decode cX0_work 71 = .ok (.aload_n 0, 1) := by decide +kernel
theorem dX0_work_72 : decode cX0_work 72 = .ok (.getfield 9, 3) := by decide +kernel
theorem dX0_work_75 : decode cX0_work 75 = .ok (.iadd, 1) := by decide +kernel
theorem dX0_work_76 : decode cX0_work 76 = .ok (.putfield 30, 3) := by decide +kernel
theorem dX0_work_79 : decode cX0_work 79 = .ok (.aload_n 0, 1) := by decide +kernel
theorem dX0_work_80 : decode cX0_work 80 = .ok (.getfield 9, 3) := by decide +kernel
theorem dX0_work_83 : decode cX0_work 83 = .ok (.ireturn, 1) := by decide +kernel
theorem dX0_work_84 : decode cX0_work 84 = .ok (.aload_n 0, 1) := by decide +kernel
theorem dX0_work_85 : decode cX0_work 85 = .ok (.dup, 1) := by decide +kernel
theorem dX0_work_86 : decode cX0_work 86 = .ok (.getfield 30, 3) := by decide +kernel
theorem dX0_work_89 : decode cX0_work 89 = .ok (.iconst 1, 1) := by decide +kernel
theorem dX0_work_90 : decode cX0_work 90 = .ok (.iadd, 1) := by decide +kernel
theorem dX0_work_91 : decode cX0_work 91 = .ok (.putfield 30, 3) := by decide +kernel
theorem dX0_work_94 : decode cX0_work 94 = .ok (.iconst 0, 1) := by decide +kernel
theorem dX0_work_95 : decode cX0_work 95 = .ok (.ireturn, 1) := by decide +kernel
theorem dX0_work_96 : decode cX0_work 96 = .ok (.iconst 0, 1) := by decide +kernel
theorem dX0_work_97 : decode cX0_work 97 = .ok (.ireturn, 1) := by decide +kernel
theorem dX1_init_0 : decode cX1_init 0 = .ok (.aload_n 0, 1) := by decide +kernel
theorem dX1_init_1 : decode cX1_init 1 = .ok (.invokespecial 1, 3) := by decide +kernel
theorem dX1_init_4 : decode cX1_init 4 = .ok (.return_, 1) := by decide +kernel
theorem dX1_beginAs_0 : decode cX1_beginAs 0 = .ok (.aload_n 0, 1) := by decide +kernel
theorem dX1_beginAs_1 : decode cX1_beginAs 1 = .ok (.iload_n 1, 1) := by decide +kernel
theorem dX1_beginAs_2 : decode cX1_beginAs 2 = .ok (.putfield 7, 3) := by decide +kernel
theorem dX1_beginAs_5 : decode cX1_beginAs 5 = .ok (.aload_n 0, 1) := by decide +kernel
theorem dX1_beginAs_6 : decode cX1_beginAs 6 = .ok (.iconst 1, 1) := by decide +kernel
theorem dX1_beginAs_7 : decode cX1_beginAs 7 = .ok (.putfield 13, 3) := by decide +kernel
theorem dX1_beginAs_10 : decode cX1_beginAs 10 = .ok (.return_, 1) := by decide +kernel
theorem dX1_copyFrom_0 : decode cX1_copyFrom 0 = .ok (.aload_n 0, 1) := by decide +kernel
theorem dX1_copyFrom_1 : decode cX1_copyFrom 1 = .ok (.aload_n 1, 1) := by decide +kernel
theorem dX1_copyFrom_2 : decode cX1_copyFrom 2 = .ok (.getfield 7, 3) := by decide +kernel
theorem dX1_copyFrom_5 : decode cX1_copyFrom 5 = .ok (.putfield 7, 3) := by decide +kernel
theorem dX1_copyFrom_8 : decode cX1_copyFrom 8 = .ok (.aload_n 0, 1) := by decide +kernel
theorem dX1_copyFrom_9 : decode cX1_copyFrom 9 = .ok (.aload_n 1, 1) := by decide +kernel
theorem dX1_copyFrom_10 : decode cX1_copyFrom 10 = .ok (.getfield 13, 3) := by decide +kernel
theorem dX1_copyFrom_13 : decode cX1_copyFrom 13 = .ok (.putfield 13, 3) := by decide +kernel
theorem dX1_copyFrom_16 : decode cX1_copyFrom 16 = .ok (.return_, 1) := by decide +kernel
theorem dX2_init_0 : decode cX2_init 0 = .ok (.aload_n 0, 1) := by decide +kernel
theorem dX2_init_1 : decode cX2_init 1 = .ok (.invokespecial 3, 3) := by decide +kernel
theorem dX2_init_4 : decode cX2_init 4 = .ok (.aload_n 0, 1) := by decide +kernel
theorem dX2_init_5 : decode cX2_init 5 = .ok (.bipush 14, 2) := by decide +kernel
theorem dX2_init_7 : decode cX2_init 7 = .ok (.anewarray 9, 3) := by decide +kernel
theorem dX2_init_10 : decode cX2_init 10 = .ok (.putfield 11, 3) := by decide +kernel
theorem dX2_init_13 : decode cX2_init 13 = .ok (.iconst 0, 1) := by decide +kernel
theorem dX2_init_14 : decode cX2_init 14 = .ok (.istore_n 1, 1) := by decide +kernel
theorem dX2_init_15 : decode cX2_init 15 = .ok (.iload_n 1, 1) := by decide +kernel
theorem dX2_init_16 : decode cX2_init 16 = .ok (.aload_n 0, 1) := by decide +kernel
theorem dX2_init_17 : decode cX2_init 17 = .ok (.getfield 11, 3) := by decide +kernel
theorem dX2_init_20 : decode cX2_init 20 = .ok (.arraylength, 1) := by decide +kernel
theorem dX2_init_21 : decode cX2_init 21 = .ok (.if_icmp .ge 22, 3) := by decide +kernel
theorem dX2_init_24 : decode cX2_init 24 = .ok (.aload_n 0, 1) := by decide +kernel
theorem dX2_init_25 : decode cX2_init 25 = .ok (.getfield 11, 3) := by decide +kernel
theorem dX2_init_28 : decode cX2_init 28 = .ok (.iload_n 1, 1) := by decide +kernel
theorem dX2_init_29 : decode cX2_init 29 = .ok (.new 9, 3) := by decide +kernel
theorem dX2_init_32 : decode cX2_init 32 = .ok (.dup, 1) := by decide +kernel
theorem dX2_init_33 : decode cX2_init 33 = .ok (.invokespecial 17, 3) := by decide +kernel
theorem dX2_init_36 : decode cX2_init 36 = .ok (.aastore, 1) := by decide +kernel
theorem dX2_init_37 : decode cX2_init 37 = .ok (.iinc 1 1, 3) := by decide +kernel
theorem dX2_init_40 : decode cX2_init 40 = .ok (.goto (-25), 3) := by decide +kernel
theorem dX2_init_43 : decode cX2_init 43 = .ok (.return_, 1) := by decide +kernel
theorem dX2_forgetAll_0 : decode cX2_forgetAll 0 = .ok (.aload_n 0, 1) := by decide +kernel
theorem dX2_forgetAll_1 : decode cX2_forgetAll 1 = .ok (.iconst 0, 1) := by decide +kernel
theorem dX2_forgetAll_2 : decode cX2_forgetAll 2 = .ok (.putfield 18, 3) := by decide +kernel
theorem dX2_forgetAll_5 : decode cX2_forgetAll 5 = .ok (.return_, 1) := by decide +kernel
theorem dX2_remember_0 : decode cX2_remember 0 = .ok (.aload_n 0, 1) := by decide +kernel
theorem dX2_remember_1 : decode cX2_remember 1 = .ok (.getfield 22, 3) := by decide +kernel
theorem dX2_remember_4 : decode cX2_remember 4 = .ok (.aload_n 0, 1) := by decide +kernel
theorem dX2_remember_5 : decode cX2_remember 5 = .ok (.getfield 11, 3) := by decide +kernel
theorem dX2_remember_8 : decode cX2_remember 8 = .ok (.arraylength, 1) := by decide +kernel
theorem dX2_remember_9 : decode cX2_remember 9 = .ok (.if_icmp .lt 8, 3) := by decide +kernel
theorem dX2_remember_12 : decode cX2_remember 12 = .ok (.aload_n 0, 1) := by decide +kernel
theorem dX2_remember_13 : decode cX2_remember 13 = .ok (.iconst 0, 1) := by decide +kernel
theorem dX2_remember_14 : decode cX2_remember 14 = .ok (.putfield 22, 3) := by decide +kernel
theorem dX2_remember_17 : decode cX2_remember 17 = .ok (.aload_n 0, 1) := by decide +kernel
theorem dX2_remember_18 : decode cX2_remember 18 = .ok (.getfield 11, 3) := by decide +kernel
theorem dX2_remember_21 : decode cX2_remember 21 = .ok (.aload_n 0, 1) := by decide +kernel
theorem dX2_remember_22 : decode cX2_remember 22 = .ok (.getfield 22, 3) := by decide +kernel
theorem dX2_remember_25 : decode cX2_remember 25 = .ok (.aaload, 1) := by decide +kernel
theorem dX2_remember_26 : decode cX2_remember 26 = .ok (.aload_n 1, 1) := by decide +kernel
theorem dX2_remember_27 : decode cX2_remember 27 = .ok (.invokevirtual 25, 3) := by decide +kernel
theorem dX2_remember_30 : decode cX2_remember 30 = .ok (.aload_n 0, 1) := by decide +kernel
theorem dX2_remember_31 : decode cX2_remember 31 = .ok (.dup, 1) := by decide +kernel
theorem dX2_remember_32 : decode cX2_remember 32 = .ok (.getfield 22, 3) := by decide +kernel
theorem dX2_remember_35 : decode cX2_remember 35 = .ok (.iconst 1, 1) := by decide +kernel
theorem dX2_remember_36 : decode cX2_remember 36 = .ok (.iadd, 1) := by decide +kernel
theorem dX2_remember_37 : decode cX2_remember 37 = .ok (.putfield 22, 3) := by decide +kernel
theorem dX2_remember_40 : decode cX2_remember 40 = .ok (.aload_n 0, 1) := by decide +kernel
theorem dX2_remember_41 : decode cX2_remember 41 = .ok (.aload_n 0, 1) := by decide +kernel
theorem dX2_remember_42 : decode cX2_remember 42 = .ok (.getfield 18, 3) := by decide +kernel
theorem dX2_remember_45 : decode cX2_remember 45 = .ok (.iconst 1, 1) := by decide +kernel
theorem dX2_remember_46 : decode cX2_remember 46 = .ok (.iadd, 1) := by decide +kernel
theorem dX2_remember_47 : decode cX2_remember 47 = .ok (.aload_n 0, 1) := by decide +kernel
theorem dX2_remember_48 : decode cX2_remember 48 = .ok (.getfield 11, 3) := by decide +kernel
theorem dX2_remember_51 : decode cX2_remember 51 = .ok (.arraylength, 1) := by decide +kernel
theorem dX2_remember_52 : decode cX2_remember 52 = .ok (.invokestatic 29, 3) := by decide +kernel
theorem dX2_remember_55 : decode cX2_remember 55 = .ok (.putfield 18, 3) := by decide +kernel
theorem dX2_remember_58 : decode cX2_remember 58 = .ok (.return_, 1) := by decide +kernel
theorem dX2_takeBackInto_0 : decode cX2_takeBackInto 0 = .ok (.aload_n 0, 1) := by decide +kernel
theorem dX2_takeBackInto_1 : decode cX2_takeBackInto 1 = .ok (.getfield 18, 3) := by decide +kernel
theorem dX2_takeBackInto_4 : decode cX2_takeBackInto 4 = .ok (.ifCond .gt 5, 3) := by decide +kernel
theorem dX2_takeBackInto_7 : decode cX2_takeBackInto 7 = .ok (.iconst 0, 1) := by decide +kernel
theorem dX2_takeBackInto_8 : decode cX2_takeBackInto 8 = .ok (.ireturn, 1) := by decide +kernel
theorem dX2_takeBackInto_9 : decode cX2_takeBackInto 9 = .ok (.aload_n 0, 1) := by decide +kernel
theorem dX2_takeBackInto_10 : decode cX2_takeBackInto 10 = .ok (.aload_n 0, 1) := by decide +kernel
theorem dX2_takeBackInto_11 : decode cX2_takeBackInto 11 = .ok (.getfield 22, 3) := by decide +kernel
theorem dX2_takeBackInto_14 : decode cX2_takeBackInto 14 = .ok (.ifCond .le 12, 3) := by decide +kernel
theorem dX2_takeBackInto_17 : decode cX2_takeBackInto 17 = .ok (.aload_n 0, 1) := by decide +kernel
theorem dX2_takeBackInto_18 : decode cX2_takeBackInto 18 = .ok (.getfield 22, 3) := by decide +kernel
theorem dX2_takeBackInto_21 : decode cX2_takeBackInto 21 = .ok (.iconst 1, 1) := by decide +kernel
theorem dX2_takeBackInto_22 : decode cX2_takeBackInto 22 = .ok (.isub, 1) := by decide +kernel
theorem dX2_takeBackInto_23 : decode cX2_takeBackInto 23 = .ok (.goto 10, 3) := by decide +kernel
theorem dX2_takeBackInto_26 : decode cX2_takeBackInto 26 = .ok (.aload_n 0, 1) := by decide +kernel
theorem dX2_takeBackInto_27 : decode cX2_takeBackInto 27 = .ok (.getfield 11, 3) := by decide +kernel
theorem dX2_takeBackInto_30 : decode cX2_takeBackInto 30 = .ok (.arraylength, 1) := by decide +kernel
theorem dX2_takeBackInto_31 : decode cX2_takeBackInto 31 = .ok (.iconst 1, 1) := by decide +kernel
theorem dX2_takeBackInto_32 : decode cX2_takeBackInto 32 = .ok (.isub, 1) := by decide +kernel
theorem dX2_takeBackInto_33 : decode cX2_takeBackInto 33 = .ok (.putfield 22, 3) := by decide +kernel
theorem dX2_takeBackInto_36 : decode cX2_takeBackInto 36 = .ok (.aload_n 1, 1) := by decide +kernel
theorem dX2_takeBackInto_37 : decode cX2_takeBackInto 37 = .ok (.aload_n 0, 1) := by decide +kernel
theorem dX2_takeBackInto_38 : decode cX2_takeBackInto 38 = .ok (.getfield 11, 3) := by decide +kernel
theorem dX2_takeBackInto_41 : decode cX2_takeBackInto 41 = .ok (.aload_n 0, 1) := by decide +kernel
theorem dX2_takeBackInto_42 : decode cX2_takeBackInto 42 = .ok (.getfield 22, 3) := by decide +kernel
theorem dX2_takeBackInto_45 : decode cX2_takeBackInto 45 = .ok (.aaload, 1) := by decide +kernel
theorem dX2_takeBackInto_46 : decode cX2_takeBackInto 46 = .ok (.invokevirtual 25, 3) := by decide +kernel
theorem dX2_takeBackInto_49 : decode cX2_takeBackInto 49 = .ok (.aload_n 0, 1) := by decide +kernel
theorem dX2_takeBackInto_50 : decode cX2_takeBackInto 50 = .ok (.dup, 1) := by decide +kernel
theorem dX2_takeBackInto_51 : decode cX2_takeBackInto 51 = .ok (.getfield 18, 3) := by decide +kernel
theorem dX2_takeBackInto_54 : decode cX2_takeBackInto 54 = .ok (.iconst 1, 1) := by decide +kernel
theorem dX2_takeBackInto_55 : decode cX2_takeBackInto 55 = .ok (.isub, 1) := by decide +kernel
theorem dX2_takeBackInto_56 : decode cX2_takeBackInto 56 = .ok (.putfield 18, 3) := by decide +kernel
theorem dX2_takeBackInto_59 : decode cX2_takeBackInto 59 = .ok (.iconst 1, 1) := by decide +kernel
theorem dX2_takeBackInto_60 : decode cX2_takeBackInto 60 = .ok (.ireturn, 1) := by decide +kernel
theorem dX3_init_0 : decode cX3_init 0 = .ok (.aload_n 0, 1) := by decide +kernel
theorem dX3_init_1 : decode cX3_init 1 = .ok (.invokespecial 3, 3) := by decide +kernel
theorem dX3_init_4 : decode cX3_init 4 = .ok (.return_, 1) := by decide +kernel
theorem dX3_beginAsNew_0 : decode cX3_beginAsNew 0 = .ok (.aload_n 0, 1) := by decide +kernel
theorem dX3_beginAsNew_1 : decode cX3_beginAsNew 1 = .ok (.iconst 0, 1) := by decide +kernel
theorem dX3_beginAsNew_2 : decode cX3_beginAsNew 2 = .ok (.putfield 9, 3) := by decide +kernel
theorem dX3_beginAsNew_5 : decode cX3_beginAsNew 5 = .ok (.aload_n 0, 1) := by decide +kernel
theorem dX3_beginAsNew_6 : decode cX3_beginAsNew 6 = .ok (.iconst 0, 1) := by decide +kernel
theorem dX3_beginAsNew_7 : decode cX3_beginAsNew 7 = .ok (.putfield 15, 3) := by decide +kernel
theorem dX3_beginAsNew_10 : decode cX3_beginAsNew 10 = .ok (.aload_n 0, 1) := by decide +kernel
theorem dX3_beginAsNew_11 : decode cX3_beginAsNew 11 = .ok (.invokevirtual 18, 3) := by decide +kernel
theorem dX3_beginAsNew_14 : decode cX3_beginAsNew 14 = .ok (.return_, 1) := by decide +kernel
theorem dX3_copyFrom_0 : decode cX3_copyFrom 0 = .ok (.aload_n 0, 1) := by decide +kernel
theorem dX3_copyFrom_1 : decode cX3_copyFrom 1 = .ok (.aload_n 1, 1) := by decide +kernel
theorem dX3_copyFrom_2 : decode cX3_copyFrom 2 = .ok (.getfield 21, 3) := by decide +kernel
theorem dX3_copyFrom_5 : decode cX3_copyFrom 5 = .ok (.putfield 21, 3) := by decide +kernel
theorem dX3_copyFrom_8 : decode cX3_copyFrom 8 = .ok (.aload_n 0, 1) := by decide +kernel
theorem dX3_copyFrom_9 : decode cX3_copyFrom 9 = .ok (.aload_n 1, 1) := by decide +kernel
theorem dX3_copyFrom_10 : decode cX3_copyFrom 10 = .ok (.getfield 25, 3) := by decide +kernel
theorem dX3_copyFrom_13 : decode cX3_copyFrom 13 = .ok (.putfield 25, 3) := by decide +kernel
theorem dX3_copyFrom_16 : decode cX3_copyFrom 16 = .ok (.aload_n 0, 1) := by decide +kernel
theorem dX3_copyFrom_17 : decode cX3_copyFrom 17 = .ok (.aload_n 1, 1) := by decide +kernel
theorem dX3_copyFrom_18 : decode cX3_copyFrom 18 = .ok (.getfield 28, 3) := by decide +kernel
theorem dX3_copyFrom_21 : decode cX3_copyFrom 21 = .ok (.putfield 28, 3) := by decide +kernel
theorem dX3_copyFrom_24 : decode cX3_copyFrom 24 = .ok (.aload_n 0, 1) := by decide +kernel
theorem dX3_copyFrom_25 : decode cX3_copyFrom 25 = .ok (.aload_n 1, 1) := by decide +kernel
theorem dX3_copyFrom_26 : decode cX3_copyFrom 26 = .ok (.getfield 9, 3) := by decide +kernel
theorem dX3_copyFrom_29 : decode cX3_copyFrom 29 = .ok (.putfield 9, 3) := by decide +kernel
theorem dX3_copyFrom_32 : decode cX3_copyFrom 32 = .ok (.aload_n 0, 1) := by decide +kernel
theorem dX3_copyFrom_33 : decode cX3_copyFrom 33 = .ok (.aload_n 1, 1) := by decide +kernel
theorem dX3_copyFrom_34 : decode cX3_copyFrom 34 = .ok (.getfield 15, 3) := by decide +kernel
theorem dX3_copyFrom_37 : decode cX3_copyFrom 37 = .ok (.putfield 15, 3) := by decide +kernel
theorem dX3_copyFrom_40 : decode cX3_copyFrom 40 = .ok (.return_, 1) := by decide +kernel
theorem dX3_end_0 : decode cX3_end 0 = .ok (.aload_n 0, 1) := by decide +kernel
theorem dX3_end_1 : decode cX3_end 1 = .ok (.iconst 0, 1) := by decide +kernel
theorem dX3_end_2 : decode cX3_end 2 = .ok (.putfield 21, 3) := by decide +kernel
theorem dX3_end_5 : decode cX3_end 5 = .ok (.aload_n 0, 1) := by decide +kernel
theorem dX3_end_6 : decode cX3_end 6 = .ok (.iconst 0, 1) := by decide +kernel
theorem dX3_end_7 : decode cX3_end 7 = .ok (.putfield 25, 3) := by decide +kernel
theorem dX3_end_10 : decode cX3_end 10 = .ok (.aload_n 0, 1) := by decide +kernel
theorem dX3_end_11 : decode cX3_end 11 = .ok (.iconst 0, 1) := by decide +kernel
theorem dX3_end_12 : decode cX3_end 12 = .ok (.putfield 28, 3) := by decide +kernel
theorem dX3_end_15 : decode cX3_end 15 = .ok (.return_, 1) := by decide +kernel
theorem dX3_countTick_0 : decode cX3_countTick 0 = .ok (.aload_n 0, 1) := by decide +kernel
theorem dX3_countTick_1 : decode cX3_countTick 1 = .ok (.getfield 21, 3) := by decide +kernel
theorem dX3_countTick_4 : decode cX3_countTick 4 = .ok (.ifCond .ne 4, 3) := by decide +kernel
theorem dX3_countTick_7 : decode cX3_countTick 7 = .ok (.return_, 1) := by decide +kernel
theorem dX3_countTick_8 : decode cX3_countTick 8 = .ok (.aload_n 0, 1) := by decide +kernel
theorem dX3_countTick_9 : decode cX3_countTick 9 = .ok (.dup, 1) := by decide +kernel
theorem dX3_countTick_10 : decode cX3_countTick 10 = .ok (.getfield 28, 3) := by decide +kernel
theorem dX3_countTick_13 : decode cX3_countTick 13 = .ok (.iconst 1, 1) := by decide +kernel
theorem dX3_countTick_14 : decode cX3_countTick 14 = .ok (.iadd, 1) := by decide +kernel
theorem dX3_countTick_15 : decode cX3_countTick 15 = .ok (.putfield 28, 3) := by decide +kernel
theorem dX3_countTick_18 : decode cX3_countTick 18 = .ok (.aload_n 0, 1) := by decide +kernel
theorem dX3_countTick_19 : decode cX3_countTick 19 = .ok (.iload_n 1, 1) := by decide +kernel
theorem dX3_countTick_20 : decode cX3_countTick 20 = .ok (.ifCond .eq 12, 3) := by decide +kernel
theorem dX3_countTick_23 : decode cX3_countTick 23 = .ok (.aload_n 0, 1) := by decide +kernel
theorem dX3_countTick_24 : decode cX3_countTick 24 = .ok (.getfield 25, 3) := by decide +kernel
theorem dX3_countTick_27 : decode cX3_countTick 27 = .ok (.iconst 1, 1) := by decide +kernel
theorem dX3_countTick_28 : decode cX3_countTick 28 = .ok (.iadd, 1) := by decide +kernel
theorem dX3_countTick_29 : decode cX3_countTick 29 = .ok (.goto 4, 3) := by decide +kernel
theorem dX3_countTick_32 : decode cX3_countTick 32 = .ok (.iconst 0, 1) := by decide +kernel
theorem dX3_countTick_33 : decode cX3_countTick 33 = .ok (.putfield 25, 3) := by decide +kernel
theorem dX3_countTick_36 : decode cX3_countTick 36 = .ok (.aload_n 0, 1) := by decide +kernel
theorem dX3_countTick_37 : decode cX3_countTick 37 = .ok (.getfield 25, 3) := by decide +kernel
theorem dX3_countTick_40 : decode cX3_countTick 40 = .ok (.iload_n 2, 1) := by decide +kernel
theorem dX3_countTick_41 : decode cX3_countTick 41 = .ok (.if_icmp .lt 20, 3) := by decide +kernel
theorem dX3_countTick_44 : decode cX3_countTick 44 = .ok (.aload_n 0, 1) := by decide +kernel
theorem dX3_countTick_45 : decode cX3_countTick 45 = .ok (.dup, 1) := by decide +kernel
theorem dX3_countTick_46 : decode cX3_countTick 46 = .ok (.getfield 9, 3) := by decide +kernel
theorem dX3_countTick_49 : decode cX3_countTick 49 = .ok (.iconst 1, 1) := by decide +kernel
theorem dX3_countTick_50 : decode cX3_countTick 50 = .ok (.iadd, 1) := by decide +kernel
theorem dX3_countTick_51 : decode cX3_countTick 51 = .ok (.putfield 9, 3) := by decide +kernel
theorem dX3_countTick_54 : decode cX3_countTick 54 = .ok (.aload_n 0, 1) := by decide +kernel
theorem dX3_countTick_55 : decode cX3_countTick 55 = .ok (.invokevirtual 18, 3) := by decide +kernel
theorem dX3_countTick_58 : decode cX3_countTick 58 = .ok (.goto 26, 3) := by decide +kernel
theorem dX3_countTick_61 : decode cX3_countTick 61 = .ok (.aload_n 0, 1) := by decide +kernel
theorem dX3_countTick_62 : decode cX3_countTick 62 = .ok (.getfield 28, 3) := by decide +kernel
theorem dX3_countTick_65 : decode cX3_countTick 65 = .ok (.bipush 12, 2) := by decide +kernel
theorem dX3_countTick_67 : decode cX3_countTick 67 = .ok (.if_icmp .lt 17, 3) := by decide +kernel
theorem dX3_countTick_70 : decode cX3_countTick 70 = .ok (.aload_n 0, 1) := by decide +kernel
theorem dX3_countTick_71 : decode cX3_countTick 71 = .ok (.dup, 1) := by decide +kernel
theorem dX3_countTick_72 : decode cX3_countTick 72 = .ok (.getfield 15, 3) := by decide +kernel
theorem dX3_countTick_75 : decode cX3_countTick 75 = .ok (.iconst 1, 1) := by decide +kernel
theorem dX3_countTick_76 : decode cX3_countTick 76 = .ok (.iadd, 1) := by decide +kernel
theorem dX3_countTick_77 : decode cX3_countTick 77 = .ok (.putfield 15, 3) := by decide +kernel
theorem dX3_countTick_80 : decode cX3_countTick 80 = .ok (.aload_n 0, 1) := by decide +kernel
theorem dX3_countTick_81 : decode cX3_countTick 81 = .ok (.invokevirtual 18, 3) := by decide +kernel
theorem dX3_countTick_84 : decode cX3_countTick 84 = .ok (.return_, 1) := by decide +kernel
theorem dX4_init_0 : decode cX4_init 0 = .ok (.aload_n 0, 1) := by decide +kernel
theorem dX4_init_1 : decode cX4_init 1 = .ok (.invokespecial 3, 3) := by decide +kernel
theorem dX4_init_4 : decode cX4_init 4 = .ok (.aload_n 0, 1) := by decide +kernel
theorem dX4_init_5 : decode cX4_init 5 = .ok (.bipush 60, 2) := by decide +kernel
theorem dX4_init_7 : decode cX4_init 7 = .ok (.newarray .int, 2) := by decide +kernel
theorem dX4_init_9 : decode cX4_init 9 = .ok (.putfield 9, 3) := by decide +kernel
theorem dX4_init_12 : decode cX4_init 12 = .ok (.aload_n 0, 1) := by decide +kernel
theorem dX4_init_13 : decode cX4_init 13 = .ok (.iconst 4, 1) := by decide +kernel
theorem dX4_init_14 : decode cX4_init 14 = .ok (.putfield 15, 3) := by decide +kernel
theorem dX4_init_17 : decode cX4_init 17 = .ok (.aload_n 0, 1) := by decide +kernel
theorem dX4_init_18 : decode cX4_init 18 = .ok (.bipush 50, 2) := by decide +kernel
theorem dX4_init_20 : decode cX4_init 20 = .ok (.putfield 19, 3) := by decide +kernel
theorem dX4_init_23 : decode cX4_init 23 = .ok (.aload_n 0, 1) := by decide +kernel
theorem dX4_init_24 : decode cX4_init 24 = .ok (.bipush 50, 2) := by decide +kernel
theorem dX4_init_26 : decode cX4_init 26 = .ok (.putfield 22, 3) := by decide +kernel
theorem dX4_init_29 : decode cX4_init 29 = .ok (.aload_n 0, 1) := by decide +kernel
theorem dX4_init_30 : decode cX4_init 30 = .ok (.iconst 1, 1) := by decide +kernel
theorem dX4_init_31 : decode cX4_init 31 = .ok (.putfield 25, 3) := by decide +kernel
theorem dX4_init_34 : decode cX4_init 34 = .ok (.aload_n 0, 1) := by decide +kernel
theorem dX4_init_35 : decode cX4_init 35 = .ok (.iconst 5, 1) := by decide +kernel
theorem dX4_init_36 : decode cX4_init 36 = .ok (.newarray .int, 2) := by decide +kernel
theorem dX4_init_38 : decode cX4_init 38 = .ok (.putfield 28, 3) := by decide +kernel
theorem dX4_init_41 : decode cX4_init 41 = .ok (.aload_n 0, 1) := by decide +kernel
theorem dX4_init_42 : decode cX4_init 42 = .ok (.iconst 5, 1) := by decide +kernel
theorem dX4_init_43 : decode cX4_init 43 = .ok (.newarray .int, 2) := by decide +kernel
theorem dX4_init_45 : decode cX4_init 45 = .ok (.putfield 31, 3) := by decide +kernel
theorem dX4_init_48 : decode cX4_init 48 = .ok (.aload_n 0, 1) := by decide +kernel
theorem dX4_init_49 : decode cX4_init 49 = .ok (.bipush 8, 2) := by decide +kernel
theorem dX4_init_51 : decode cX4_init 51 = .ok (.newarray .int, 2) := by decide +kernel
theorem dX4_init_53 : decode cX4_init 53 = .ok (.putfield 34, 3) := by decide +kernel
theorem dX4_init_56 : decode cX4_init 56 = .ok (.aload_n 0, 1) := by decide +kernel
theorem dX4_init_57 : decode cX4_init 57 = .ok (.getfield 28, 3) := by decide +kernel
theorem dX4_init_60 : decode cX4_init 60 = .ok (.iconst 0, 1) := by decide +kernel
theorem dX4_init_61 : decode cX4_init 61 = .ok (.bipush 10, 2) := by decide +kernel
theorem dX4_init_63 : decode cX4_init 63 = .ok (.iastore, 1) := by decide +kernel
theorem dX4_init_64 : decode cX4_init 64 = .ok (.aload_n 0, 1) := by decide +kernel
theorem dX4_init_65 : decode cX4_init 65 = .ok (.invokevirtual 37, 3) := by decide +kernel
theorem dX4_init_68 : decode cX4_init 68 = .ok (.return_, 1) := by decide +kernel
theorem dX4_add_0 : decode cX4_add 0 = .ok (.aload_n 0, 1) := by decide +kernel
theorem dX4_add_1 : decode cX4_add 1 = .ok (.getfield 40, 3) := by decide +kernel
theorem dX4_add_4 : decode cX4_add 4 = .ok (.ifCond .lt 15, 3) := by decide +kernel
theorem dX4_add_7 : decode cX4_add 7 = .ok (.aload_n 0, 1) := by decide +kernel
theorem dX4_add_8 : decode cX4_add 8 = .ok (.getfield 40, 3) := by decide +kernel
theorem dX4_add_11 : decode cX4_add 11 = .ok (.aload_n 0, 1) := by decide +kernel
theorem dX4_add_12 : decode cX4_add 12 = .ok (.getfield 9, 3) := by decide +kernel
theorem dX4_add_15 : decode cX4_add 15 = .ok (.arraylength, 1) := by decide +kernel
theorem dX4_add_16 : decode cX4_add 16 = .ok (.if_icmp .lt 5, 3) := by decide +kernel
theorem dX4_add_19 : decode cX4_add 19 = .ok (.iconst 0, 1) := by decide +kernel
theorem dX4_add_20 : decode cX4_add 20 = .ok (.ireturn, 1) := by decide +kernel
theorem dX4_add_21 : decode cX4_add 21 = .ok (.aload_n 0, 1) := by decide +kernel
theorem dX4_add_22 : decode cX4_add 22 = .ok (.getfield 9, 3) := by decide +kernel
theorem dX4_add_25 : decode cX4_add 25 = .ok (.aload_n 0, 1) := by decide +kernel
theorem dX4_add_26 : decode cX4_add 26 = .ok (.getfield 40, 3) := by decide +kernel
theorem dX4_add_29 : decode cX4_add 29 = .ok (.iload_n 1, 1) := by decide +kernel
theorem dX4_add_30 : decode cX4_add 30 = .ok (.iastore, 1) := by decide +kernel
theorem dX4_add_31 : decode cX4_add 31 = .ok (.aload_n 0, 1) := by decide +kernel
theorem dX4_add_32 : decode cX4_add 32 = .ok (.dup, 1) := by decide +kernel
theorem dX4_add_33 : decode cX4_add 33 = .ok (.getfield 40, 3) := by decide +kernel
theorem dX4_add_36 : decode cX4_add 36 = .ok (.iconst 1, 1) := by decide +kernel
theorem dX4_add_37 : decode cX4_add 37 = .ok (.iadd, 1) := by decide +kernel
theorem dX4_add_38 : decode cX4_add 38 = .ok (.putfield 40, 3) := by decide +kernel
theorem dX4_add_41 : decode cX4_add 41 = .ok (.iconst 1, 1) := by decide +kernel
theorem dX4_add_42 : decode cX4_add 42 = .ok (.ireturn, 1) := by decide +kernel
theorem dX4_read_0 : decode cX4_read 0 = .ok (.aload_n 0, 1) := by decide +kernel
theorem dX4_read_1 : decode cX4_read 1 = .ok (.iconst 0, 1) := by decide +kernel
theorem dX4_read_2 : decode cX4_read 2 = .ok (.putfield 43, 3) := by decide +kernel
theorem dX4_read_5 : decode cX4_read 5 = .ok (.aload_n 0, 1) := by decide +kernel
theorem dX4_read_6 : decode cX4_read 6 = .ok (.iconst 0, 1) := by decide +kernel
theorem dX4_read_7 : decode cX4_read 7 = .ok (.putfield 46, 3) := by decide +kernel
theorem dX4_read_10 : decode cX4_read 10 = .ok (.aload_n 0, 1) := by decide +kernel
theorem dX4_read_11 : decode cX4_read 11 = .ok (.bipush 72, 2) := by decide +kernel
theorem dX4_read_13 : decode cX4_read 13 = .ok (.invokevirtual 50, 3) := by decide +kernel
theorem dX4_read_16 : decode cX4_read 16 = .ok (.aload_n 0, 1) := by decide +kernel
theorem dX4_read_17 : decode cX4_read 17 = .ok (.aload_n 0, 1) := by decide +kernel
theorem dX4_read_18 : decode cX4_read 18 = .ok (.iconst 2, 1) := by decide +kernel
theorem dX4_read_19 : decode cX4_read 19 = .ok (.bipush 8, 2) := by decide +kernel
theorem dX4_read_21 : decode cX4_read 21 = .ok (.invokevirtual 54, 3) := by decide +kernel
theorem dX4_read_24 : decode cX4_read 24 = .ok (.putfield 15, 3) := by decide +kernel
theorem dX4_read_27 : decode cX4_read 27 = .ok (.aload_n 0, 1) := by decide +kernel
theorem dX4_read_28 : decode cX4_read 28 = .ok (.aload_n 0, 1) := by decide +kernel
theorem dX4_read_29 : decode cX4_read 29 = .ok (.iconst 0, 1) := by decide +kernel
theorem dX4_read_30 : decode cX4_read 30 = .ok (.bipush 99, 2) := by decide +kernel
theorem dX4_read_32 : decode cX4_read 32 = .ok (.invokevirtual 58, 3) := by decide +kernel
theorem dX4_read_35 : decode cX4_read 35 = .ok (.putfield 19, 3) := by decide +kernel
theorem dX4_read_38 : decode cX4_read 38 = .ok (.aload_n 0, 1) := by decide +kernel
theorem dX4_read_39 : decode cX4_read 39 = .ok (.aload_n 0, 1) := by decide +kernel
theorem dX4_read_40 : decode cX4_read 40 = .ok (.iconst 0, 1) := by decide +kernel
theorem dX4_read_41 : decode cX4_read 41 = .ok (.bipush 99, 2) := by decide +kernel
theorem dX4_read_43 : decode cX4_read 43 = .ok (.invokevirtual 58, 3) := by decide +kernel
theorem dX4_read_46 : decode cX4_read 46 = .ok (.putfield 22, 3) := by decide +kernel
theorem dX4_read_49 : decode cX4_read 49 = .ok (.aload_n 0, 1) := by decide +kernel
theorem dX4_read_50 : decode cX4_read 50 = .ok (.iconst 0, 1) := by decide +kernel
theorem dX4_read_51 : decode cX4_read 51 = .ok (.invokevirtual 61, 3) := by decide +kernel
theorem dX4_read_54 : decode cX4_read 54 = .ok (.aload_n 0, 1) := by decide +kernel
theorem dX4_read_55 : decode cX4_read 55 = .ok (.iconst 1, 1) := by decide +kernel
theorem dX4_read_56 : decode cX4_read 56 = .ok (.putfield 25, 3) := by decide +kernel
theorem dX4_read_59 : decode cX4_read 59 = .ok (.aload_n 0, 1) := by decide +kernel
theorem dX4_read_60 : decode cX4_read 60 = .ok (.getfield 25, 3) := by decide +kernel
theorem dX4_read_63 : decode cX4_read 63 = .ok (.iconst 5, 1) := by decide +kernel
theorem dX4_read_64 : decode cX4_read 64 = .ok (.if_icmp .ge 33, 3) := by decide +kernel
theorem dX4_read_67 : decode cX4_read 67 = .ok (.aload_n 0, 1) := by decide +kernel
theorem dX4_read_68 : decode cX4_read 68 = .ok (.bipush 98, 2) := by decide +kernel
theorem dX4_read_70 : decode cX4_read 70 = .ok (.invokevirtual 64, 3) := by decide +kernel
theorem dX4_read_73 : decode cX4_read 73 = .ok (.ifCond .eq 24, 3) := by decide +kernel
theorem dX4_read_76 : decode cX4_read 76 = .ok (.aload_n 0, 1) := by decide +kernel
theorem dX4_read_77 : decode cX4_read 77 = .ok (.aload_n 0, 1) := by decide +kernel
theorem dX4_read_78 : decode cX4_read 78 = .ok (.getfield 25, 3) := by decide +kernel
theorem dX4_read_81 : decode cX4_read 81 = .ok (.invokevirtual 61, 3) := by decide +kernel
theorem dX4_read_84 : decode cX4_read 84 = .ok (.aload_n 0, 1) := by decide +kernel
theorem dX4_read_85 : decode cX4_read 85 = .ok (.dup, 1) := by decide +kernel
theorem dX4_read_86 : decode cX4_read 86 = .ok (.getfield 25, 3) := by decide +kernel
theorem dX4_read_89 : decode cX4_read 89 = .ok (.iconst 1, 1) := by decide +kernel
theorem dX4_read_90 : decode cX4_read 90 = .ok (.iadd, 1) := by decide +kernel
theorem dX4_read_91 : decode cX4_read 91 = .ok (.putfield 25, 3) := by decide +kernel
theorem dX4_read_94 : decode cX4_read 94 = .ok (.goto (-35), 3) := by decide +kernel
theorem dX4_read_97 : decode cX4_read 97 = .ok (.aload_n 0, 1) := by decide +kernel
theorem dX4_read_98 : decode cX4_read 98 = .ok (.bipush 116, 2) := by decide +kernel
theorem dX4_read_100 : decode cX4_read 100 = .ok (.invokevirtual 64, 3) := by decide +kernel
theorem dX4_read_103 : decode cX4_read 103 = .ok (.ifCond .eq 10, 3) := by decide +kernel
theorem dX4_read_106 : decode cX4_read 106 = .ok (.aload_n 0, 1) := by decide +kernel
theorem dX4_read_107 : decode cX4_read 107 = .ok (.invokevirtual 68, 3) := by decide +kernel
theorem dX4_read_110 : decode cX4_read 110 = .ok (.goto 7, 3) := by decide +kernel
theorem dX4_read_113 : decode cX4_read 113 = .ok (.aload_n 0, 1) := by decide +kernel
theorem dX4_read_114 : decode cX4_read 114 = .ok (.invokevirtual 37, 3) := by decide +kernel
theorem dX4_read_117 : decode cX4_read 117 = .ok (.aload_n 0, 1) := by decide +kernel
theorem dX4_read_118 : decode cX4_read 118 = .ok (.getfield 46, 3) := by decide +kernel
theorem dX4_read_121 : decode cX4_read 121 = .ok (.ifCond .ne 14, 3) := by decide +kernel
theorem dX4_read_124 : decode cX4_read 124 = .ok (.aload_n 0, 1) := by decide +kernel
theorem dX4_read_125 : decode cX4_read 125 = .ok (.getfield 43, 3) := by decide +kernel
theorem dX4_read_128 : decode cX4_read 128 = .ok (.aload_n 0, 1) := by decide +kernel
theorem dX4_read_129 : decode cX4_read 129 = .ok (.getfield 40, 3) := by decide +kernel
theorem dX4_read_132 : decode cX4_read 132 = .ok (.if_icmp .ge 10, 3) := by decide +kernel
theorem dX4_read_135 : decode cX4_read 135 = .ok (.aload_n 0, 1) := by decide +kernel
theorem dX4_read_136 : decode cX4_read 136 = .ok (.getfield 43, 3) := by decide +kernel
theorem dX4_read_139 : decode cX4_read 139 = .ok (.goto 5, 3) := by decide +kernel
theorem dX4_read_142 : decode cX4_read 142 = .ok (.bipush (-9), 2) := by decide +kernel
theorem dX4_read_144 : decode cX4_read 144 = .ok (.ireturn, 1) := by decide +kernel
theorem dX4_readBoiler_0 : decode cX4_readBoiler 0 = .ok (.aload_n 0, 1) := by decide +kernel
theorem dX4_readBoiler_1 : decode cX4_readBoiler 1 = .ok (.bipush 98, 2) := by decide +kernel
theorem dX4_readBoiler_3 : decode cX4_readBoiler 3 = .ok (.invokevirtual 50, 3) := by decide +kernel
theorem dX4_readBoiler_6 : decode cX4_readBoiler 6 = .ok (.aload_n 0, 1) := by decide +kernel
theorem dX4_readBoiler_7 : decode cX4_readBoiler 7 = .ok (.getfield 28, 3) := by decide +kernel
theorem dX4_readBoiler_10 : decode cX4_readBoiler 10 = .ok (.iload_n 1, 1) := by decide +kernel
theorem dX4_readBoiler_11 : decode cX4_readBoiler 11 = .ok (.aload_n 0, 1) := by decide +kernel
theorem dX4_readBoiler_12 : decode cX4_readBoiler 12 = .ok (.iconst 1, 1) := by decide +kernel
theorem dX4_readBoiler_13 : decode cX4_readBoiler 13 = .ok (.bipush 30, 2) := by decide +kernel
theorem dX4_readBoiler_15 : decode cX4_readBoiler 15 = .ok (.invokevirtual 58, 3) := by decide +kernel
theorem dX4_readBoiler_18 : decode cX4_readBoiler 18 = .ok (.iastore, 1) := by decide +kernel
theorem dX4_readBoiler_19 : decode cX4_readBoiler 19 = .ok (.aload_n 0, 1) := by decide +kernel
theorem dX4_readBoiler_20 : decode cX4_readBoiler 20 = .ok (.getfield 31, 3) := by decide +kernel
theorem dX4_readBoiler_23 : decode cX4_readBoiler 23 = .ok (.iload_n 1, 1) := by decide +kernel
theorem dX4_readBoiler_24 : decode cX4_readBoiler 24 = .ok (.aload_n 0, 1) := by decide +kernel
theorem dX4_readBoiler_25 : decode cX4_readBoiler 25 = .ok (.iconst 0, 1) := by decide +kernel
theorem dX4_readBoiler_26 : decode cX4_readBoiler 26 = .ok (.iconst 1, 1) := by decide +kernel
theorem dX4_readBoiler_27 : decode cX4_readBoiler 27 = .ok (.invokevirtual 54, 3) := by decide +kernel
theorem dX4_readBoiler_30 : decode cX4_readBoiler 30 = .ok (.iastore, 1) := by decide +kernel
theorem dX4_readBoiler_31 : decode cX4_readBoiler 31 = .ok (.return_, 1) := by decide +kernel
theorem dX4_readTemperatures_0 : decode cX4_readTemperatures 0 = .ok (.aload_n 0, 1) := by decide +kernel
theorem dX4_readTemperatures_1 : decode cX4_readTemperatures 1 = .ok (.bipush 116, 2) := by decide +kernel
theorem dX4_readTemperatures_3 : decode cX4_readTemperatures 3 = .ok (.invokevirtual 50, 3) := by decide +kernel
theorem dX4_readTemperatures_6 : decode cX4_readTemperatures 6 = .ok (.iconst 0, 1) := by decide +kernel
theorem dX4_readTemperatures_7 : decode cX4_readTemperatures 7 = .ok (.istore_n 1, 1) := by decide +kernel
theorem dX4_readTemperatures_8 : decode cX4_readTemperatures 8 = .ok (.iconst 0, 1) := by decide +kernel
theorem dX4_readTemperatures_9 : decode cX4_readTemperatures 9 = .ok (.istore_n 2, 1) := by decide +kernel
theorem dX4_readTemperatures_10 : decode cX4_readTemperatures 10 = .ok (.iload_n 2, 1) := by decide +kernel
theorem dX4_readTemperatures_11 : decode cX4_readTemperatures 11 = .ok (.aload_n 0, 1) := by decide +kernel
theorem dX4_readTemperatures_12 : decode cX4_readTemperatures 12 = .ok (.getfield 15, 3) := by decide +kernel
theorem dX4_readTemperatures_15 : decode cX4_readTemperatures 15 = .ok (.if_icmp .ge 33, 3) := by decide +kernel
theorem dX4_readTemperatures_18 : decode cX4_readTemperatures 18 = .ok (.iload_n 2, 1) := by decide +kernel
theorem dX4_readTemperatures_19 : decode cX4_readTemperatures 19 = .ok (.aload_n 0, 1) := by decide +kernel
theorem dX4_readTemperatures_20 : decode cX4_readTemperatures 20 = .ok (.getfield 34, 3) := by decide +kernel
theorem dX4_readTemperatures_23 : decode cX4_readTemperatures 23 = .ok (.arraylength, 1) := by decide +kernel
theorem dX4_readTemperatures_24 : decode cX4_readTemperatures 24 = .ok (.if_icmp .ge 24, 3) := by decide +kernel
theorem dX4_readTemperatures_27 : decode cX4_readTemperatures 27 = .ok (.aload_n 0, 1) := by decide +kernel
theorem dX4_readTemperatures_28 : decode cX4_readTemperatures 28 = .ok (.iload_n 1, 1) := by decide +kernel
theorem dX4_readTemperatures_29 : decode cX4_readTemperatures 29 = .ok (.bipush 99, 2) := by decide +kernel
theorem dX4_readTemperatures_31 : decode cX4_readTemperatures 31 = .ok (.invokevirtual 58, 3) := by decide +kernel
theorem dX4_readTemperatures_34 : decode cX4_readTemperatures 34 = .ok (.istore_n 1, 1) := by decide +kernel
theorem dX4_readTemperatures_35 : decode cX4_readTemperatures 35 = .ok (.aload_n 0, 1) := by decide +kernel
theorem dX4_readTemperatures_36 : decode cX4_readTemperatures 36 = .ok (.getfield 34, 3) := by decide +kernel
theorem dX4_readTemperatures_39 : decode cX4_readTemperatures 39 = .ok (.iload_n 2, 1) := by decide +kernel
theorem dX4_readTemperatures_40 : decode cX4_readTemperatures 40 = .ok (.iload_n 1, 1) := by decide +kernel
theorem dX4_readTemperatures_41 : decode cX4_readTemperatures 41 = .ok (.iastore, 1) := by decide +kernel
theorem dX4_readTemperatures_42 : decode cX4_readTemperatures 42 = .ok (.iinc 2 1, 3) := by decide +kernel
theorem dX4_readTemperatures_45 : decode cX4_readTemperatures 45 = .ok (.goto (-35), 3) := by decide +kernel
theorem dX4_readTemperatures_48 : decode cX4_readTemperatures 48 = .ok (.return_, 1) := by decide +kernel
theorem dX4_fillTemperatures_0 : decode cX4_fillTemperatures 0 = .ok (.iconst 0, 1) := by decide +kernel
theorem dX4_fillTemperatures_1 : decode cX4_fillTemperatures 1 = .ok (.istore_n 1, 1) := by decide +kernel
theorem dX4_fillTemperatures_2 : decode cX4_fillTemperatures 2 = .ok (.iload_n 1, 1) := by decide +kernel
theorem dX4_fillTemperatures_3 : decode cX4_fillTemperatures 3 = .ok (.aload_n 0, 1) := by decide +kernel
theorem dX4_fillTemperatures_4 : decode cX4_fillTemperatures 4 = .ok (.getfield 34, 3) := by decide +kernel
theorem dX4_fillTemperatures_7 : decode cX4_fillTemperatures 7 = .ok (.arraylength, 1) := by decide +kernel
theorem dX4_fillTemperatures_8 : decode cX4_fillTemperatures 8 = .ok (.if_icmp .ge 17, 3) := by decide +kernel
theorem dX4_fillTemperatures_11 : decode cX4_fillTemperatures 11 = .ok (.aload_n 0, 1) := by decide +kernel
theorem dX4_fillTemperatures_12 : decode cX4_fillTemperatures 12 = .ok (.getfield 34, 3) := by decide +kernel
theorem dX4_fillTemperatures_15 : decode cX4_fillTemperatures 15 = .ok (.iload_n 1, 1) := by decide +kernel
theorem dX4_fillTemperatures_16 : decode cX4_fillTemperatures 16 = .ok (.bipush 40, 2) := by decide +kernel
theorem dX4_fillTemperatures_18 : decode cX4_fillTemperatures 18 = .ok (.iastore, 1) := by decide +kernel
theorem dX4_fillTemperatures_19 : decode cX4_fillTemperatures 19 = .ok (.iinc 1 1, 3) := by decide +kernel
theorem dX4_fillTemperatures_22 : decode cX4_fillTemperatures 22 = .ok (.goto (-20), 3) := by decide +kernel
theorem dX4_fillTemperatures_25 : decode cX4_fillTemperatures 25 = .ok (.return_, 1) := by decide +kernel
theorem dX4_hasMore_0 : decode cX4_hasMore 0 = .ok (.aload_n 0, 1) := by decide +kernel
theorem dX4_hasMore_1 : decode cX4_hasMore 1 = .ok (.getfield 46, 3) := by decide +kernel
theorem dX4_hasMore_4 : decode cX4_hasMore 4 = .ok (.ifCond .ne 30, 3) := by decide +kernel
theorem dX4_hasMore_7 : decode cX4_hasMore 7 = .ok (.aload_n 0, 1) := by decide +kernel
theorem dX4_hasMore_8 : decode cX4_hasMore 8 = .ok (.getfield 43, 3) := by decide +kernel
theorem dX4_hasMore_11 : decode cX4_hasMore 11 = .ok (.aload_n 0, 1) := by decide +kernel
theorem dX4_hasMore_12 : decode cX4_hasMore 12 = .ok (.getfield 40, 3) := by decide +kernel
theorem dX4_hasMore_15 : decode cX4_hasMore 15 = .ok (.if_icmp .ge 19, 3) := by decide +kernel
theorem dX4_hasMore_18 : decode cX4_hasMore 18 = .ok (.aload_n 0, 1) := by decide +kernel
theorem dX4_hasMore_19 : decode cX4_hasMore 19 = .ok (.getfield 43, 3) := by decide +kernel
theorem dX4_hasMore_22 : decode cX4_hasMore 22 = .ok (.aload_n 0, 1) := by decide +kernel
theorem dX4_hasMore_23 : decode cX4_hasMore 23 = .ok (.getfield 9, 3) := by decide +kernel
theorem dX4_hasMore_26 : decode cX4_hasMore 26 = .ok (.arraylength, 1) := by decide +kernel
theorem dX4_hasMore_27 : decode cX4_hasMore 27 = .ok (.if_icmp .ge 7, 3) := by decide +kernel
theorem dX4_hasMore_30 : decode cX4_hasMore 30 = .ok (.iconst 1, 1) := by decide +kernel
theorem dX4_hasMore_31 : decode cX4_hasMore 31 = .ok (.goto 4, 3) := by decide +kernel
theorem dX4_hasMore_34 : decode cX4_hasMore 34 = .ok (.iconst 0, 1) := by decide +kernel
theorem dX4_hasMore_35 : decode cX4_hasMore 35 = .ok (.ireturn, 1) := by decide +kernel
theorem dX4_sees_0 : decode cX4_sees 0 = .ok (.aload_n 0, 1) := by decide +kernel
theorem dX4_sees_1 : decode cX4_sees 1 = .ok (.invokevirtual 71, 3) := by decide +kernel
theorem dX4_sees_4 : decode cX4_sees 4 = .ok (.ifCond .eq 20, 3) := by decide +kernel
theorem dX4_sees_7 : decode cX4_sees 7 = .ok (.aload_n 0, 1) := by decide +kernel
theorem dX4_sees_8 : decode cX4_sees 8 = .ok (.getfield 9, 3) := by decide +kernel
theorem dX4_sees_11 : decode cX4_sees 11 = .ok (.aload_n 0, 1) := by decide +kernel
theorem dX4_sees_12 : decode cX4_sees 12 = .ok (.getfield 43, 3) := by decide +kernel
theorem dX4_sees_15 : decode cX4_sees 15 = .ok (.iaload, 1) := by decide +kernel
theorem dX4_sees_16 : decode cX4_sees 16 = .ok (.iload_n 1, 1) := by decide +kernel
theorem dX4_sees_17 : decode cX4_sees 17 = .ok (.if_icmp .ne 7, 3) := by decide +kernel
theorem dX4_sees_20 : decode cX4_sees 20 = .ok (.iconst 1, 1) := by decide +kernel
theorem dX4_sees_21 : decode cX4_sees 21 = .ok (.goto 4, 3) := by decide +kernel
theorem dX4_sees_24 : decode cX4_sees 24 = .ok (.iconst 0, 1) := by decide +kernel
theorem dX4_sees_25 : decode cX4_sees 25 = .ok (.ireturn, 1) := by decide +kernel
theorem dX4_readSign_0 : decode cX4_readSign 0 = .ok (.aload_n 0, 1) := by decide +kernel
theorem dX4_readSign_1 : decode cX4_readSign 1 = .ok (.iload_n 1, 1) := by decide +kernel
theorem dX4_readSign_2 : decode cX4_readSign 2 = .ok (.invokevirtual 64, 3) := by decide +kernel
theorem dX4_readSign_5 : decode cX4_readSign 5 = .ok (.ifCond .eq 16, 3) := by decide +kernel
theorem dX4_readSign_8 : decode cX4_readSign 8 = .ok (.aload_n 0, 1) := by decide +kernel
theorem dX4_readSign_9 : decode cX4_readSign 9 = .ok (.dup, 1) := by decide +kernel
theorem dX4_readSign_10 : decode cX4_readSign 10 = .ok (.getfield 43, 3) := by decide +kernel
theorem dX4_readSign_13 : decode cX4_readSign 13 = .ok (.iconst 1, 1) := by decide +kernel
theorem dX4_readSign_14 : decode cX4_readSign 14 = .ok (.iadd, 1) := by decide +kernel
theorem dX4_readSign_15 : decode cX4_readSign 15 = .ok (.putfield 43, 3) := by decide +kernel
theorem dX4_readSign_18 : decode cX4_readSign 18 = .ok (.goto 8, 3) := by decide +kernel
theorem dX4_readSign_21 : decode cX4_readSign 21 = .ok (.aload_n 0, 1) := by decide +kernel
theorem dX4_readSign_22 : decode cX4_readSign 22 = .ok (.iconst 1, 1) := by decide +kernel
theorem dX4_readSign_23 : decode cX4_readSign 23 = .ok (.putfield 46, 3) := by decide +kernel
theorem dX4_readSign_26 : decode cX4_readSign 26 = .ok (.return_, 1) := by decide +kernel
theorem dX4_readNumber_0 : decode cX4_readNumber 0 = .ok (.aload_n 0, 1) := by decide +kernel
theorem dX4_readNumber_1 : decode cX4_readNumber 1 = .ok (.iload_n 1, 1) := by decide +kernel
theorem dX4_readNumber_2 : decode cX4_readNumber 2 = .ok (.bipush 10, 2) := by decide +kernel
theorem dX4_readNumber_4 : decode cX4_readNumber 4 = .ok (.idiv, 1) := by decide +kernel
theorem dX4_readNumber_5 : decode cX4_readNumber 5 = .ok (.iload_n 2, 1) := by decide +kernel
theorem dX4_readNumber_6 : decode cX4_readNumber 6 = .ok (.bipush 10, 2) := by decide +kernel
theorem dX4_readNumber_8 : decode cX4_readNumber 8 = .ok (.idiv, 1) := by decide +kernel
theorem dX4_readNumber_9 : decode cX4_readNumber 9 = .ok (.invokevirtual 54, 3) := by decide +kernel
theorem dX4_readNumber_12 : decode cX4_readNumber 12 = .ok (.istore_n 3, 1) := by decide +kernel
theorem dX4_readNumber_13 : decode cX4_readNumber 13 = .ok (.iload_n 3, 1) := by decide +kernel
theorem dX4_readNumber_14 : decode cX4_readNumber 14 = .ok (.iload_n 1, 1) := by decide +kernel
theorem dX4_readNumber_15 : decode cX4_readNumber 15 = .ok (.bipush 10, 2) := by decide +kernel
theorem dX4_readNumber_17 : decode cX4_readNumber 17 = .ok (.idiv, 1) := by decide +kernel
theorem dX4_readNumber_18 : decode cX4_readNumber 18 = .ok (.if_icmp .ne 10, 3) := by decide +kernel
theorem dX4_readNumber_21 : decode cX4_readNumber 21 = .ok (.iload_n 1, 1) := by decide +kernel
theorem dX4_readNumber_22 : decode cX4_readNumber 22 = .ok (.bipush 10, 2) := by decide +kernel
theorem dX4_readNumber_24 : decode cX4_readNumber 24 = .ok (.irem, 1) := by decide +kernel
theorem dX4_readNumber_25 : decode cX4_readNumber 25 = .ok (.goto 4, 3) := by decide +kernel
theorem dX4_readNumber_28 : decode cX4_readNumber 28 = .ok (.iconst 0, 1) := by decide +kernel
theorem dX4_readNumber_29 : decode cX4_readNumber 29 = .ok (.istore 4, 2) := by decide +kernel
theorem dX4_readNumber_31 : decode cX4_readNumber 31 = .ok (.iload_n 3, 1) := by decide +kernel
theorem dX4_readNumber_32 : decode cX4_readNumber 32 = .ok (.iload_n 2, 1) := by decide +kernel
theorem dX4_readNumber_33 : decode cX4_readNumber 33 = .ok (.bipush 10, 2) := by decide +kernel
theorem dX4_readNumber_35 : decode cX4_readNumber 35 = .ok (.idiv, 1) := by decide +kernel
theorem dX4_readNumber_36 : decode cX4_readNumber 36 = .ok (.if_icmp .ne 10, 3) := by decide +kernel
theorem dX4_readNumber_39 : decode cX4_readNumber 39 = .ok (.iload_n 2, 1) := by decide +kernel
theorem dX4_readNumber_40 : decode cX4_readNumber 40 = .ok (.bipush 10, 2) := by decide +kernel
theorem dX4_readNumber_42 : decode cX4_readNumber 42 = .ok (.irem, 1) := by decide +kernel
theorem dX4_readNumber_43 : decode cX4_readNumber 43 = .ok (.goto 5, 3) := by decide +kernel
theorem dX4_readNumber_46 : decode cX4_readNumber 46 = .ok (.bipush 9, 2) := by decide +kernel
theorem dX4_readNumber_48 : decode cX4_readNumber 48 = .ok (.istore 5, 2) := by decide +kernel
theorem dX4_readNumber_50 : decode cX4_readNumber 50 = .ok (.bipush 10, 2) := by decide +kernel
theorem dX4_readNumber_52 : decode cX4_readNumber 52 = .ok (.iload_n 3, 1) := by decide +kernel
theorem dX4_readNumber_53 : decode cX4_readNumber 53 = .ok (.imul, 1) := by decide +kernel
theorem dX4_readNumber_54 : decode cX4_readNumber 54 = .ok (.aload_n 0, 1) := by decide +kernel
theorem dX4_readNumber_55 : decode cX4_readNumber 55 = .ok (.iload 4, 2) := by decide +kernel
theorem dX4_readNumber_57 : decode cX4_readNumber 57 = .ok (.iload 5, 2) := by decide +kernel
theorem dX4_readNumber_59 : decode cX4_readNumber 59 = .ok (.invokevirtual 54, 3) := by decide +kernel
theorem dX4_readNumber_62 : decode cX4_readNumber 62 = .ok (.iadd, 1) := by decide +kernel
theorem dX4_readNumber_63 : decode cX4_readNumber 63 = .ok (.ireturn, 1) := by decide +kernel
theorem dX4_readDigit_0 : decode cX4_readDigit 0 = .ok (.aload_n 0, 1) := by decide +kernel
theorem dX4_readDigit_1 : decode cX4_readDigit 1 = .ok (.invokevirtual 71, 3) := by decide +kernel
theorem dX4_readDigit_4 : decode cX4_readDigit 4 = .ok (.ifCond .eq 38, 3) := by decide +kernel
theorem dX4_readDigit_7 : decode cX4_readDigit 7 = .ok (.aload_n 0, 1) := by decide +kernel
theorem dX4_readDigit_8 : decode cX4_readDigit 8 = .ok (.getfield 9, 3) := by decide +kernel
theorem dX4_readDigit_11 : decode cX4_readDigit 11 = .ok (.aload_n 0, 1) := by decide +kernel
theorem dX4_readDigit_12 : decode cX4_readDigit 12 = .ok (.getfield 43, 3) := by decide +kernel
theorem dX4_readDigit_15 : decode cX4_readDigit 15 = .ok (.iaload, 1) := by decide +kernel
theorem dX4_readDigit_16 : decode cX4_readDigit 16 = .ok (.bipush 48, 2) := by decide +kernel
theorem dX4_readDigit_18 : decode cX4_readDigit 18 = .ok (.isub, 1) := by decide +kernel
theorem dX4_readDigit_19 : decode cX4_readDigit 19 = .ok (.istore_n 3, 1) := by decide +kernel
theorem dX4_readDigit_20 : decode cX4_readDigit 20 = .ok (.iload_n 3, 1) := by decide +kernel
theorem dX4_readDigit_21 : decode cX4_readDigit 21 = .ok (.iload_n 1, 1) := by decide +kernel
theorem dX4_readDigit_22 : decode cX4_readDigit 22 = .ok (.if_icmp .lt 20, 3) := by decide +kernel
theorem dX4_readDigit_25 : decode cX4_readDigit 25 = .ok (.iload_n 3, 1) := by decide +kernel
theorem dX4_readDigit_26 : decode cX4_readDigit 26 = .ok (.iload_n 2, 1) := by decide +kernel
theorem dX4_readDigit_27 : decode cX4_readDigit 27 = .ok (.if_icmp .gt 15, 3) := by decide +kernel
theorem dX4_readDigit_30 : decode cX4_readDigit 30 = .ok (.aload_n 0, 1) := by decide +kernel
theorem dX4_readDigit_31 : decode cX4_readDigit 31 = .ok (.dup, 1) := by decide +kernel
theorem dX4_readDigit_32 : decode cX4_readDigit 32 = .ok (.getfield 43, 3) := by decide +kernel
theorem dX4_readDigit_35 : decode cX4_readDigit 35 = .ok (.iconst 1, 1) := by decide +kernel
theorem dX4_readDigit_36 : decode cX4_readDigit 36 = .ok (.iadd, 1) := by decide +kernel
theorem dX4_readDigit_37 : decode cX4_readDigit 37 = .ok (.putfield 43, 3) := by decide +kernel
theorem dX4_readDigit_40 : decode cX4_readDigit 40 = .ok (.iload_n 3, 1) := by decide +kernel
theorem dX4_readDigit_41 : decode cX4_readDigit 41 = .ok (.ireturn, 1) := by decide +kernel
theorem dX4_readDigit_42 : decode cX4_readDigit 42 = .ok (.aload_n 0, 1) := by decide +kernel
theorem dX4_readDigit_43 : decode cX4_readDigit 43 = .ok (.iconst 1, 1) := by decide +kernel
theorem dX4_readDigit_44 : decode cX4_readDigit 44 = .ok (.putfield 46, 3) := by decide +kernel
theorem dX4_readDigit_47 : decode cX4_readDigit 47 = .ok (.iload_n 1, 1) := by decide +kernel
theorem dX4_readDigit_48 : decode cX4_readDigit 48 = .ok (.ireturn, 1) := by decide +kernel
theorem dX5_init_0 : decode cX5_init 0 = .ok (.aload_n 0, 1) := by decide +kernel
theorem dX5_init_1 : decode cX5_init 1 = .ok (.invokespecial 3, 3) := by decide +kernel
theorem dX5_init_4 : decode cX5_init 4 = .ok (.aload_n 0, 1) := by decide +kernel
theorem dX5_init_5 : decode cX5_init 5 = .ok (.iconst 5, 1) := by decide +kernel
theorem dX5_init_6 : decode cX5_init 6 = .ok (.anewarray 9, 3) := by decide +kernel
theorem dX5_init_9 : decode cX5_init 9 = .ok (.putfield 11, 3) := by decide +kernel
theorem dX5_init_12 : decode cX5_init 12 = .ok (.aload_n 0, 1) := by decide +kernel
theorem dX5_init_13 : decode cX5_init 13 = .ok (.new 17, 3) := by decide +kernel
theorem dX5_init_16 : decode cX5_init 16 = .ok (.dup, 1) := by decide +kernel
theorem dX5_init_17 : decode cX5_init 17 = .ok (.invokespecial 19, 3) := by decide +kernel
theorem dX5_init_20 : decode cX5_init 20 = .ok (.putfield 20, 3) := by decide +kernel
theorem dX5_init_23 : decode cX5_init 23 = .ok (.aload_n 0, 1) := by decide +kernel
theorem dX5_init_24 : decode cX5_init 24 = .ok (.new 17, 3) := by decide +kernel
theorem dX5_init_27 : decode cX5_init 27 = .ok (.dup, 1) := by decide +kernel
theorem dX5_init_28 : decode cX5_init 28 = .ok (.invokespecial 19, 3) := by decide +kernel
theorem dX5_init_31 : decode cX5_init 31 = .ok (.putfield 24, 3) := by decide +kernel
theorem dX5_init_34 : decode cX5_init 34 = .ok (.aload_n 0, 1) := by decide +kernel
theorem dX5_init_35 : decode cX5_init 35 = .ok (.bipush 6, 2) := by decide +kernel
theorem dX5_init_37 : decode cX5_init 37 = .ok (.newarray .int, 2) := by decide +kernel
theorem dX5_init_39 : decode cX5_init 39 = .ok (.putfield 27, 3) := by decide +kernel
theorem dX5_init_42 : decode cX5_init 42 = .ok (.aload_n 0, 1) := by decide +kernel
theorem dX5_init_43 : decode cX5_init 43 = .ok (.new 31, 3) := by decide +kernel
theorem dX5_init_46 : decode cX5_init 46 = .ok (.dup, 1) := by decide +kernel
theorem dX5_init_47 : decode cX5_init 47 = .ok (.invokespecial 33, 3) := by decide +kernel
theorem dX5_init_50 : decode cX5_init 50 = .ok (.putfield 34, 3) := by decide +kernel
theorem dX5_init_53 : decode cX5_init 53 = .ok (.aload_n 0, 1) := by decide +kernel
theorem dX5_init_54 : decode cX5_init 54 = .ok (.new 38, 3) := by decide +kernel
theorem dX5_init_57 : decode cX5_init 57 = .ok (.dup, 1) := by decide +kernel
theorem dX5_init_58 : decode cX5_init 58 = .ok (.invokespecial 40, 3) := by decide +kernel
theorem dX5_init_61 : decode cX5_init 61 = .ok (.putfield 41, 3) := by decide +kernel
theorem dX5_init_64 : decode cX5_init 64 = .ok (.iconst 0, 1) := by decide +kernel
theorem dX5_init_65 : decode cX5_init 65 = .ok (.istore_n 1, 1) := by decide +kernel
theorem dX5_init_66 : decode cX5_init 66 = .ok (.iload_n 1, 1) := by decide +kernel
theorem dX5_init_67 : decode cX5_init 67 = .ok (.aload_n 0, 1) := by decide +kernel
theorem dX5_init_68 : decode cX5_init 68 = .ok (.getfield 11, 3) := by decide +kernel
theorem dX5_init_71 : decode cX5_init 71 = .ok (.arraylength, 1) := by decide +kernel
theorem dX5_init_72 : decode cX5_init 72 = .ok (.if_icmp .ge 22, 3) := by decide +kernel
theorem dX5_init_75 : decode cX5_init 75 = .ok (.aload_n 0, 1) := by decide +kernel
theorem dX5_init_76 : decode cX5_init 76 = .ok (.getfield 11, 3) := by decide +kernel
theorem dX5_init_79 : decode cX5_init 79 = .ok (.iload_n 1, 1) := by decide +kernel
theorem dX5_init_80 : decode cX5_init 80 = .ok (.new 9, 3) := by decide +kernel
theorem dX5_init_83 : decode cX5_init 83 = .ok (.dup, 1) := by decide +kernel
theorem dX5_init_84 : decode cX5_init 84 = .ok (.invokespecial 45, 3) := by decide +kernel
theorem dX5_init_87 : decode cX5_init 87 = .ok (.aastore, 1) := by decide +kernel
theorem dX5_init_88 : decode cX5_init 88 = .ok (.iinc 1 1, 3) := by decide +kernel
theorem dX5_init_91 : decode cX5_init 91 = .ok (.goto (-25), 3) := by decide +kernel
theorem dX5_init_94 : decode cX5_init 94 = .ok (.return_, 1) := by decide +kernel
theorem dX5_beginAs_0 : decode cX5_beginAs 0 = .ok (.aload_n 0, 1) := by decide +kernel
theorem dX5_beginAs_1 : decode cX5_beginAs 1 = .ok (.aload_n 1, 1) := by decide +kernel
theorem dX5_beginAs_2 : decode cX5_beginAs 2 = .ok (.getfield 46, 3) := by decide +kernel
theorem dX5_beginAs_5 : decode cX5_beginAs 5 = .ok (.aload_n 0, 1) := by decide +kernel
theorem dX5_beginAs_6 : decode cX5_beginAs 6 = .ok (.getfield 11, 3) := by decide +kernel
theorem dX5_beginAs_9 : decode cX5_beginAs 9 = .ok (.arraylength, 1) := by decide +kernel
theorem dX5_beginAs_10 : decode cX5_beginAs 10 = .ok (.invokestatic 51, 3) := by decide +kernel
theorem dX5_beginAs_13 : decode cX5_beginAs 13 = .ok (.putfield 57, 3) := by decide +kernel
theorem dX5_beginAs_16 : decode cX5_beginAs 16 = .ok (.iconst 0, 1) := by decide +kernel
theorem dX5_beginAs_17 : decode cX5_beginAs 17 = .ok (.istore_n 2, 1) := by decide +kernel
theorem dX5_beginAs_18 : decode cX5_beginAs 18 = .ok (.iload_n 2, 1) := by decide +kernel
theorem dX5_beginAs_19 : decode cX5_beginAs 19 = .ok (.aload_n 0, 1) := by decide +kernel
theorem dX5_beginAs_20 : decode cX5_beginAs 20 = .ok (.getfield 57, 3) := by decide +kernel
theorem dX5_beginAs_23 : decode cX5_beginAs 23 = .ok (.if_icmp .ge 30, 3) := by decide +kernel
theorem dX5_beginAs_26 : decode cX5_beginAs 26 = .ok (.aload_n 0, 1) := by decide +kernel
theorem dX5_beginAs_27 : decode cX5_beginAs 27 = .ok (.getfield 11, 3) := by decide +kernel
theorem dX5_beginAs_30 : decode cX5_beginAs 30 = .ok (.iload_n 2, 1) := by decide +kernel
theorem dX5_beginAs_31 : decode cX5_beginAs 31 = .ok (.aaload, 1) := by decide +kernel
theorem dX5_beginAs_32 : decode cX5_beginAs 32 = .ok (.aload_n 1, 1) := by decide +kernel
theorem dX5_beginAs_33 : decode cX5_beginAs 33 = .ok (.getfield 60, 3) := by decide +kernel
theorem dX5_beginAs_36 : decode cX5_beginAs 36 = .ok (.iload_n 2, 1) := by decide +kernel
theorem dX5_beginAs_37 : decode cX5_beginAs 37 = .ok (.iaload, 1) := by decide +kernel
theorem dX5_beginAs_38 : decode cX5_beginAs 38 = .ok (.aload_n 1, 1) := by decide +kernel
theorem dX5_beginAs_39 : decode cX5_beginAs 39 = .ok (.getfield 63, 3) := by decide +kernel
theorem dX5_beginAs_42 : decode cX5_beginAs 42 = .ok (.iload_n 2, 1) := by decide +kernel
theorem dX5_beginAs_43 : decode cX5_beginAs 43 = .ok (.iaload, 1) := by decide +kernel
theorem dX5_beginAs_44 : decode cX5_beginAs 44 = .ok (.invokevirtual 66, 3) := by decide +kernel
theorem dX5_beginAs_47 : decode cX5_beginAs 47 = .ok (.iinc 2 1, 3) := by decide +kernel
theorem dX5_beginAs_50 : decode cX5_beginAs 50 = .ok (.goto (-32), 3) := by decide +kernel
theorem dX5_beginAs_53 : decode cX5_beginAs 53 = .ok (.aload_n 0, 1) := by decide +kernel
theorem dX5_beginAs_54 : decode cX5_beginAs 54 = .ok (.getfield 20, 3) := by decide +kernel
theorem dX5_beginAs_57 : decode cX5_beginAs 57 = .ok (.aload_n 1, 1) := by decide +kernel
theorem dX5_beginAs_58 : decode cX5_beginAs 58 = .ok (.getfield 70, 3) := by decide +kernel
theorem dX5_beginAs_61 : decode cX5_beginAs 61 = .ok (.invokevirtual 73, 3) := by decide +kernel
theorem dX5_beginAs_64 : decode cX5_beginAs 64 = .ok (.aload_n 0, 1) := by decide +kernel
theorem dX5_beginAs_65 : decode cX5_beginAs 65 = .ok (.getfield 24, 3) := by decide +kernel
theorem dX5_beginAs_68 : decode cX5_beginAs 68 = .ok (.aload_n 1, 1) := by decide +kernel
theorem dX5_beginAs_69 : decode cX5_beginAs 69 = .ok (.getfield 76, 3) := by decide +kernel
theorem dX5_beginAs_72 : decode cX5_beginAs 72 = .ok (.invokevirtual 73, 3) := by decide +kernel
theorem dX5_beginAs_75 : decode cX5_beginAs 75 = .ok (.iconst 0, 1) := by decide +kernel
theorem dX5_beginAs_76 : decode cX5_beginAs 76 = .ok (.istore_n 2, 1) := by decide +kernel
theorem dX5_beginAs_77 : decode cX5_beginAs 77 = .ok (.iload_n 2, 1) := by decide +kernel
theorem dX5_beginAs_78 : decode cX5_beginAs 78 = .ok (.aload_n 0, 1) := by decide +kernel
theorem dX5_beginAs_79 : decode cX5_beginAs 79 = .ok (.getfield 27, 3) := by decide +kernel
theorem dX5_beginAs_82 : decode cX5_beginAs 82 = .ok (.arraylength, 1) := by decide +kernel
theorem dX5_beginAs_83 : decode cX5_beginAs 83 = .ok (.if_icmp .ge 20, 3) := by decide +kernel
theorem dX5_beginAs_86 : decode cX5_beginAs 86 = .ok (.aload_n 0, 1) := by decide +kernel
theorem dX5_beginAs_87 : decode cX5_beginAs 87 = .ok (.getfield 27, 3) := by decide +kernel
theorem dX5_beginAs_90 : decode cX5_beginAs 90 = .ok (.iload_n 2, 1) := by decide +kernel
theorem dX5_beginAs_91 : decode cX5_beginAs 91 = .ok (.getstatic 79, 3) := by decide +kernel
theorem dX5_beginAs_94 : decode cX5_beginAs 94 = .ok (.iload_n 2, 1) := by decide +kernel
theorem dX5_beginAs_95 : decode cX5_beginAs 95 = .ok (.iaload, 1) := by decide +kernel
theorem dX5_beginAs_96 : decode cX5_beginAs 96 = .ok (.iastore, 1) := by decide +kernel
theorem dX5_beginAs_97 : decode cX5_beginAs 97 = .ok (.iinc 2 1, 3) := by decide +kernel
theorem dX5_beginAs_100 : decode cX5_beginAs 100 = .ok (.goto (-23), 3) := by decide +kernel
theorem dX5_beginAs_103 : decode cX5_beginAs 103 = .ok (.aload_n 0, 1) := by decide +kernel
theorem dX5_beginAs_104 : decode cX5_beginAs 104 = .ok (.getfield 34, 3) := by decide +kernel
theorem dX5_beginAs_107 : decode cX5_beginAs 107 = .ok (.aload_n 1, 1) := by decide +kernel
theorem dX5_beginAs_108 : decode cX5_beginAs 108 = .ok (.getfield 82, 3) := by decide +kernel
theorem dX5_beginAs_111 : decode cX5_beginAs 111 = .ok (.aload_n 1, 1) := by decide +kernel
theorem dX5_beginAs_112 : decode cX5_beginAs 112 = .ok (.getfield 85, 3) := by decide +kernel
theorem dX5_beginAs_115 : decode cX5_beginAs 115 = .ok (.invokevirtual 88, 3) := by decide +kernel
theorem dX5_beginAs_118 : decode cX5_beginAs 118 = .ok (.aload_n 0, 1) := by decide +kernel
theorem dX5_beginAs_119 : decode cX5_beginAs 119 = .ok (.getfield 41, 3) := by decide +kernel
theorem dX5_beginAs_122 : decode cX5_beginAs 122 = .ok (.invokevirtual 91, 3) := by decide +kernel
theorem dX5_beginAs_125 : decode cX5_beginAs 125 = .ok (.aload_n 0, 1) := by decide +kernel
theorem dX5_beginAs_126 : decode cX5_beginAs 126 = .ok (.iconst 0, 1) := by decide +kernel
theorem dX5_beginAs_127 : decode cX5_beginAs 127 = .ok (.putfield 94, 3) := by decide +kernel
theorem dX5_beginAs_130 : decode cX5_beginAs 130 = .ok (.aload_n 0, 1) := by decide +kernel
theorem dX5_beginAs_131 : decode cX5_beginAs 131 = .ok (.iconst 0, 1) := by decide +kernel
theorem dX5_beginAs_132 : decode cX5_beginAs 132 = .ok (.putfield 97, 3) := by decide +kernel
theorem dX5_beginAs_135 : decode cX5_beginAs 135 = .ok (.return_, 1) := by decide +kernel
theorem dX5_copyFrom_0 : decode cX5_copyFrom 0 = .ok (.aload_n 0, 1) := by decide +kernel
theorem dX5_copyFrom_1 : decode cX5_copyFrom 1 = .ok (.aload_n 1, 1) := by decide +kernel
theorem dX5_copyFrom_2 : decode cX5_copyFrom 2 = .ok (.getfield 57, 3) := by decide +kernel
theorem dX5_copyFrom_5 : decode cX5_copyFrom 5 = .ok (.putfield 57, 3) := by decide +kernel
theorem dX5_copyFrom_8 : decode cX5_copyFrom 8 = .ok (.iconst 0, 1) := by decide +kernel
theorem dX5_copyFrom_9 : decode cX5_copyFrom 9 = .ok (.istore_n 2, 1) := by decide +kernel
theorem dX5_copyFrom_10 : decode cX5_copyFrom 10 = .ok (.iload_n 2, 1) := by decide +kernel
theorem dX5_copyFrom_11 : decode cX5_copyFrom 11 = .ok (.aload_n 0, 1) := by decide +kernel
theorem dX5_copyFrom_12 : decode cX5_copyFrom 12 = .ok (.getfield 57, 3) := by decide +kernel
theorem dX5_copyFrom_15 : decode cX5_copyFrom 15 = .ok (.if_icmp .ge 24, 3) := by decide +kernel
theorem dX5_copyFrom_18 : decode cX5_copyFrom 18 = .ok (.aload_n 0, 1) := by decide +kernel
theorem dX5_copyFrom_19 : decode cX5_copyFrom 19 = .ok (.getfield 11, 3) := by decide +kernel
theorem dX5_copyFrom_22 : decode cX5_copyFrom 22 = .ok (.iload_n 2, 1) := by decide +kernel
theorem dX5_copyFrom_23 : decode cX5_copyFrom 23 = .ok (.aaload, 1) := by decide +kernel
theorem dX5_copyFrom_24 : decode cX5_copyFrom 24 = .ok (.aload_n 1, 1) := by decide +kernel
theorem dX5_copyFrom_25 : decode cX5_copyFrom 25 = .ok (.getfield 11, 3) := by decide +kernel
theorem dX5_copyFrom_28 : decode cX5_copyFrom 28 = .ok (.iload_n 2, 1) := by decide +kernel
theorem dX5_copyFrom_29 : decode cX5_copyFrom 29 = .ok (.aaload, 1) := by decide +kernel
theorem dX5_copyFrom_30 : decode cX5_copyFrom 30 = .ok (.invokevirtual 100, 3) := by decide +kernel
theorem dX5_copyFrom_33 : decode cX5_copyFrom 33 = .ok (.iinc 2 1, 3) := by decide +kernel
theorem dX5_copyFrom_36 : decode cX5_copyFrom 36 = .ok (.goto (-26), 3) := by decide +kernel
theorem dX5_copyFrom_39 : decode cX5_copyFrom 39 = .ok (.aload_n 0, 1) := by decide +kernel
theorem dX5_copyFrom_40 : decode cX5_copyFrom 40 = .ok (.getfield 20, 3) := by decide +kernel
theorem dX5_copyFrom_43 : decode cX5_copyFrom 43 = .ok (.aload_n 1, 1) := by decide +kernel
theorem dX5_copyFrom_44 : decode cX5_copyFrom 44 = .ok (.getfield 20, 3) := by decide +kernel
theorem dX5_copyFrom_47 : decode cX5_copyFrom 47 = .ok (.invokevirtual 104, 3) := by decide +kernel
theorem dX5_copyFrom_50 : decode cX5_copyFrom 50 = .ok (.aload_n 0, 1) := by decide +kernel
theorem dX5_copyFrom_51 : decode cX5_copyFrom 51 = .ok (.getfield 24, 3) := by decide +kernel
theorem dX5_copyFrom_54 : decode cX5_copyFrom 54 = .ok (.aload_n 1, 1) := by decide +kernel
theorem dX5_copyFrom_55 : decode cX5_copyFrom 55 = .ok (.getfield 24, 3) := by decide +kernel
theorem dX5_copyFrom_58 : decode cX5_copyFrom 58 = .ok (.invokevirtual 104, 3) := by decide +kernel
theorem dX5_copyFrom_61 : decode cX5_copyFrom 61 = .ok (.iconst 0, 1) := by decide +kernel
theorem dX5_copyFrom_62 : decode cX5_copyFrom 62 = .ok (.istore_n 2, 1) := by decide +kernel
theorem dX5_copyFrom_63 : decode cX5_copyFrom 63 = .ok (.iload_n 2, 1) := by decide +kernel
theorem dX5_copyFrom_64 : decode cX5_copyFrom 64 = .ok (.aload_n 0, 1) := by decide +kernel
theorem dX5_copyFrom_65 : decode cX5_copyFrom 65 = .ok (.getfield 27, 3) := by decide +kernel
theorem dX5_copyFrom_68 : decode cX5_copyFrom 68 = .ok (.arraylength, 1) := by decide +kernel
theorem dX5_copyFrom_69 : decode cX5_copyFrom 69 = .ok (.if_icmp .ge 21, 3) := by decide +kernel
theorem dX5_copyFrom_72 : decode cX5_copyFrom 72 = .ok (.aload_n 0, 1) := by decide +kernel
theorem dX5_copyFrom_73 : decode cX5_copyFrom 73 = .ok (.getfield 27, 3) := by decide +kernel
theorem dX5_copyFrom_76 : decode cX5_copyFrom 76 = .ok (.iload_n 2, 1) := by decide +kernel
theorem dX5_copyFrom_77 : decode cX5_copyFrom 77 = .ok (.aload_n 1, 1) := by decide +kernel
theorem dX5_copyFrom_78 : decode cX5_copyFrom 78 = .ok (.getfield 27, 3) := by decide +kernel
theorem dX5_copyFrom_81 : decode cX5_copyFrom 81 = .ok (.iload_n 2, 1) := by decide +kernel
theorem dX5_copyFrom_82 : decode cX5_copyFrom 82 = .ok (.iaload, 1) := by decide +kernel
theorem dX5_copyFrom_83 : decode cX5_copyFrom 83 = .ok (.iastore, 1) := by decide +kernel
theorem dX5_copyFrom_84 : decode cX5_copyFrom 84 = .ok (.iinc 2 1, 3) := by decide +kernel
theorem dX5_copyFrom_87 : decode cX5_copyFrom 87 = .ok (.goto (-24), 3) := by decide +kernel
theorem dX5_copyFrom_90 : decode cX5_copyFrom 90 = .ok (.aload_n 0, 1) := by decide +kernel
theorem dX5_copyFrom_91 : decode cX5_copyFrom 91 = .ok (.getfield 34, 3) := by decide +kernel
theorem dX5_copyFrom_94 : decode cX5_copyFrom 94 = .ok (.aload_n 1, 1) := by decide +kernel
theorem dX5_copyFrom_95 : decode cX5_copyFrom 95 = .ok (.getfield 34, 3) := by decide +kernel
theorem dX5_copyFrom_98 : decode cX5_copyFrom 98 = .ok (.invokevirtual 107, 3) := by decide +kernel
theorem dX5_copyFrom_101 : decode cX5_copyFrom 101 = .ok (.aload_n 0, 1) := by decide +kernel
theorem dX5_copyFrom_102 : decode cX5_copyFrom 102 = .ok (.getfield 41, 3) := by decide +kernel
theorem dX5_copyFrom_105 : decode cX5_copyFrom 105 = .ok (.aload_n 1, 1) := by decide +kernel
theorem dX5_copyFrom_106 : decode cX5_copyFrom 106 = .ok (.getfield 41, 3) := by decide +kernel
theorem dX5_copyFrom_109 : decode cX5_copyFrom 109 = .ok (.invokevirtual 110, 3) := by decide +kernel
theorem dX5_copyFrom_112 : decode cX5_copyFrom 112 = .ok (.aload_n 0, 1) := by decide +kernel
theorem dX5_copyFrom_113 : decode cX5_copyFrom 113 = .ok (.aload_n 1, 1) := by decide +kernel
theorem dX5_copyFrom_114 : decode cX5_copyFrom 114 = .ok (.getfield 94, 3) := by decide +kernel
theorem dX5_copyFrom_117 : decode cX5_copyFrom 117 = .ok (.putfield 94, 3) := by decide +kernel
theorem dX5_copyFrom_120 : decode cX5_copyFrom 120 = .ok (.aload_n 0, 1) := by decide +kernel
theorem dX5_copyFrom_121 : decode cX5_copyFrom 121 = .ok (.aload_n 1, 1) := by decide +kernel
theorem dX5_copyFrom_122 : decode cX5_copyFrom 122 = .ok (.getfield 97, 3) := by decide +kernel
theorem dX5_copyFrom_125 : decode cX5_copyFrom 125 = .ok (.putfield 97, 3) := by decide +kernel
theorem dX5_copyFrom_128 : decode cX5_copyFrom 128 = .ok (.return_, 1) := by decide +kernel
theorem dX5_hasBoiler_0 : decode cX5_hasBoiler 0 = .ok (.iload_n 1, 1) := by decide +kernel
theorem dX5_hasBoiler_1 : decode cX5_hasBoiler 1 = .ok (.ifCond .lt 15, 3) := by decide +kernel
theorem dX5_hasBoiler_4 : decode cX5_hasBoiler 4 = .ok (.iload_n 1, 1) := by decide +kernel
theorem dX5_hasBoiler_5 : decode cX5_hasBoiler 5 = .ok (.aload_n 0, 1) := by decide +kernel
theorem dX5_hasBoiler_6 : decode cX5_hasBoiler 6 = .ok (.getfield 57, 3) := by decide +kernel
theorem dX5_hasBoiler_9 : decode cX5_hasBoiler 9 = .ok (.if_icmp .ge 7, 3) := by decide +kernel
theorem dX5_hasBoiler_12 : decode cX5_hasBoiler 12 = .ok (.iconst 1, 1) := by decide +kernel
theorem dX5_hasBoiler_13 : decode cX5_hasBoiler 13 = .ok (.goto 4, 3) := by decide +kernel
theorem dX5_hasBoiler_16 : decode cX5_hasBoiler 16 = .ok (.iconst 0, 1) := by decide +kernel
theorem dX5_hasBoiler_17 : decode cX5_hasBoiler 17 = .ok (.ireturn, 1) := by decide +kernel
theorem dX5_flueOf_0 : decode cX5_flueOf 0 = .ok (.iload_n 1, 1) := by decide +kernel
theorem dX5_flueOf_1 : decode cX5_flueOf 1 = .ok (.ifCond .ne 10, 3) := by decide +kernel
theorem dX5_flueOf_4 : decode cX5_flueOf 4 = .ok (.aload_n 0, 1) := by decide +kernel
theorem dX5_flueOf_5 : decode cX5_flueOf 5 = .ok (.getfield 20, 3) := by decide +kernel
theorem dX5_flueOf_8 : decode cX5_flueOf 8 = .ok (.goto 7, 3) := by decide +kernel
theorem dX5_flueOf_11 : decode cX5_flueOf 11 = .ok (.aload_n 0, 1) := by decide +kernel
theorem dX5_flueOf_12 : decode cX5_flueOf 12 = .ok (.getfield 24, 3) := by decide +kernel
theorem dX5_flueOf_15 : decode cX5_flueOf 15 = .ok (.areturn, 1) := by decide +kernel
theorem dX5_useOf_0 : decode cX5_useOf 0 = .ok (.iconst 0, 1) := by decide +kernel
theorem dX5_useOf_1 : decode cX5_useOf 1 = .ok (.istore_n 2, 1) := by decide +kernel
theorem dX5_useOf_2 : decode cX5_useOf 2 = .ok (.iconst 0, 1) := by decide +kernel
theorem dX5_useOf_3 : decode cX5_useOf 3 = .ok (.istore_n 3, 1) := by decide +kernel
theorem dX5_useOf_4 : decode cX5_useOf 4 = .ok (.iload_n 3, 1) := by decide +kernel
theorem dX5_useOf_5 : decode cX5_useOf 5 = .ok (.aload_n 0, 1) := by decide +kernel
theorem dX5_useOf_6 : decode cX5_useOf 6 = .ok (.getfield 57, 3) := by decide +kernel
theorem dX5_useOf_9 : decode cX5_useOf 9 = .ok (.if_icmp .ge 52, 3) := by decide +kernel
theorem dX5_useOf_12 : decode cX5_useOf 12 = .ok (.aload_n 0, 1) := by decide +kernel
theorem dX5_useOf_13 : decode cX5_useOf 13 = .ok (.getfield 11, 3) := by decide +kernel
theorem dX5_useOf_16 : decode cX5_useOf 16 = .ok (.iload_n 3, 1) := by decide +kernel
theorem dX5_useOf_17 : decode cX5_useOf 17 = .ok (.aaload, 1) := by decide +kernel
theorem dX5_useOf_18 : decode cX5_useOf 18 = .ok (.astore 4, 2) := by decide +kernel
theorem dX5_useOf_20 : decode cX5_useOf 20 = .ok (.aload 4, 2) := by decide +kernel
theorem dX5_useOf_22 : decode cX5_useOf 22 = .ok (.getfield 113, 3) := by decide +kernel
theorem dX5_useOf_25 : decode cX5_useOf 25 = .ok (.iload_n 1, 1) := by decide +kernel
theorem dX5_useOf_26 : decode cX5_useOf 26 = .ok (.if_icmp .ne 29, 3) := by decide +kernel
theorem dX5_useOf_29 : decode cX5_useOf 29 = .ok (.aload 4, 2) := by decide +kernel
theorem dX5_useOf_31 : decode cX5_useOf 31 = .ok (.getfield 116, 3) := by decide +kernel
theorem dX5_useOf_34 : decode cX5_useOf 34 = .ok (.iconst 1, 1) := by decide +kernel
theorem dX5_useOf_35 : decode cX5_useOf 35 = .ok (.if_icmp .eq 12, 3) := by decide +kernel
theorem dX5_useOf_38 : decode cX5_useOf 38 = .ok (.aload 4, 2) := by decide +kernel
theorem dX5_useOf_40 : decode cX5_useOf 40 = .ok (.getfield 116, 3) := by decide +kernel
theorem dX5_useOf_43 : decode cX5_useOf 43 = .ok (.iconst 2, 1) := by decide +kernel
theorem dX5_useOf_44 : decode cX5_useOf 44 = .ok (.if_icmp .ne 11, 3) := by decide +kernel
theorem dX5_useOf_47 : decode cX5_useOf 47 = .ok (.iload_n 2, 1) := by decide +kernel
theorem dX5_useOf_48 : decode cX5_useOf 48 = .ok (.aload 4, 2) := by decide +kernel
theorem dX5_useOf_50 : decode cX5_useOf 50 = .ok (.getfield 119, 3) := by decide +kernel
theorem dX5_useOf_53 : decode cX5_useOf 53 = .ok (.iadd, 1) := by decide +kernel
theorem dX5_useOf_54 : decode cX5_useOf 54 = .ok (.istore_n 2, 1) := by decide +kernel
theorem dX5_useOf_55 : decode cX5_useOf 55 = .ok (.iinc 3 1, 3) := by decide +kernel
theorem dX5_useOf_58 : decode cX5_useOf 58 = .ok (.goto (-54), 3) := by decide +kernel
theorem dX5_useOf_61 : decode cX5_useOf 61 = .ok (.iload_n 2, 1) := by decide +kernel
theorem dX5_useOf_62 : decode cX5_useOf 62 = .ok (.ireturn, 1) := by decide +kernel
theorem dX5_countAtFlue_0 : decode cX5_countAtFlue 0 = .ok (.iconst 0, 1) := by decide +kernel
theorem dX5_countAtFlue_1 : decode cX5_countAtFlue 1 = .ok (.istore_n 2, 1) := by decide +kernel
theorem dX5_countAtFlue_2 : decode cX5_countAtFlue 2 = .ok (.iconst 0, 1) := by decide +kernel
theorem dX5_countAtFlue_3 : decode cX5_countAtFlue 3 = .ok (.istore_n 3, 1) := by decide +kernel
theorem dX5_countAtFlue_4 : decode cX5_countAtFlue 4 = .ok (.iload_n 3, 1) := by decide +kernel
theorem dX5_countAtFlue_5 : decode cX5_countAtFlue 5 = .ok (.aload_n 0, 1) := by decide +kernel
theorem dX5_countAtFlue_6 : decode cX5_countAtFlue 6 = .ok (.getfield 57, 3) := by decide +kernel
theorem dX5_countAtFlue_9 : decode cX5_countAtFlue 9 = .ok (.if_icmp .ge 25, 3) := by decide +kernel
theorem dX5_countAtFlue_12 : decode cX5_countAtFlue 12 = .ok (.aload_n 0, 1) := by decide +kernel
theorem dX5_countAtFlue_13 : decode cX5_countAtFlue 13 = .ok (.getfield 11, 3) := by decide +kernel
theorem dX5_countAtFlue_16 : decode cX5_countAtFlue 16 = .ok (.iload_n 3, 1) := by decide +kernel
theorem dX5_countAtFlue_17 : decode cX5_countAtFlue 17 = .ok (.aaload, 1) := by decide +kernel
theorem dX5_countAtFlue_18 : decode cX5_countAtFlue 18 = .ok (.getfield 113, 3) := by decide +kernel
theorem dX5_countAtFlue_21 : decode cX5_countAtFlue 21 = .ok (.iload_n 1, 1) := by decide +kernel
theorem dX5_countAtFlue_22 : decode cX5_countAtFlue 22 = .ok (.if_icmp .ne 6, 3) := by decide +kernel
theorem dX5_countAtFlue_25 : decode cX5_countAtFlue 25 = .ok (.iinc 2 1, 3) := by decide +kernel
theorem dX5_countAtFlue_28 : decode cX5_countAtFlue 28 = .ok (.iinc 3 1, 3) := by decide +kernel
theorem dX5_countAtFlue_31 : decode cX5_countAtFlue 31 = .ok (.goto (-27), 3) := by decide +kernel
theorem dX5_countAtFlue_34 : decode cX5_countAtFlue 34 = .ok (.iload_n 2, 1) := by decide +kernel
theorem dX5_countAtFlue_35 : decode cX5_countAtFlue 35 = .ok (.ireturn, 1) := by decide +kernel
theorem dX5_countInState_0 : decode cX5_countInState 0 = .ok (.iconst 0, 1) := by decide +kernel
theorem dX5_countInState_1 : decode cX5_countInState 1 = .ok (.istore_n 2, 1) := by decide +kernel
theorem dX5_countInState_2 : decode cX5_countInState 2 = .ok (.iconst 0, 1) := by decide +kernel
theorem dX5_countInState_3 : decode cX5_countInState 3 = .ok (.istore_n 3, 1) := by decide +kernel
theorem dX5_countInState_4 : decode cX5_countInState 4 = .ok (.iload_n 3, 1) := by decide +kernel
theorem dX5_countInState_5 : decode cX5_countInState 5 = .ok (.aload_n 0, 1) := by decide +kernel
theorem dX5_countInState_6 : decode cX5_countInState 6 = .ok (.getfield 57, 3) := by decide +kernel
theorem dX5_countInState_9 : decode cX5_countInState 9 = .ok (.if_icmp .ge 25, 3) := by decide +kernel
theorem dX5_countInState_12 : decode cX5_countInState 12 = .ok (.aload_n 0, 1) := by decide +kernel
theorem dX5_countInState_13 : decode cX5_countInState 13 = .ok (.getfield 11, 3) := by decide +kernel
theorem dX5_countInState_16 : decode cX5_countInState 16 = .ok (.iload_n 3, 1) := by decide +kernel
theorem dX5_countInState_17 : decode cX5_countInState 17 = .ok (.aaload, 1) := by decide +kernel
theorem dX5_countInState_18 : decode cX5_countInState 18 = .ok (.getfield 116, 3) := by decide +kernel
theorem dX5_countInState_21 : decode cX5_countInState 21 = .ok (.iload_n 1, 1) := by decide +kernel
theorem dX5_countInState_22 : decode cX5_countInState 22 = .ok (.if_icmp .ne 6, 3) := by decide +kernel
theorem dX5_countInState_25 : decode cX5_countInState 25 = .ok (.iinc 2 1, 3) := by decide +kernel
theorem dX5_countInState_28 : decode cX5_countInState 28 = .ok (.iinc 3 1, 3) := by decide +kernel
theorem dX5_countInState_31 : decode cX5_countInState 31 = .ok (.goto (-27), 3) := by decide +kernel
theorem dX5_countInState_34 : decode cX5_countInState 34 = .ok (.iload_n 2, 1) := by decide +kernel
theorem dX5_countInState_35 : decode cX5_countInState 35 = .ok (.ireturn, 1) := by decide +kernel
theorem dX5_fuel_0 : decode cX5_fuel 0 = .ok (.iconst 0, 1) := by decide +kernel
theorem dX5_fuel_1 : decode cX5_fuel 1 = .ok (.istore_n 1, 1) := by decide +kernel
theorem dX5_fuel_2 : decode cX5_fuel 2 = .ok (.iconst 0, 1) := by decide +kernel
theorem dX5_fuel_3 : decode cX5_fuel 3 = .ok (.istore_n 2, 1) := by decide +kernel
theorem dX5_fuel_4 : decode cX5_fuel 4 = .ok (.iload_n 2, 1) := by decide +kernel
theorem dX5_fuel_5 : decode cX5_fuel 5 = .ok (.aload_n 0, 1) := by decide +kernel
theorem dX5_fuel_6 : decode cX5_fuel 6 = .ok (.getfield 57, 3) := by decide +kernel
theorem dX5_fuel_9 : decode cX5_fuel 9 = .ok (.if_icmp .ge 21, 3) := by decide +kernel
theorem dX5_fuel_12 : decode cX5_fuel 12 = .ok (.iload_n 1, 1) := by decide +kernel
theorem dX5_fuel_13 : decode cX5_fuel 13 = .ok (.aload_n 0, 1) := by decide +kernel
theorem dX5_fuel_14 : decode cX5_fuel 14 = .ok (.getfield 11, 3) := by decide +kernel
theorem dX5_fuel_17 : decode cX5_fuel 17 = .ok (.iload_n 2, 1) := by decide +kernel
theorem dX5_fuel_18 : decode cX5_fuel 18 = .ok (.aaload, 1) := by decide +kernel
theorem dX5_fuel_19 : decode cX5_fuel 19 = .ok (.getfield 122, 3) := by decide +kernel
theorem dX5_fuel_22 : decode cX5_fuel 22 = .ok (.iadd, 1) := by decide +kernel
theorem dX5_fuel_23 : decode cX5_fuel 23 = .ok (.istore_n 1, 1) := by decide +kernel
theorem dX5_fuel_24 : decode cX5_fuel 24 = .ok (.iinc 2 1, 3) := by decide +kernel
theorem dX5_fuel_27 : decode cX5_fuel 27 = .ok (.goto (-23), 3) := by decide +kernel
theorem dX5_fuel_30 : decode cX5_fuel 30 = .ok (.iload_n 1, 1) := by decide +kernel
theorem dX5_fuel_31 : decode cX5_fuel 31 = .ok (.ireturn, 1) := by decide +kernel
theorem dX5_starts_0 : decode cX5_starts 0 = .ok (.iconst 0, 1) := by decide +kernel
theorem dX5_starts_1 : decode cX5_starts 1 = .ok (.istore_n 1, 1) := by decide +kernel
theorem dX5_starts_2 : decode cX5_starts 2 = .ok (.iconst 0, 1) := by decide +kernel
theorem dX5_starts_3 : decode cX5_starts 3 = .ok (.istore_n 2, 1) := by decide +kernel
theorem dX5_starts_4 : decode cX5_starts 4 = .ok (.iload_n 2, 1) := by decide +kernel
theorem dX5_starts_5 : decode cX5_starts 5 = .ok (.aload_n 0, 1) := by decide +kernel
theorem dX5_starts_6 : decode cX5_starts 6 = .ok (.getfield 57, 3) := by decide +kernel
theorem dX5_starts_9 : decode cX5_starts 9 = .ok (.if_icmp .ge 21, 3) := by decide +kernel
theorem dX5_starts_12 : decode cX5_starts 12 = .ok (.iload_n 1, 1) := by decide +kernel
theorem dX5_starts_13 : decode cX5_starts 13 = .ok (.aload_n 0, 1) := by decide +kernel
theorem dX5_starts_14 : decode cX5_starts 14 = .ok (.getfield 11, 3) := by decide +kernel
theorem dX5_starts_17 : decode cX5_starts 17 = .ok (.iload_n 2, 1) := by decide +kernel
theorem dX5_starts_18 : decode cX5_starts 18 = .ok (.aaload, 1) := by decide +kernel
theorem dX5_starts_19 : decode cX5_starts 19 = .ok (.getfield 125, 3) := by decide +kernel
theorem dX5_starts_22 : decode cX5_starts 22 = .ok (.iadd, 1) := by decide +kernel
theorem dX5_starts_23 : decode cX5_starts 23 = .ok (.istore_n 1, 1) := by decide +kernel
theorem dX5_starts_24 : decode cX5_starts 24 = .ok (.iinc 2 1, 3) := by decide +kernel
theorem dX5_starts_27 : decode cX5_starts 27 = .ok (.goto (-23), 3) := by decide +kernel
theorem dX5_starts_30 : decode cX5_starts 30 = .ok (.iload_n 1, 1) := by decide +kernel
theorem dX5_starts_31 : decode cX5_starts 31 = .ok (.ireturn, 1) := by decide +kernel
theorem dX5_hasRoomFor_0 : decode cX5_hasRoomFor 0 = .ok (.aload_n 0, 1) := by decide +kernel
theorem dX5_hasRoomFor_1 : decode cX5_hasRoomFor 1 = .ok (.aload_n 1, 1) := by decide +kernel
theorem dX5_hasRoomFor_2 : decode cX5_hasRoomFor 2 = .ok (.getfield 113, 3) := by decide +kernel
theorem dX5_hasRoomFor_5 : decode cX5_hasRoomFor 5 = .ok (.invokevirtual 128, 3) := by decide +kernel
theorem dX5_hasRoomFor_8 : decode cX5_hasRoomFor 8 = .ok (.astore_n 2, 1) := by decide +kernel
theorem dX5_hasRoomFor_9 : decode cX5_hasRoomFor 9 = .ok (.aload_n 2, 1) := by decide +kernel
theorem dX5_hasRoomFor_10 : decode cX5_hasRoomFor 10 = .ok (.getfield 132, 3) := by decide +kernel
theorem dX5_hasRoomFor_13 : decode cX5_hasRoomFor 13 = .ok (.ifCond .eq 27, 3) := by decide +kernel
theorem dX5_hasRoomFor_16 : decode cX5_hasRoomFor 16 = .ok (.aload_n 0, 1) := by decide +kernel
theorem dX5_hasRoomFor_17 : decode cX5_hasRoomFor 17 = .ok (.aload_n 1, 1) := by decide +kernel
theorem dX5_hasRoomFor_18 : decode cX5_hasRoomFor 18 = .ok (.getfield 113, 3) := by decide +kernel
theorem dX5_hasRoomFor_21 : decode cX5_hasRoomFor 21 = .ok (.invokevirtual 136, 3) := by decide +kernel
theorem dX5_hasRoomFor_24 : decode cX5_hasRoomFor 24 = .ok (.aload_n 1, 1) := by decide +kernel
theorem dX5_hasRoomFor_25 : decode cX5_hasRoomFor 25 = .ok (.getfield 119, 3) := by decide +kernel
theorem dX5_hasRoomFor_28 : decode cX5_hasRoomFor 28 = .ok (.iadd, 1) := by decide +kernel
theorem dX5_hasRoomFor_29 : decode cX5_hasRoomFor 29 = .ok (.aload_n 2, 1) := by decide +kernel
theorem dX5_hasRoomFor_30 : decode cX5_hasRoomFor 30 = .ok (.getfield 140, 3) := by decide +kernel
theorem dX5_hasRoomFor_33 : decode cX5_hasRoomFor 33 = .ok (.if_icmp .gt 7, 3) := by decide +kernel
theorem dX5_hasRoomFor_36 : decode cX5_hasRoomFor 36 = .ok (.iconst 1, 1) := by decide +kernel
theorem dX5_hasRoomFor_37 : decode cX5_hasRoomFor 37 = .ok (.goto 4, 3) := by decide +kernel
theorem dX5_hasRoomFor_40 : decode cX5_hasRoomFor 40 = .ok (.iconst 0, 1) := by decide +kernel
theorem dX5_hasRoomFor_41 : decode cX5_hasRoomFor 41 = .ok (.ireturn, 1) := by decide +kernel
theorem dX5_firstToStart_0 : decode cX5_firstToStart 0 = .ok (.bipush (-9), 2) := by decide +kernel
theorem dX5_firstToStart_2 : decode cX5_firstToStart 2 = .ok (.istore_n 1, 1) := by decide +kernel
theorem dX5_firstToStart_3 : decode cX5_firstToStart 3 = .ok (.iconst 0, 1) := by decide +kernel
theorem dX5_firstToStart_4 : decode cX5_firstToStart 4 = .ok (.istore_n 2, 1) := by decide +kernel
theorem dX5_firstToStart_5 : decode cX5_firstToStart 5 = .ok (.iconst 0, 1) := by decide +kernel
theorem dX5_firstToStart_6 : decode cX5_firstToStart 6 = .ok (.istore_n 3, 1) := by decide +kernel
theorem dX5_firstToStart_7 : decode cX5_firstToStart 7 = .ok (.iload_n 3, 1) := by decide +kernel
theorem dX5_firstToStart_8 : decode cX5_firstToStart 8 = .ok (.aload_n 0, 1) := by decide +kernel
theorem dX5_firstToStart_9 : decode cX5_firstToStart 9 = .ok (.getfield 57, 3) := by decide +kernel
theorem dX5_firstToStart_12 : decode cX5_firstToStart 12 = .ok (.if_icmp .ge 57, 3) := by decide +kernel
theorem dX5_firstToStart_15 : decode cX5_firstToStart 15 = .ok (.aload_n 0, 1) := by decide +kernel
theorem dX5_firstToStart_16 : decode cX5_firstToStart 16 = .ok (.getfield 11, 3) := by decide +kernel
theorem dX5_firstToStart_19 : decode cX5_firstToStart 19 = .ok (.iload_n 3, 1) := by decide +kernel
theorem dX5_firstToStart_20 : decode cX5_firstToStart 20 = .ok (.aaload, 1) := by decide +kernel
theorem dX5_firstToStart_21 : decode cX5_firstToStart 21 = .ok (.astore 4, 2) := by decide +kernel
theorem dX5_firstToStart_23 : decode cX5_firstToStart 23 = .ok (.aload 4, 2) := by decide +kernel
theorem dX5_firstToStart_25 : decode cX5_firstToStart 25 = .ok (.invokevirtual 143, 3) := by decide +kernel
theorem dX5_firstToStart_28 : decode cX5_firstToStart 28 = .ok (.ifCond .eq 35, 3) := by decide +kernel
theorem dX5_firstToStart_31 : decode cX5_firstToStart 31 = .ok (.iload_n 1, 1) := by decide +kernel
theorem dX5_firstToStart_32 : decode cX5_firstToStart 32 = .ok (.bipush (-9), 2) := by decide +kernel
theorem dX5_firstToStart_34 : decode cX5_firstToStart 34 = .ok (.if_icmp .eq 12, 3) := by decide +kernel
theorem dX5_firstToStart_37 : decode cX5_firstToStart 37 = .ok (.aload 4, 2) := by decide +kernel
theorem dX5_firstToStart_39 : decode cX5_firstToStart 39 = .ok (.getfield 147, 3) := by decide +kernel
theorem dX5_firstToStart_42 : decode cX5_firstToStart 42 = .ok (.iload_n 2, 1) := by decide +kernel
theorem dX5_firstToStart_43 : decode cX5_firstToStart 43 = .ok (.if_icmp .ge 20, 3) := by decide +kernel
theorem dX5_firstToStart_46 : decode cX5_firstToStart 46 = .ok (.aload_n 0, 1) := by decide +kernel
theorem dX5_firstToStart_47 : decode cX5_firstToStart 47 = .ok (.aload 4, 2) := by decide +kernel
theorem dX5_firstToStart_49 : decode cX5_firstToStart 49 = .ok (.invokevirtual 150, 3) := by decide +kernel
theorem dX5_firstToStart_52 : decode cX5_firstToStart 52 = .ok (.ifCond .eq 11, 3) := by decide +kernel
theorem dX5_firstToStart_55 : decode cX5_firstToStart 55 = .ok (.iload_n 3, 1) := by decide +kernel
theorem dX5_firstToStart_56 : decode cX5_firstToStart 56 = .ok (.istore_n 1, 1) := by decide +kernel
theorem dX5_firstToStart_57 : decode cX5_firstToStart 57 = .ok (.aload 4, 2) := by decide +kernel
theorem dX5_firstToStart_59 : decode cX5_firstToStart 59 = .ok (.getfield 147, 3) := by decide +kernel
theorem dX5_firstToStart_62 : decode cX5_firstToStart 62 = .ok (.istore_n 2, 1) := by decide +kernel
theorem dX5_firstToStart_63 : decode cX5_firstToStart 63 = .ok (.iinc 3 1, 3) := by decide +kernel
theorem dX5_firstToStart_66 : decode cX5_firstToStart 66 = .ok (.goto (-59), 3) := by decide +kernel
theorem dX5_firstToStart_69 : decode cX5_firstToStart 69 = .ok (.iload_n 1, 1) := by decide +kernel
theorem dX5_firstToStart_70 : decode cX5_firstToStart 70 = .ok (.ireturn, 1) := by decide +kernel
theorem dX5_firstToRest_0 : decode cX5_firstToRest 0 = .ok (.bipush (-9), 2) := by decide +kernel
theorem dX5_firstToRest_2 : decode cX5_firstToRest 2 = .ok (.istore_n 1, 1) := by decide +kernel
theorem dX5_firstToRest_3 : decode cX5_firstToRest 3 = .ok (.iconst 0, 1) := by decide +kernel
theorem dX5_firstToRest_4 : decode cX5_firstToRest 4 = .ok (.istore_n 2, 1) := by decide +kernel
theorem dX5_firstToRest_5 : decode cX5_firstToRest 5 = .ok (.iconst 0, 1) := by decide +kernel
theorem dX5_firstToRest_6 : decode cX5_firstToRest 6 = .ok (.istore_n 3, 1) := by decide +kernel
theorem dX5_firstToRest_7 : decode cX5_firstToRest 7 = .ok (.iload_n 3, 1) := by decide +kernel
theorem dX5_firstToRest_8 : decode cX5_firstToRest 8 = .ok (.aload_n 0, 1) := by decide +kernel
theorem dX5_firstToRest_9 : decode cX5_firstToRest 9 = .ok (.getfield 57, 3) := by decide +kernel
theorem dX5_firstToRest_12 : decode cX5_firstToRest 12 = .ok (.if_icmp .ge 47, 3) := by decide +kernel
theorem dX5_firstToRest_15 : decode cX5_firstToRest 15 = .ok (.aload_n 0, 1) := by decide +kernel
theorem dX5_firstToRest_16 : decode cX5_firstToRest 16 = .ok (.getfield 11, 3) := by decide +kernel
theorem dX5_firstToRest_19 : decode cX5_firstToRest 19 = .ok (.iload_n 3, 1) := by decide +kernel
theorem dX5_firstToRest_20 : decode cX5_firstToRest 20 = .ok (.aaload, 1) := by decide +kernel
theorem dX5_firstToRest_21 : decode cX5_firstToRest 21 = .ok (.getfield 116, 3) := by decide +kernel
theorem dX5_firstToRest_24 : decode cX5_firstToRest 24 = .ok (.iconst 2, 1) := by decide +kernel
theorem dX5_firstToRest_25 : decode cX5_firstToRest 25 = .ok (.if_icmp .ne 28, 3) := by decide +kernel
theorem dX5_firstToRest_28 : decode cX5_firstToRest 28 = .ok (.aload_n 0, 1) := by decide +kernel
theorem dX5_firstToRest_29 : decode cX5_firstToRest 29 = .ok (.getfield 11, 3) := by decide +kernel
theorem dX5_firstToRest_32 : decode cX5_firstToRest 32 = .ok (.iload_n 3, 1) := by decide +kernel
theorem dX5_firstToRest_33 : decode cX5_firstToRest 33 = .ok (.aaload, 1) := by decide +kernel
theorem dX5_firstToRest_34 : decode cX5_firstToRest 34 = .ok (.getfield 147, 3) := by decide +kernel
theorem dX5_firstToRest_37 : decode cX5_firstToRest 37 = .ok (.iload_n 2, 1) := by decide +kernel
theorem dX5_firstToRest_38 : decode cX5_firstToRest 38 = .ok (.if_icmp .lt 15, 3) := by decide +kernel
theorem dX5_firstToRest_41 : decode cX5_firstToRest 41 = .ok (.iload_n 3, 1) := by decide +kernel
theorem dX5_firstToRest_42 : decode cX5_firstToRest 42 = .ok (.istore_n 1, 1) := by decide +kernel
theorem dX5_firstToRest_43 : decode cX5_firstToRest 43 = .ok (.aload_n 0, 1) := by decide +kernel
theorem dX5_firstToRest_44 : decode cX5_firstToRest 44 = .ok (.getfield 11, 3) := by decide +kernel
theorem dX5_firstToRest_47 : decode cX5_firstToRest 47 = .ok (.iload_n 3, 1) := by decide +kernel
theorem dX5_firstToRest_48 : decode cX5_firstToRest 48 = .ok (.aaload, 1) := by decide +kernel
theorem dX5_firstToRest_49 : decode cX5_firstToRest 49 = .ok (.getfield 147, 3) := by decide +kernel
theorem dX5_firstToRest_52 : decode cX5_firstToRest 52 = .ok (.istore_n 2, 1) := by decide +kernel
theorem dX5_firstToRest_53 : decode cX5_firstToRest 53 = .ok (.iinc 3 1, 3) := by decide +kernel
theorem dX5_firstToRest_56 : decode cX5_firstToRest 56 = .ok (.goto (-49), 3) := by decide +kernel
theorem dX5_firstToRest_59 : decode cX5_firstToRest 59 = .ok (.iload_n 1, 1) := by decide +kernel
theorem dX5_firstToRest_60 : decode cX5_firstToRest 60 = .ok (.ireturn, 1) := by decide +kernel
theorem dX5_moveFlue_0 : decode cX5_moveFlue 0 = .ok (.aload_n 0, 1) := by decide +kernel
theorem dX5_moveFlue_1 : decode cX5_moveFlue 1 = .ok (.iload_n 1, 1) := by decide +kernel
theorem dX5_moveFlue_2 : decode cX5_moveFlue 2 = .ok (.invokevirtual 128, 3) := by decide +kernel
theorem dX5_moveFlue_5 : decode cX5_moveFlue 5 = .ok (.iload_n 2, 1) := by decide +kernel
theorem dX5_moveFlue_6 : decode cX5_moveFlue 6 = .ok (.putfield 132, 3) := by decide +kernel
theorem dX5_moveFlue_9 : decode cX5_moveFlue 9 = .ok (.iconst 0, 1) := by decide +kernel
theorem dX5_moveFlue_10 : decode cX5_moveFlue 10 = .ok (.istore_n 3, 1) := by decide +kernel
theorem dX5_moveFlue_11 : decode cX5_moveFlue 11 = .ok (.iconst 0, 1) := by decide +kernel
theorem dX5_moveFlue_12 : decode cX5_moveFlue 12 = .ok (.istore 4, 2) := by decide +kernel
theorem dX5_moveFlue_14 : decode cX5_moveFlue 14 = .ok (.iload 4, 2) := by decide +kernel
theorem dX5_moveFlue_16 : decode cX5_moveFlue 16 = .ok (.aload_n 0, 1) := by decide +kernel
theorem dX5_moveFlue_17 : decode cX5_moveFlue 17 = .ok (.getfield 57, 3) := by decide +kernel
theorem dX5_moveFlue_20 : decode cX5_moveFlue 20 = .ok (.if_icmp .ge 57, 3) := by decide +kernel
theorem dX5_moveFlue_23 : decode cX5_moveFlue 23 = .ok (.iload_n 2, 1) := by decide +kernel
theorem dX5_moveFlue_24 : decode cX5_moveFlue 24 = .ok (.ifCond .ne 53, 3) := by decide +kernel
theorem dX5_moveFlue_27 : decode cX5_moveFlue 27 = .ok (.aload_n 0, 1) := by decide +kernel
theorem dX5_moveFlue_28 : decode cX5_moveFlue 28 = .ok (.getfield 11, 3) := by decide +kernel
theorem dX5_moveFlue_31 : decode cX5_moveFlue 31 = .ok (.iload 4, 2) := by decide +kernel
theorem dX5_moveFlue_33 : decode cX5_moveFlue 33 = .ok (.aaload, 1) := by decide +kernel
theorem dX5_moveFlue_34 : decode cX5_moveFlue 34 = .ok (.astore 5, 2) := by decide +kernel
theorem dX5_moveFlue_36 : decode cX5_moveFlue 36 = .ok (.aload 5, 2) := by decide +kernel
theorem dX5_moveFlue_38 : decode cX5_moveFlue 38 = .ok (.getfield 113, 3) := by decide +kernel
theorem dX5_moveFlue_41 : decode cX5_moveFlue 41 = .ok (.iload_n 1, 1) := by decide +kernel
theorem dX5_moveFlue_42 : decode cX5_moveFlue 42 = .ok (.if_icmp .ne 29, 3) := by decide +kernel
theorem dX5_moveFlue_45 : decode cX5_moveFlue 45 = .ok (.aload 5, 2) := by decide +kernel
theorem dX5_moveFlue_47 : decode cX5_moveFlue 47 = .ok (.getfield 116, 3) := by decide +kernel
theorem dX5_moveFlue_50 : decode cX5_moveFlue 50 = .ok (.ifCond .eq 21, 3) := by decide +kernel
theorem dX5_moveFlue_53 : decode cX5_moveFlue 53 = .ok (.aload 5, 2) := by decide +kernel
theorem dX5_moveFlue_55 : decode cX5_moveFlue 55 = .ok (.getfield 116, 3) := by decide +kernel
theorem dX5_moveFlue_58 : decode cX5_moveFlue 58 = .ok (.iconst 4, 1) := by decide +kernel
theorem dX5_moveFlue_59 : decode cX5_moveFlue 59 = .ok (.if_icmp .eq 12, 3) := by decide +kernel
theorem dX5_moveFlue_62 : decode cX5_moveFlue 62 = .ok (.aload 5, 2) := by decide +kernel
theorem dX5_moveFlue_64 : decode cX5_moveFlue 64 = .ok (.iconst 0, 1) := by decide +kernel
theorem dX5_moveFlue_65 : decode cX5_moveFlue 65 = .ok (.invokevirtual 154, 3) := by decide +kernel
theorem dX5_moveFlue_68 : decode cX5_moveFlue 68 = .ok (.iinc 3 1, 3) := by decide +kernel
theorem dX5_moveFlue_71 : decode cX5_moveFlue 71 = .ok (.iinc 4 1, 3) := by decide +kernel
theorem dX5_moveFlue_74 : decode cX5_moveFlue 74 = .ok (.goto (-60), 3) := by decide +kernel
theorem dX5_moveFlue_77 : decode cX5_moveFlue 77 = .ok (.iload_n 3, 1) := by decide +kernel
theorem dX5_moveFlue_78 : decode cX5_moveFlue 78 = .ok (.ireturn, 1) := by decide +kernel
theorem dX5_passTicks_0 : decode cX5_passTicks 0 = .ok (.iconst 0, 1) := by decide +kernel
theorem dX5_passTicks_1 : decode cX5_passTicks 1 = .ok (.istore_n 3, 1) := by decide +kernel
theorem dX5_passTicks_2 : decode cX5_passTicks 2 = .ok (.iload_n 3, 1) := by decide +kernel
theorem dX5_passTicks_3 : decode cX5_passTicks 3 = .ok (.iload_n 1, 1) := by decide +kernel
theorem dX5_passTicks_4 : decode cX5_passTicks 4 = .ok (.if_icmp .ge 164, 3) := by decide +kernel
theorem dX5_passTicks_7 : decode cX5_passTicks 7 = .ok (.aload_n 0, 1) := by decide +kernel
theorem dX5_passTicks_8 : decode cX5_passTicks 8 = .ok (.getfield 34, 3) := by decide +kernel
theorem dX5_passTicks_11 : decode cX5_passTicks 11 = .ok (.iload_n 2, 1) := by decide +kernel
theorem dX5_passTicks_12 : decode cX5_passTicks 12 = .ok (.invokevirtual 157, 3) := by decide +kernel
theorem dX5_passTicks_15 : decode cX5_passTicks 15 = .ok (.pop, 1) := by decide +kernel
theorem dX5_passTicks_16 : decode cX5_passTicks 16 = .ok (.aload_n 0, 1) := by decide +kernel
theorem dX5_passTicks_17 : decode cX5_passTicks 17 = .ok (.getfield 94, 3) := by decide +kernel
theorem dX5_passTicks_20 : decode cX5_passTicks 20 = .ok (.bipush 24, 2) := by decide +kernel
theorem dX5_passTicks_22 : decode cX5_passTicks 22 = .ok (.irem, 1) := by decide +kernel
theorem dX5_passTicks_23 : decode cX5_passTicks 23 = .ok (.aload_n 0, 1) := by decide +kernel
theorem dX5_passTicks_24 : decode cX5_passTicks 24 = .ok (.getfield 27, 3) := by decide +kernel
theorem dX5_passTicks_27 : decode cX5_passTicks 27 = .ok (.iconst 5, 1) := by decide +kernel
theorem dX5_passTicks_28 : decode cX5_passTicks 28 = .ok (.iaload, 1) := by decide +kernel
theorem dX5_passTicks_29 : decode cX5_passTicks 29 = .ok (.if_icmp .ne 11, 3) := by decide +kernel
theorem dX5_passTicks_32 : decode cX5_passTicks 32 = .ok (.aload_n 0, 1) := by decide +kernel
theorem dX5_passTicks_33 : decode cX5_passTicks 33 = .ok (.getfield 41, 3) := by decide +kernel
theorem dX5_passTicks_36 : decode cX5_passTicks 36 = .ok (.iconst 1, 1) := by decide +kernel
theorem dX5_passTicks_37 : decode cX5_passTicks 37 = .ok (.putfield 160, 3) := by decide +kernel
theorem dX5_passTicks_40 : decode cX5_passTicks 40 = .ok (.aload_n 0, 1) := by decide +kernel
theorem dX5_passTicks_41 : decode cX5_passTicks 41 = .ok (.aload_n 0, 1) := by decide +kernel
theorem dX5_passTicks_42 : decode cX5_passTicks 42 = .ok (.getfield 41, 3) := by decide +kernel
theorem dX5_passTicks_45 : decode cX5_passTicks 45 = .ok (.getfield 160, 3) := by decide +kernel
theorem dX5_passTicks_48 : decode cX5_passTicks 48 = .ok (.ifCond .eq 12, 3) := by decide +kernel
theorem dX5_passTicks_51 : decode cX5_passTicks 51 = .ok (.aload_n 0, 1) := by decide +kernel
theorem dX5_passTicks_52 : decode cX5_passTicks 52 = .ok (.getfield 27, 3) := by decide +kernel
theorem dX5_passTicks_55 : decode cX5_passTicks 55 = .ok (.iconst 3, 1) := by decide +kernel
theorem dX5_passTicks_56 : decode cX5_passTicks 56 = .ok (.iaload, 1) := by decide +kernel
theorem dX5_passTicks_57 : decode cX5_passTicks 57 = .ok (.goto 9, 3) := by decide +kernel
theorem dX5_passTicks_60 : decode cX5_passTicks 60 = .ok (.aload_n 0, 1) := by decide +kernel
theorem dX5_passTicks_61 : decode cX5_passTicks 61 = .ok (.getfield 27, 3) := by decide +kernel
theorem dX5_passTicks_64 : decode cX5_passTicks 64 = .ok (.iconst 0, 1) := by decide +kernel
theorem dX5_passTicks_65 : decode cX5_passTicks 65 = .ok (.iaload, 1) := by decide +kernel
theorem dX5_passTicks_66 : decode cX5_passTicks 66 = .ok (.invokevirtual 163, 3) := by decide +kernel
theorem dX5_passTicks_69 : decode cX5_passTicks 69 = .ok (.iconst 0, 1) := by decide +kernel
theorem dX5_passTicks_70 : decode cX5_passTicks 70 = .ok (.istore 4, 2) := by decide +kernel
theorem dX5_passTicks_72 : decode cX5_passTicks 72 = .ok (.iload 4, 2) := by decide +kernel
theorem dX5_passTicks_74 : decode cX5_passTicks 74 = .ok (.aload_n 0, 1) := by decide +kernel
theorem dX5_passTicks_75 : decode cX5_passTicks 75 = .ok (.getfield 57, 3) := by decide +kernel
theorem dX5_passTicks_78 : decode cX5_passTicks 78 = .ok (.if_icmp .ge 26, 3) := by decide +kernel
theorem dX5_passTicks_81 : decode cX5_passTicks 81 = .ok (.aload_n 0, 1) := by decide +kernel
theorem dX5_passTicks_82 : decode cX5_passTicks 82 = .ok (.getfield 34, 3) := by decide +kernel
theorem dX5_passTicks_85 : decode cX5_passTicks 85 = .ok (.aload_n 0, 1) := by decide +kernel
theorem dX5_passTicks_86 : decode cX5_passTicks 86 = .ok (.getfield 11, 3) := by decide +kernel
theorem dX5_passTicks_89 : decode cX5_passTicks 89 = .ok (.iload 4, 2) := by decide +kernel
theorem dX5_passTicks_91 : decode cX5_passTicks 91 = .ok (.aaload, 1) := by decide +kernel
theorem dX5_passTicks_92 : decode cX5_passTicks 92 = .ok (.invokevirtual 166, 3) := by decide +kernel
theorem dX5_passTicks_95 : decode cX5_passTicks 95 = .ok (.invokevirtual 170, 3) := by decide +kernel
theorem dX5_passTicks_98 : decode cX5_passTicks 98 = .ok (.iinc 4 1, 3) := by decide +kernel
theorem dX5_passTicks_101 : decode cX5_passTicks 101 = .ok (.goto (-29), 3) := by decide +kernel
theorem dX5_passTicks_104 : decode cX5_passTicks 104 = .ok (.aload_n 0, 1) := by decide +kernel
theorem dX5_passTicks_105 : decode cX5_passTicks 105 = .ok (.getfield 34, 3) := by decide +kernel
theorem dX5_passTicks_108 : decode cX5_passTicks 108 = .ok (.invokevirtual 173, 3) := by decide +kernel
theorem dX5_passTicks_111 : decode cX5_passTicks 111 = .ok (.aload_n 0, 1) := by decide +kernel
theorem dX5_passTicks_112 : decode cX5_passTicks 112 = .ok (.getfield 34, 3) := by decide +kernel
theorem dX5_passTicks_115 : decode cX5_passTicks 115 = .ok (.invokevirtual 176, 3) := by decide +kernel
theorem dX5_passTicks_118 : decode cX5_passTicks 118 = .ok (.aload_n 0, 1) := by decide +kernel
theorem dX5_passTicks_119 : decode cX5_passTicks 119 = .ok (.getfield 41, 3) := by decide +kernel
theorem dX5_passTicks_122 : decode cX5_passTicks 122 = .ok (.aload_n 0, 1) := by decide +kernel
theorem dX5_passTicks_123 : decode cX5_passTicks 123 = .ok (.getfield 34, 3) := by decide +kernel
theorem dX5_passTicks_126 : decode cX5_passTicks 126 = .ok (.invokevirtual 179, 3) := by decide +kernel
theorem dX5_passTicks_129 : decode cX5_passTicks 129 = .ok (.aload_n 0, 1) := by decide +kernel
theorem dX5_passTicks_130 : decode cX5_passTicks 130 = .ok (.getfield 27, 3) := by decide +kernel
theorem dX5_passTicks_133 : decode cX5_passTicks 133 = .ok (.iconst 3, 1) := by decide +kernel
theorem dX5_passTicks_134 : decode cX5_passTicks 134 = .ok (.iaload, 1) := by decide +kernel
theorem dX5_passTicks_135 : decode cX5_passTicks 135 = .ok (.if_icmp .lt 7, 3) := by decide +kernel
theorem dX5_passTicks_138 : decode cX5_passTicks 138 = .ok (.iconst 1, 1) := by decide +kernel
theorem dX5_passTicks_139 : decode cX5_passTicks 139 = .ok (.goto 4, 3) := by decide +kernel
theorem dX5_passTicks_142 : decode cX5_passTicks 142 = .ok (.iconst 0, 1) := by decide +kernel
theorem dX5_passTicks_143 : decode cX5_passTicks 143 = .ok (.aload_n 0, 1) := by decide +kernel
theorem dX5_passTicks_144 : decode cX5_passTicks 144 = .ok (.getfield 27, 3) := by decide +kernel
theorem dX5_passTicks_147 : decode cX5_passTicks 147 = .ok (.iconst 4, 1) := by decide +kernel
theorem dX5_passTicks_148 : decode cX5_passTicks 148 = .ok (.iaload, 1) := by decide +kernel
theorem dX5_passTicks_149 : decode cX5_passTicks 149 = .ok (.invokevirtual 182, 3) := by decide +kernel
theorem dX5_passTicks_152 : decode cX5_passTicks 152 = .ok (.aload_n 0, 1) := by decide +kernel
theorem dX5_passTicks_153 : decode cX5_passTicks 153 = .ok (.dup, 1) := by decide +kernel
theorem dX5_passTicks_154 : decode cX5_passTicks 154 = .ok (.getfield 94, 3) := by decide +kernel
theorem dX5_passTicks_157 : decode cX5_passTicks 157 = .ok (.iconst 1, 1) := by decide +kernel
theorem dX5_passTicks_158 : decode cX5_passTicks 158 = .ok (.iadd, 1) := by decide +kernel
theorem dX5_passTicks_159 : decode cX5_passTicks 159 = .ok (.putfield 94, 3) := by decide +kernel
theorem dX5_passTicks_162 : decode cX5_passTicks 162 = .ok (.iinc 3 1, 3) := by decide +kernel
theorem dX5_passTicks_165 : decode cX5_passTicks 165 = .ok (.goto (-163), 3) := by decide +kernel
theorem dX5_passTicks_168 : decode cX5_passTicks 168 = .ok (.return_, 1) := by decide +kernel
theorem dX5_control_0 : decode cX5_control 0 = .ok (.aload_n 0, 1) := by decide +kernel
theorem dX5_control_1 : decode cX5_control 1 = .ok (.getfield 34, 3) := by decide +kernel
theorem dX5_control_4 : decode cX5_control 4 = .ok (.invokevirtual 186, 3) := by decide +kernel
theorem dX5_control_7 : decode cX5_control 7 = .ok (.istore_n 2, 1) := by decide +kernel
theorem dX5_control_8 : decode cX5_control 8 = .ok (.aload_n 0, 1) := by decide +kernel
theorem dX5_control_9 : decode cX5_control 9 = .ok (.iconst 0, 1) := by decide +kernel
theorem dX5_control_10 : decode cX5_control 10 = .ok (.putfield 97, 3) := by decide +kernel
theorem dX5_control_13 : decode cX5_control 13 = .ok (.iload_n 2, 1) := by decide +kernel
theorem dX5_control_14 : decode cX5_control 14 = .ok (.iload_n 1, 1) := by decide +kernel
theorem dX5_control_15 : decode cX5_control 15 = .ok (.aload_n 0, 1) := by decide +kernel
theorem dX5_control_16 : decode cX5_control 16 = .ok (.getfield 27, 3) := by decide +kernel
theorem dX5_control_19 : decode cX5_control 19 = .ok (.iconst 1, 1) := by decide +kernel
theorem dX5_control_20 : decode cX5_control 20 = .ok (.iaload, 1) := by decide +kernel
theorem dX5_control_21 : decode cX5_control 21 = .ok (.isub, 1) := by decide +kernel
theorem dX5_control_22 : decode cX5_control 22 = .ok (.if_icmp .ge 45, 3) := by decide +kernel
theorem dX5_control_25 : decode cX5_control 25 = .ok (.aload_n 0, 1) := by decide +kernel
theorem dX5_control_26 : decode cX5_control 26 = .ok (.invokevirtual 189, 3) := by decide +kernel
theorem dX5_control_29 : decode cX5_control 29 = .ok (.istore_n 3, 1) := by decide +kernel
theorem dX5_control_30 : decode cX5_control 30 = .ok (.aload_n 0, 1) := by decide +kernel
theorem dX5_control_31 : decode cX5_control 31 = .ok (.iload_n 3, 1) := by decide +kernel
theorem dX5_control_32 : decode cX5_control 32 = .ok (.invokevirtual 192, 3) := by decide +kernel
theorem dX5_control_35 : decode cX5_control 35 = .ok (.ifCond .eq 21, 3) := by decide +kernel
theorem dX5_control_38 : decode cX5_control 38 = .ok (.aload_n 0, 1) := by decide +kernel
theorem dX5_control_39 : decode cX5_control 39 = .ok (.getfield 11, 3) := by decide +kernel
theorem dX5_control_42 : decode cX5_control 42 = .ok (.iload_n 3, 1) := by decide +kernel
theorem dX5_control_43 : decode cX5_control 43 = .ok (.aaload, 1) := by decide +kernel
theorem dX5_control_44 : decode cX5_control 44 = .ok (.aload_n 0, 1) := by decide +kernel
theorem dX5_control_45 : decode cX5_control 45 = .ok (.getfield 27, 3) := by decide +kernel
theorem dX5_control_48 : decode cX5_control 48 = .ok (.iconst 2, 1) := by decide +kernel
theorem dX5_control_49 : decode cX5_control 49 = .ok (.iaload, 1) := by decide +kernel
theorem dX5_control_50 : decode cX5_control 50 = .ok (.invokevirtual 196, 3) := by decide +kernel
theorem dX5_control_53 : decode cX5_control 53 = .ok (.goto 11, 3) := by decide +kernel
theorem dX5_control_56 : decode cX5_control 56 = .ok (.aload_n 0, 1) := by decide +kernel
theorem dX5_control_57 : decode cX5_control 57 = .ok (.aload_n 0, 1) := by decide +kernel
theorem dX5_control_58 : decode cX5_control 58 = .ok (.invokevirtual 199, 3) := by decide +kernel
theorem dX5_control_61 : decode cX5_control 61 = .ok (.putfield 97, 3) := by decide +kernel
theorem dX5_control_64 : decode cX5_control 64 = .ok (.goto 38, 3) := by decide +kernel
theorem dX5_control_67 : decode cX5_control 67 = .ok (.iload_n 2, 1) := by decide +kernel
theorem dX5_control_68 : decode cX5_control 68 = .ok (.iload_n 1, 1) := by decide +kernel
theorem dX5_control_69 : decode cX5_control 69 = .ok (.aload_n 0, 1) := by decide +kernel
theorem dX5_control_70 : decode cX5_control 70 = .ok (.getfield 27, 3) := by decide +kernel
theorem dX5_control_73 : decode cX5_control 73 = .ok (.iconst 1, 1) := by decide +kernel
theorem dX5_control_74 : decode cX5_control 74 = .ok (.iaload, 1) := by decide +kernel
theorem dX5_control_75 : decode cX5_control 75 = .ok (.iadd, 1) := by decide +kernel
theorem dX5_control_76 : decode cX5_control 76 = .ok (.if_icmp .le 26, 3) := by decide +kernel
theorem dX5_control_79 : decode cX5_control 79 = .ok (.aload_n 0, 1) := by decide +kernel
theorem dX5_control_80 : decode cX5_control 80 = .ok (.invokevirtual 202, 3) := by decide +kernel
theorem dX5_control_83 : decode cX5_control 83 = .ok (.istore_n 3, 1) := by decide +kernel
theorem dX5_control_84 : decode cX5_control 84 = .ok (.aload_n 0, 1) := by decide +kernel
theorem dX5_control_85 : decode cX5_control 85 = .ok (.iload_n 3, 1) := by decide +kernel
theorem dX5_control_86 : decode cX5_control 86 = .ok (.invokevirtual 192, 3) := by decide +kernel
theorem dX5_control_89 : decode cX5_control 89 = .ok (.ifCond .eq 13, 3) := by decide +kernel
theorem dX5_control_92 : decode cX5_control 92 = .ok (.aload_n 0, 1) := by decide +kernel
theorem dX5_control_93 : decode cX5_control 93 = .ok (.getfield 11, 3) := by decide +kernel
theorem dX5_control_96 : decode cX5_control 96 = .ok (.iload_n 3, 1) := by decide +kernel
theorem dX5_control_97 : decode cX5_control 97 = .ok (.aaload, 1) := by decide +kernel
theorem dX5_control_98 : decode cX5_control 98 = .ok (.iconst 3, 1) := by decide +kernel
theorem dX5_control_99 : decode cX5_control 99 = .ok (.invokevirtual 154, 3) := by decide +kernel
theorem dX5_control_102 : decode cX5_control 102 = .ok (.return_, 1) := by decide +kernel
theorem dX5_whyNoneStarts_0 : decode cX5_whyNoneStarts 0 = .ok (.iconst 3, 1) := by decide +kernel
theorem dX5_whyNoneStarts_1 : decode cX5_whyNoneStarts 1 = .ok (.istore_n 1, 1) := by decide +kernel
theorem dX5_whyNoneStarts_2 : decode cX5_whyNoneStarts 2 = .ok (.iconst 0, 1) := by decide +kernel
theorem dX5_whyNoneStarts_3 : decode cX5_whyNoneStarts 3 = .ok (.istore_n 2, 1) := by decide +kernel
theorem dX5_whyNoneStarts_4 : decode cX5_whyNoneStarts 4 = .ok (.iload_n 2, 1) := by decide +kernel
theorem dX5_whyNoneStarts_5 : decode cX5_whyNoneStarts 5 = .ok (.aload_n 0, 1) := by decide +kernel
theorem dX5_whyNoneStarts_6 : decode cX5_whyNoneStarts 6 = .ok (.getfield 57, 3) := by decide +kernel
theorem dX5_whyNoneStarts_9 : decode cX5_whyNoneStarts 9 = .ok (.if_icmp .ge 50, 3) := by decide +kernel
theorem dX5_whyNoneStarts_12 : decode cX5_whyNoneStarts 12 = .ok (.aload_n 0, 1) := by decide +kernel
theorem dX5_whyNoneStarts_13 : decode cX5_whyNoneStarts 13 = .ok (.getfield 11, 3) := by decide +kernel
theorem dX5_whyNoneStarts_16 : decode cX5_whyNoneStarts 16 = .ok (.iload_n 2, 1) := by decide +kernel
theorem dX5_whyNoneStarts_17 : decode cX5_whyNoneStarts 17 = .ok (.aaload, 1) := by decide +kernel
theorem dX5_whyNoneStarts_18 : decode cX5_whyNoneStarts 18 = .ok (.invokevirtual 143, 3) := by decide +kernel
theorem dX5_whyNoneStarts_21 : decode cX5_whyNoneStarts 21 = .ok (.ifCond .eq 32, 3) := by decide +kernel
theorem dX5_whyNoneStarts_24 : decode cX5_whyNoneStarts 24 = .ok (.iload_n 1, 1) := by decide +kernel
theorem dX5_whyNoneStarts_25 : decode cX5_whyNoneStarts 25 = .ok (.aload_n 0, 1) := by decide +kernel
theorem dX5_whyNoneStarts_26 : decode cX5_whyNoneStarts 26 = .ok (.aload_n 0, 1) := by decide +kernel
theorem dX5_whyNoneStarts_27 : decode cX5_whyNoneStarts 27 = .ok (.getfield 11, 3) := by decide +kernel
theorem dX5_whyNoneStarts_30 : decode cX5_whyNoneStarts 30 = .ok (.iload_n 2, 1) := by decide +kernel
theorem dX5_whyNoneStarts_31 : decode cX5_whyNoneStarts 31 = .ok (.aaload, 1) := by decide +kernel
theorem dX5_whyNoneStarts_32 : decode cX5_whyNoneStarts 32 = .ok (.getfield 113, 3) := by decide +kernel
theorem dX5_whyNoneStarts_35 : decode cX5_whyNoneStarts 35 = .ok (.invokevirtual 128, 3) := by decide +kernel
theorem dX5_whyNoneStarts_38 : decode cX5_whyNoneStarts 38 = .ok (.getfield 132, 3) := by decide +kernel
theorem dX5_whyNoneStarts_41 : decode cX5_whyNoneStarts 41 = .ok (.ifCond .eq 7, 3) := by decide +kernel
theorem dX5_whyNoneStarts_44 : decode cX5_whyNoneStarts 44 = .ok (.iconst 1, 1) := by decide +kernel
theorem dX5_whyNoneStarts_45 : decode cX5_whyNoneStarts 45 = .ok (.goto 4, 3) := by decide +kernel
theorem dX5_whyNoneStarts_48 : decode cX5_whyNoneStarts 48 = .ok (.iconst 2, 1) := by decide +kernel
theorem dX5_whyNoneStarts_49 : decode cX5_whyNoneStarts 49 = .ok (.invokestatic 51, 3) := by decide +kernel
theorem dX5_whyNoneStarts_52 : decode cX5_whyNoneStarts 52 = .ok (.istore_n 1, 1) := by decide +kernel
theorem dX5_whyNoneStarts_53 : decode cX5_whyNoneStarts 53 = .ok (.iinc 2 1, 3) := by decide +kernel
theorem dX5_whyNoneStarts_56 : decode cX5_whyNoneStarts 56 = .ok (.goto (-52), 3) := by decide +kernel
theorem dX5_whyNoneStarts_59 : decode cX5_whyNoneStarts 59 = .ok (.iload_n 1, 1) := by decide +kernel
theorem dX5_whyNoneStarts_60 : decode cX5_whyNoneStarts 60 = .ok (.ireturn, 1) := by decide +kernel
theorem dX5_powerOf_0 : decode cX5_powerOf 0 = .ok (.aload_n 0, 1) := by decide +kernel
theorem dX5_powerOf_1 : decode cX5_powerOf 1 = .ok (.iconst 0, 1) := by decide +kernel
theorem dX5_powerOf_2 : decode cX5_powerOf 2 = .ok (.iload_n 1, 1) := by decide +kernel
theorem dX5_powerOf_3 : decode cX5_powerOf 3 = .ok (.invokevirtual 205, 3) := by decide +kernel
theorem dX5_powerOf_6 : decode cX5_powerOf 6 = .ok (.aload_n 0, 1) := by decide +kernel
theorem dX5_powerOf_7 : decode cX5_powerOf 7 = .ok (.iconst 1, 1) := by decide +kernel
theorem dX5_powerOf_8 : decode cX5_powerOf 8 = .ok (.iload_n 1, 1) := by decide +kernel
theorem dX5_powerOf_9 : decode cX5_powerOf 9 = .ok (.invokevirtual 205, 3) := by decide +kernel
theorem dX5_powerOf_12 : decode cX5_powerOf 12 = .ok (.iadd, 1) := by decide +kernel
theorem dX5_powerOf_13 : decode cX5_powerOf 13 = .ok (.ireturn, 1) := by decide +kernel
theorem dX5_fitsDrafts_0 : decode cX5_fitsDrafts 0 = .ok (.aload_n 0, 1) := by decide +kernel
theorem dX5_fitsDrafts_1 : decode cX5_fitsDrafts 1 = .ok (.iconst 0, 1) := by decide +kernel
theorem dX5_fitsDrafts_2 : decode cX5_fitsDrafts 2 = .ok (.iload_n 1, 1) := by decide +kernel
theorem dX5_fitsDrafts_3 : decode cX5_fitsDrafts 3 = .ok (.invokevirtual 205, 3) := by decide +kernel
theorem dX5_fitsDrafts_6 : decode cX5_fitsDrafts 6 = .ok (.aload_n 0, 1) := by decide +kernel
theorem dX5_fitsDrafts_7 : decode cX5_fitsDrafts 7 = .ok (.getfield 20, 3) := by decide +kernel
theorem dX5_fitsDrafts_10 : decode cX5_fitsDrafts 10 = .ok (.getfield 140, 3) := by decide +kernel
theorem dX5_fitsDrafts_13 : decode cX5_fitsDrafts 13 = .ok (.if_icmp .gt 23, 3) := by decide +kernel
theorem dX5_fitsDrafts_16 : decode cX5_fitsDrafts 16 = .ok (.aload_n 0, 1) := by decide +kernel
theorem dX5_fitsDrafts_17 : decode cX5_fitsDrafts 17 = .ok (.iconst 1, 1) := by decide +kernel
theorem dX5_fitsDrafts_18 : decode cX5_fitsDrafts 18 = .ok (.iload_n 1, 1) := by decide +kernel
theorem dX5_fitsDrafts_19 : decode cX5_fitsDrafts 19 = .ok (.invokevirtual 205, 3) := by decide +kernel
theorem dX5_fitsDrafts_22 : decode cX5_fitsDrafts 22 = .ok (.aload_n 0, 1) := by decide +kernel
theorem dX5_fitsDrafts_23 : decode cX5_fitsDrafts 23 = .ok (.getfield 24, 3) := by decide +kernel
theorem dX5_fitsDrafts_26 : decode cX5_fitsDrafts 26 = .ok (.getfield 140, 3) := by decide +kernel
theorem dX5_fitsDrafts_29 : decode cX5_fitsDrafts 29 = .ok (.if_icmp .gt 7, 3) := by decide +kernel
theorem dX5_fitsDrafts_32 : decode cX5_fitsDrafts 32 = .ok (.iconst 1, 1) := by decide +kernel
theorem dX5_fitsDrafts_33 : decode cX5_fitsDrafts 33 = .ok (.goto 4, 3) := by decide +kernel
theorem dX5_fitsDrafts_36 : decode cX5_fitsDrafts 36 = .ok (.iconst 0, 1) := by decide +kernel
theorem dX5_fitsDrafts_37 : decode cX5_fitsDrafts 37 = .ok (.ireturn, 1) := by decide +kernel
theorem dX5_isSmallerSet_0 : decode cX5_isSmallerSet 0 = .ok (.iload_n 1, 1) := by decide +kernel
theorem dX5_isSmallerSet_1 : decode cX5_isSmallerSet 1 = .ok (.invokestatic 208, 3) := by decide +kernel
theorem dX5_isSmallerSet_4 : decode cX5_isSmallerSet 4 = .ok (.istore_n 3, 1) := by decide +kernel
theorem dX5_isSmallerSet_5 : decode cX5_isSmallerSet 5 = .ok (.iload_n 2, 1) := by decide +kernel
theorem dX5_isSmallerSet_6 : decode cX5_isSmallerSet 6 = .ok (.invokestatic 208, 3) := by decide +kernel
theorem dX5_isSmallerSet_9 : decode cX5_isSmallerSet 9 = .ok (.istore 4, 2) := by decide +kernel
theorem dX5_isSmallerSet_11 : decode cX5_isSmallerSet 11 = .ok (.iload_n 3, 1) := by decide +kernel
theorem dX5_isSmallerSet_12 : decode cX5_isSmallerSet 12 = .ok (.iload 4, 2) := by decide +kernel
theorem dX5_isSmallerSet_14 : decode cX5_isSmallerSet 14 = .ok (.if_icmp .lt 22, 3) := by decide +kernel
theorem dX5_isSmallerSet_17 : decode cX5_isSmallerSet 17 = .ok (.iload_n 3, 1) := by decide +kernel
theorem dX5_isSmallerSet_18 : decode cX5_isSmallerSet 18 = .ok (.iload 4, 2) := by decide +kernel
theorem dX5_isSmallerSet_20 : decode cX5_isSmallerSet 20 = .ok (.if_icmp .ne 20, 3) := by decide +kernel
theorem dX5_isSmallerSet_23 : decode cX5_isSmallerSet 23 = .ok (.aload_n 0, 1) := by decide +kernel
theorem dX5_isSmallerSet_24 : decode cX5_isSmallerSet 24 = .ok (.iload_n 1, 1) := by decide +kernel
theorem dX5_isSmallerSet_25 : decode cX5_isSmallerSet 25 = .ok (.invokevirtual 213, 3) := by decide +kernel
theorem dX5_isSmallerSet_28 : decode cX5_isSmallerSet 28 = .ok (.aload_n 0, 1) := by decide +kernel
theorem dX5_isSmallerSet_29 : decode cX5_isSmallerSet 29 = .ok (.iload_n 2, 1) := by decide +kernel
theorem dX5_isSmallerSet_30 : decode cX5_isSmallerSet 30 = .ok (.invokevirtual 213, 3) := by decide +kernel
theorem dX5_isSmallerSet_33 : decode cX5_isSmallerSet 33 = .ok (.if_icmp .ge 7, 3) := by decide +kernel
theorem dX5_isSmallerSet_36 : decode cX5_isSmallerSet 36 = .ok (.iconst 1, 1) := by decide +kernel
theorem dX5_isSmallerSet_37 : decode cX5_isSmallerSet 37 = .ok (.goto 4, 3) := by decide +kernel
theorem dX5_isSmallerSet_40 : decode cX5_isSmallerSet 40 = .ok (.iconst 0, 1) := by decide +kernel
theorem dX5_isSmallerSet_41 : decode cX5_isSmallerSet 41 = .ok (.ireturn, 1) := by decide +kernel
theorem dX5_powerAt_0 : decode cX5_powerAt 0 = .ok (.iconst 0, 1) := by decide +kernel
theorem dX5_powerAt_1 : decode cX5_powerAt 1 = .ok (.istore_n 3, 1) := by decide +kernel
theorem dX5_powerAt_2 : decode cX5_powerAt 2 = .ok (.iconst 0, 1) := by decide +kernel
theorem dX5_powerAt_3 : decode cX5_powerAt 3 = .ok (.istore 4, 2) := by decide +kernel
theorem dX5_powerAt_5 : decode cX5_powerAt 5 = .ok (.iload 4, 2) := by decide +kernel
theorem dX5_powerAt_7 : decode cX5_powerAt 7 = .ok (.aload_n 0, 1) := by decide +kernel
theorem dX5_powerAt_8 : decode cX5_powerAt 8 = .ok (.getfield 57, 3) := by decide +kernel
theorem dX5_powerAt_11 : decode cX5_powerAt 11 = .ok (.if_icmp .ge 46, 3) := by decide +kernel
theorem dX5_powerAt_14 : decode cX5_powerAt 14 = .ok (.iload_n 2, 1) := by decide +kernel
theorem dX5_powerAt_15 : decode cX5_powerAt 15 = .ok (.iload 4, 2) := by decide +kernel
theorem dX5_powerAt_17 : decode cX5_powerAt 17 = .ok (.ishr, 1) := by decide +kernel
theorem dX5_powerAt_18 : decode cX5_powerAt 18 = .ok (.iconst 1, 1) := by decide +kernel
theorem dX5_powerAt_19 : decode cX5_powerAt 19 = .ok (.iand, 1) := by decide +kernel
theorem dX5_powerAt_20 : decode cX5_powerAt 20 = .ok (.iconst 1, 1) := by decide +kernel
theorem dX5_powerAt_21 : decode cX5_powerAt 21 = .ok (.if_icmp .ne 30, 3) := by decide +kernel
theorem dX5_powerAt_24 : decode cX5_powerAt 24 = .ok (.aload_n 0, 1) := by decide +kernel
theorem dX5_powerAt_25 : decode cX5_powerAt 25 = .ok (.getfield 11, 3) := by decide +kernel
theorem dX5_powerAt_28 : decode cX5_powerAt 28 = .ok (.iload 4, 2) := by decide +kernel
theorem dX5_powerAt_30 : decode cX5_powerAt 30 = .ok (.aaload, 1) := by decide +kernel
theorem dX5_powerAt_31 : decode cX5_powerAt 31 = .ok (.getfield 113, 3) := by decide +kernel
theorem dX5_powerAt_34 : decode cX5_powerAt 34 = .ok (.iload_n 1, 1) := by decide +kernel
theorem dX5_powerAt_35 : decode cX5_powerAt 35 = .ok (.if_icmp .ne 16, 3) := by decide +kernel
theorem dX5_powerAt_38 : decode cX5_powerAt 38 = .ok (.iload_n 3, 1) := by decide +kernel
theorem dX5_powerAt_39 : decode cX5_powerAt 39 = .ok (.aload_n 0, 1) := by decide +kernel
theorem dX5_powerAt_40 : decode cX5_powerAt 40 = .ok (.getfield 11, 3) := by decide +kernel
theorem dX5_powerAt_43 : decode cX5_powerAt 43 = .ok (.iload 4, 2) := by decide +kernel
theorem dX5_powerAt_45 : decode cX5_powerAt 45 = .ok (.aaload, 1) := by decide +kernel
theorem dX5_powerAt_46 : decode cX5_powerAt 46 = .ok (.getfield 119, 3) := by decide +kernel
theorem dX5_powerAt_49 : decode cX5_powerAt 49 = .ok (.iadd, 1) := by decide +kernel
theorem dX5_powerAt_50 : decode cX5_powerAt 50 = .ok (.istore_n 3, 1) := by decide +kernel
theorem dX5_powerAt_51 : decode cX5_powerAt 51 = .ok (.iinc 4 1, 3) := by decide +kernel
theorem dX5_powerAt_54 : decode cX5_powerAt 54 = .ok (.goto (-49), 3) := by decide +kernel
theorem dX5_powerAt_57 : decode cX5_powerAt 57 = .ok (.iload_n 3, 1) := by decide +kernel
theorem dX5_powerAt_58 : decode cX5_powerAt 58 = .ok (.ireturn, 1) := by decide +kernel
theorem dX6_init_0 : decode cX6_init 0 = .ok (.aload_n 0, 1) := by decide +kernel
theorem dX6_init_1 : decode cX6_init 1 = .ok (.invokespecial 1, 3) := by decide +kernel
theorem dX6_init_4 : decode cX6_init 4 = .ok (.aload_n 0, 1) := by decide +kernel
theorem dX6_init_5 : decode cX6_init 5 = .ok (.new 7, 3) := by decide +kernel
theorem dX6_init_8 : decode cX6_init 8 = .ok (.dup, 1) := by decide +kernel
theorem dX6_init_9 : decode cX6_init 9 = .ok (.invokespecial 9, 3) := by decide +kernel
theorem dX6_init_12 : decode cX6_init 12 = .ok (.putfield 10, 3) := by decide +kernel
theorem dX6_init_15 : decode cX6_init 15 = .ok (.return_, 1) := by decide +kernel
theorem dX7_init_0 : decode cX7_init 0 = .ok (.aload_n 0, 1) := by decide +kernel
theorem dX7_init_1 : decode cX7_init 1 = .ok (.invokespecial 3, 3) := by decide +kernel
theorem dX7_init_4 : decode cX7_init 4 = .ok (.aload_n 0, 1) := by decide +kernel
theorem dX7_init_5 : decode cX7_init 5 = .ok (.bipush 8, 2) := by decide +kernel
theorem dX7_init_7 : decode cX7_init 7 = .ok (.newarray .int, 2) := by decide +kernel
theorem dX7_init_9 : decode cX7_init 9 = .ok (.putfield 9, 3) := by decide +kernel
theorem dX7_init_12 : decode cX7_init 12 = .ok (.return_, 1) := by decide +kernel
theorem dX7_beginAs_0 : decode cX7_beginAs 0 = .ok (.aload_n 0, 1) := by decide +kernel
theorem dX7_beginAs_1 : decode cX7_beginAs 1 = .ok (.iload_n 1, 1) := by decide +kernel
theorem dX7_beginAs_2 : decode cX7_beginAs 2 = .ok (.aload_n 0, 1) := by decide +kernel
theorem dX7_beginAs_3 : decode cX7_beginAs 3 = .ok (.getfield 9, 3) := by decide +kernel
theorem dX7_beginAs_6 : decode cX7_beginAs 6 = .ok (.arraylength, 1) := by decide +kernel
theorem dX7_beginAs_7 : decode cX7_beginAs 7 = .ok (.aload_n 2, 1) := by decide +kernel
theorem dX7_beginAs_8 : decode cX7_beginAs 8 = .ok (.arraylength, 1) := by decide +kernel
theorem dX7_beginAs_9 : decode cX7_beginAs 9 = .ok (.invokestatic 15, 3) := by decide +kernel
theorem dX7_beginAs_12 : decode cX7_beginAs 12 = .ok (.invokestatic 15, 3) := by decide +kernel
theorem dX7_beginAs_15 : decode cX7_beginAs 15 = .ok (.putfield 21, 3) := by decide +kernel
theorem dX7_beginAs_18 : decode cX7_beginAs 18 = .ok (.iconst 0, 1) := by decide +kernel
theorem dX7_beginAs_19 : decode cX7_beginAs 19 = .ok (.istore_n 3, 1) := by decide +kernel
theorem dX7_beginAs_20 : decode cX7_beginAs 20 = .ok (.iload_n 3, 1) := by decide +kernel
theorem dX7_beginAs_21 : decode cX7_beginAs 21 = .ok (.aload_n 0, 1) := by decide +kernel
theorem dX7_beginAs_22 : decode cX7_beginAs 22 = .ok (.getfield 21, 3) := by decide +kernel
theorem dX7_beginAs_25 : decode cX7_beginAs 25 = .ok (.if_icmp .ge 18, 3) := by decide +kernel
theorem dX7_beginAs_28 : decode cX7_beginAs 28 = .ok (.aload_n 0, 1) := by decide +kernel
theorem dX7_beginAs_29 : decode cX7_beginAs 29 = .ok (.getfield 9, 3) := by decide +kernel
theorem dX7_beginAs_32 : decode cX7_beginAs 32 = .ok (.iload_n 3, 1) := by decide +kernel
theorem dX7_beginAs_33 : decode cX7_beginAs 33 = .ok (.aload_n 2, 1) := by decide +kernel
theorem dX7_beginAs_34 : decode cX7_beginAs 34 = .ok (.iload_n 3, 1) := by decide +kernel
theorem dX7_beginAs_35 : decode cX7_beginAs 35 = .ok (.iaload, 1) := by decide +kernel
theorem dX7_beginAs_36 : decode cX7_beginAs 36 = .ok (.iastore, 1) := by decide +kernel
theorem dX7_beginAs_37 : decode cX7_beginAs 37 = .ok (.iinc 3 1, 3) := by decide +kernel
theorem dX7_beginAs_40 : decode cX7_beginAs 40 = .ok (.goto (-20), 3) := by decide +kernel
theorem dX7_beginAs_43 : decode cX7_beginAs 43 = .ok (.aload_n 0, 1) := by decide +kernel
theorem dX7_beginAs_44 : decode cX7_beginAs 44 = .ok (.iconst 0, 1) := by decide +kernel
theorem dX7_beginAs_45 : decode cX7_beginAs 45 = .ok (.putfield 25, 3) := by decide +kernel
theorem dX7_beginAs_48 : decode cX7_beginAs 48 = .ok (.aload_n 0, 1) := by decide +kernel
theorem dX7_beginAs_49 : decode cX7_beginAs 49 = .ok (.iconst 0, 1) := by decide +kernel
theorem dX7_beginAs_50 : decode cX7_beginAs 50 = .ok (.putfield 28, 3) := by decide +kernel
theorem dX7_beginAs_53 : decode cX7_beginAs 53 = .ok (.aload_n 0, 1) := by decide +kernel
theorem dX7_beginAs_54 : decode cX7_beginAs 54 = .ok (.iconst 0, 1) := by decide +kernel
theorem dX7_beginAs_55 : decode cX7_beginAs 55 = .ok (.putfield 31, 3) := by decide +kernel
theorem dX7_beginAs_58 : decode cX7_beginAs 58 = .ok (.aload_n 0, 1) := by decide +kernel
theorem dX7_beginAs_59 : decode cX7_beginAs 59 = .ok (.iconst 0, 1) := by decide +kernel
theorem dX7_beginAs_60 : decode cX7_beginAs 60 = .ok (.putfield 34, 3) := by decide +kernel
theorem dX7_beginAs_63 : decode cX7_beginAs 63 = .ok (.aload_n 0, 1) := by decide +kernel
theorem dX7_beginAs_64 : decode cX7_beginAs 64 = .ok (.iconst 0, 1) := by decide +kernel
theorem dX7_beginAs_65 : decode cX7_beginAs 65 = .ok (.putfield 37, 3) := by decide +kernel
theorem dX7_beginAs_68 : decode cX7_beginAs 68 = .ok (.return_, 1) := by decide +kernel
theorem dX7_copyFrom_0 : decode cX7_copyFrom 0 = .ok (.aload_n 0, 1) := by decide +kernel
theorem dX7_copyFrom_1 : decode cX7_copyFrom 1 = .ok (.aload_n 1, 1) := by decide +kernel
theorem dX7_copyFrom_2 : decode cX7_copyFrom 2 = .ok (.getfield 21, 3) := by decide +kernel
theorem dX7_copyFrom_5 : decode cX7_copyFrom 5 = .ok (.putfield 21, 3) := by decide +kernel
theorem dX7_copyFrom_8 : decode cX7_copyFrom 8 = .ok (.iconst 0, 1) := by decide +kernel
theorem dX7_copyFrom_9 : decode cX7_copyFrom 9 = .ok (.istore_n 2, 1) := by decide +kernel
theorem dX7_copyFrom_10 : decode cX7_copyFrom 10 = .ok (.iload_n 2, 1) := by decide +kernel
theorem dX7_copyFrom_11 : decode cX7_copyFrom 11 = .ok (.aload_n 0, 1) := by decide +kernel
theorem dX7_copyFrom_12 : decode cX7_copyFrom 12 = .ok (.getfield 21, 3) := by decide +kernel
theorem dX7_copyFrom_15 : decode cX7_copyFrom 15 = .ok (.if_icmp .ge 21, 3) := by decide +kernel
theorem dX7_copyFrom_18 : decode cX7_copyFrom 18 = .ok (.aload_n 0, 1) := by decide +kernel
theorem dX7_copyFrom_19 : decode cX7_copyFrom 19 = .ok (.getfield 9, 3) := by decide +kernel
theorem dX7_copyFrom_22 : decode cX7_copyFrom 22 = .ok (.iload_n 2, 1) := by decide +kernel
theorem dX7_copyFrom_23 : decode cX7_copyFrom 23 = .ok (.aload_n 1, 1) := by decide +kernel
theorem dX7_copyFrom_24 : decode cX7_copyFrom 24 = .ok (.getfield 9, 3) := by decide +kernel
theorem dX7_copyFrom_27 : decode cX7_copyFrom 27 = .ok (.iload_n 2, 1) := by decide +kernel
theorem dX7_copyFrom_28 : decode cX7_copyFrom 28 = .ok (.iaload, 1) := by decide +kernel
theorem dX7_copyFrom_29 : decode cX7_copyFrom 29 = .ok (.iastore, 1) := by decide +kernel
theorem dX7_copyFrom_30 : decode cX7_copyFrom 30 = .ok (.iinc 2 1, 3) := by decide +kernel
theorem dX7_copyFrom_33 : decode cX7_copyFrom 33 = .ok (.goto (-23), 3) := by decide +kernel
theorem dX7_copyFrom_36 : decode cX7_copyFrom 36 = .ok (.aload_n 0, 1) := by decide +kernel
theorem dX7_copyFrom_37 : decode cX7_copyFrom 37 = .ok (.aload_n 1, 1) := by decide +kernel
theorem dX7_copyFrom_38 : decode cX7_copyFrom 38 = .ok (.getfield 25, 3) := by decide +kernel
theorem dX7_copyFrom_41 : decode cX7_copyFrom 41 = .ok (.putfield 25, 3) := by decide +kernel
theorem dX7_copyFrom_44 : decode cX7_copyFrom 44 = .ok (.aload_n 0, 1) := by decide +kernel
theorem dX7_copyFrom_45 : decode cX7_copyFrom 45 = .ok (.aload_n 1, 1) := by decide +kernel
theorem dX7_copyFrom_46 : decode cX7_copyFrom 46 = .ok (.getfield 28, 3) := by decide +kernel
theorem dX7_copyFrom_49 : decode cX7_copyFrom 49 = .ok (.putfield 28, 3) := by decide +kernel
theorem dX7_copyFrom_52 : decode cX7_copyFrom 52 = .ok (.aload_n 0, 1) := by decide +kernel
theorem dX7_copyFrom_53 : decode cX7_copyFrom 53 = .ok (.aload_n 1, 1) := by decide +kernel
theorem dX7_copyFrom_54 : decode cX7_copyFrom 54 = .ok (.getfield 31, 3) := by decide +kernel
theorem dX7_copyFrom_57 : decode cX7_copyFrom 57 = .ok (.putfield 31, 3) := by decide +kernel
theorem dX7_copyFrom_60 : decode cX7_copyFrom 60 = .ok (.aload_n 0, 1) := by decide +kernel
theorem dX7_copyFrom_61 : decode cX7_copyFrom 61 = .ok (.aload_n 1, 1) := by decide +kernel
theorem dX7_copyFrom_62 : decode cX7_copyFrom 62 = .ok (.getfield 34, 3) := by decide +kernel
theorem dX7_copyFrom_65 : decode cX7_copyFrom 65 = .ok (.putfield 34, 3) := by decide +kernel
theorem dX7_copyFrom_68 : decode cX7_copyFrom 68 = .ok (.aload_n 0, 1) := by decide +kernel
theorem dX7_copyFrom_69 : decode cX7_copyFrom 69 = .ok (.aload_n 1, 1) := by decide +kernel
theorem dX7_copyFrom_70 : decode cX7_copyFrom 70 = .ok (.getfield 37, 3) := by decide +kernel
theorem dX7_copyFrom_73 : decode cX7_copyFrom 73 = .ok (.putfield 37, 3) := by decide +kernel
theorem dX7_copyFrom_76 : decode cX7_copyFrom 76 = .ok (.return_, 1) := by decide +kernel
theorem dX7_mean_0 : decode cX7_mean 0 = .ok (.iconst 0, 1) := by decide +kernel
theorem dX7_mean_1 : decode cX7_mean 1 = .ok (.istore_n 1, 1) := by decide +kernel
theorem dX7_mean_2 : decode cX7_mean 2 = .ok (.iconst 0, 1) := by decide +kernel
theorem dX7_mean_3 : decode cX7_mean 3 = .ok (.istore_n 2, 1) := by decide +kernel
theorem dX7_mean_4 : decode cX7_mean 4 = .ok (.iload_n 2, 1) := by decide +kernel
theorem dX7_mean_5 : decode cX7_mean 5 = .ok (.aload_n 0, 1) := by decide +kernel
theorem dX7_mean_6 : decode cX7_mean 6 = .ok (.getfield 21, 3) := by decide +kernel
theorem dX7_mean_9 : decode cX7_mean 9 = .ok (.if_icmp .ge 18, 3) := by decide +kernel
theorem dX7_mean_12 : decode cX7_mean 12 = .ok (.iload_n 1, 1) := by decide +kernel
theorem dX7_mean_13 : decode cX7_mean 13 = .ok (.aload_n 0, 1) := by decide +kernel
theorem dX7_mean_14 : decode cX7_mean 14 = .ok (.getfield 9, 3) := by decide +kernel
theorem dX7_mean_17 : decode cX7_mean 17 = .ok (.iload_n 2, 1) := by decide +kernel
theorem dX7_mean_18 : decode cX7_mean 18 = .ok (.iaload, 1) := by decide +kernel
theorem dX7_mean_19 : decode cX7_mean 19 = .ok (.iadd, 1) := by decide +kernel
theorem dX7_mean_20 : decode cX7_mean 20 = .ok (.istore_n 1, 1) := by decide +kernel
theorem dX7_mean_21 : decode cX7_mean 21 = .ok (.iinc 2 1, 3) := by decide +kernel
theorem dX7_mean_24 : decode cX7_mean 24 = .ok (.goto (-20), 3) := by decide +kernel
theorem dX7_mean_27 : decode cX7_mean 27 = .ok (.aload_n 0, 1) := by decide +kernel
theorem dX7_mean_28 : decode cX7_mean 28 = .ok (.getfield 21, 3) := by decide +kernel
theorem dX7_mean_31 : decode cX7_mean 31 = .ok (.ifCond .le 12, 3) := by decide +kernel
theorem dX7_mean_34 : decode cX7_mean 34 = .ok (.iload_n 1, 1) := by decide +kernel
theorem dX7_mean_35 : decode cX7_mean 35 = .ok (.aload_n 0, 1) := by decide +kernel
theorem dX7_mean_36 : decode cX7_mean 36 = .ok (.getfield 21, 3) := by decide +kernel
theorem dX7_mean_39 : decode cX7_mean 39 = .ok (.idiv, 1) := by decide +kernel
theorem dX7_mean_40 : decode cX7_mean 40 = .ok (.goto 4, 3) := by decide +kernel
theorem dX7_mean_43 : decode cX7_mean 43 = .ok (.iconst 0, 1) := by decide +kernel
theorem dX7_mean_44 : decode cX7_mean 44 = .ok (.ireturn, 1) := by decide +kernel
theorem dX7_highest_0 : decode cX7_highest 0 = .ok (.aload_n 0, 1) := by decide +kernel
theorem dX7_highest_1 : decode cX7_highest 1 = .ok (.getfield 21, 3) := by decide +kernel
theorem dX7_highest_4 : decode cX7_highest 4 = .ok (.ifCond .le 17, 3) := by decide +kernel
theorem dX7_highest_7 : decode cX7_highest 7 = .ok (.aload_n 0, 1) := by decide +kernel
theorem dX7_highest_8 : decode cX7_highest 8 = .ok (.getfield 9, 3) := by decide +kernel
theorem dX7_highest_11 : decode cX7_highest 11 = .ok (.aload_n 0, 1) := by decide +kernel
theorem dX7_highest_12 : decode cX7_highest 12 = .ok (.getfield 21, 3) := by decide +kernel
theorem dX7_highest_15 : decode cX7_highest 15 = .ok (.iconst 1, 1) := by decide +kernel
theorem dX7_highest_16 : decode cX7_highest 16 = .ok (.isub, 1) := by decide +kernel
theorem dX7_highest_17 : decode cX7_highest 17 = .ok (.iaload, 1) := by decide +kernel
theorem dX7_highest_18 : decode cX7_highest 18 = .ok (.goto 4, 3) := by decide +kernel
theorem dX7_highest_21 : decode cX7_highest 21 = .ok (.iconst 0, 1) := by decide +kernel
theorem dX7_highest_22 : decode cX7_highest 22 = .ok (.ireturn, 1) := by decide +kernel
theorem dX7_coldest_0 : decode cX7_coldest 0 = .ok (.bipush 99, 2) := by decide +kernel
theorem dX7_coldest_2 : decode cX7_coldest 2 = .ok (.istore_n 1, 1) := by decide +kernel
theorem dX7_coldest_3 : decode cX7_coldest 3 = .ok (.iconst 0, 1) := by decide +kernel
theorem dX7_coldest_4 : decode cX7_coldest 4 = .ok (.istore_n 2, 1) := by decide +kernel
theorem dX7_coldest_5 : decode cX7_coldest 5 = .ok (.iload_n 2, 1) := by decide +kernel
theorem dX7_coldest_6 : decode cX7_coldest 6 = .ok (.aload_n 0, 1) := by decide +kernel
theorem dX7_coldest_7 : decode cX7_coldest 7 = .ok (.getfield 21, 3) := by decide +kernel
theorem dX7_coldest_10 : decode cX7_coldest 10 = .ok (.if_icmp .ge 20, 3) := by decide +kernel
theorem dX7_coldest_13 : decode cX7_coldest 13 = .ok (.iload_n 1, 1) := by decide +kernel
theorem dX7_coldest_14 : decode cX7_coldest 14 = .ok (.aload_n 0, 1) := by decide +kernel
theorem dX7_coldest_15 : decode cX7_coldest 15 = .ok (.getfield 9, 3) := by decide +kernel
theorem dX7_coldest_18 : decode cX7_coldest 18 = .ok (.iload_n 2, 1) := by decide +kernel
theorem dX7_coldest_19 : decode cX7_coldest 19 = .ok (.iaload, 1) := by decide +kernel
theorem dX7_coldest_20 : decode cX7_coldest 20 = .ok (.invokestatic 15, 3) := by decide +kernel
theorem dX7_coldest_23 : decode cX7_coldest 23 = .ok (.istore_n 1, 1) := by decide +kernel
theorem dX7_coldest_24 : decode cX7_coldest 24 = .ok (.iinc 2 1, 3) := by decide +kernel
theorem dX7_coldest_27 : decode cX7_coldest 27 = .ok (.goto (-22), 3) := by decide +kernel
theorem dX7_coldest_30 : decode cX7_coldest 30 = .ok (.iload_n 1, 1) := by decide +kernel
theorem dX7_coldest_31 : decode cX7_coldest 31 = .ok (.ireturn, 1) := by decide +kernel
theorem dX7_deliver_0 : decode cX7_deliver 0 = .ok (.iconst 0, 1) := by decide +kernel
theorem dX7_deliver_1 : decode cX7_deliver 1 = .ok (.istore_n 2, 1) := by decide +kernel
theorem dX7_deliver_2 : decode cX7_deliver 2 = .ok (.iconst 0, 1) := by decide +kernel
theorem dX7_deliver_3 : decode cX7_deliver 3 = .ok (.istore_n 3, 1) := by decide +kernel
theorem dX7_deliver_4 : decode cX7_deliver 4 = .ok (.iload_n 3, 1) := by decide +kernel
theorem dX7_deliver_5 : decode cX7_deliver 5 = .ok (.iload_n 1, 1) := by decide +kernel
theorem dX7_deliver_6 : decode cX7_deliver 6 = .ok (.if_icmp .ge 80, 3) := by decide +kernel
theorem dX7_deliver_9 : decode cX7_deliver 9 = .ok (.iload_n 2, 1) := by decide +kernel
theorem dX7_deliver_10 : decode cX7_deliver 10 = .ok (.aload_n 0, 1) := by decide +kernel
theorem dX7_deliver_11 : decode cX7_deliver 11 = .ok (.invokevirtual 40, 3) := by decide +kernel
theorem dX7_deliver_14 : decode cX7_deliver 14 = .ok (.iadd, 1) := by decide +kernel
theorem dX7_deliver_15 : decode cX7_deliver 15 = .ok (.istore_n 2, 1) := by decide +kernel
theorem dX7_deliver_16 : decode cX7_deliver 16 = .ok (.aload_n 0, 1) := by decide +kernel
theorem dX7_deliver_17 : decode cX7_deliver 17 = .ok (.getfield 21, 3) := by decide +kernel
theorem dX7_deliver_20 : decode cX7_deliver 20 = .ok (.iconst 1, 1) := by decide +kernel
theorem dX7_deliver_21 : decode cX7_deliver 21 = .ok (.isub, 1) := by decide +kernel
theorem dX7_deliver_22 : decode cX7_deliver 22 = .ok (.istore 4, 2) := by decide +kernel
theorem dX7_deliver_24 : decode cX7_deliver 24 = .ok (.iload 4, 2) := by decide +kernel
theorem dX7_deliver_26 : decode cX7_deliver 26 = .ok (.ifCond .le 25, 3) := by decide +kernel
theorem dX7_deliver_29 : decode cX7_deliver 29 = .ok (.aload_n 0, 1) := by decide +kernel
theorem dX7_deliver_30 : decode cX7_deliver 30 = .ok (.getfield 9, 3) := by decide +kernel
theorem dX7_deliver_33 : decode cX7_deliver 33 = .ok (.iload 4, 2) := by decide +kernel
theorem dX7_deliver_35 : decode cX7_deliver 35 = .ok (.aload_n 0, 1) := by decide +kernel
theorem dX7_deliver_36 : decode cX7_deliver 36 = .ok (.getfield 9, 3) := by decide +kernel
theorem dX7_deliver_39 : decode cX7_deliver 39 = .ok (.iload 4, 2) := by decide +kernel
theorem dX7_deliver_41 : decode cX7_deliver 41 = .ok (.iconst 1, 1) := by decide +kernel
theorem dX7_deliver_42 : decode cX7_deliver 42 = .ok (.isub, 1) := by decide +kernel
theorem dX7_deliver_43 : decode cX7_deliver 43 = .ok (.iaload, 1) := by decide +kernel
theorem dX7_deliver_44 : decode cX7_deliver 44 = .ok (.iastore, 1) := by decide +kernel
theorem dX7_deliver_45 : decode cX7_deliver 45 = .ok (.iinc 4 (-1), 3) := by decide +kernel
theorem dX7_deliver_48 : decode cX7_deliver 48 = .ok (.goto (-24), 3) := by decide +kernel
theorem dX7_deliver_51 : decode cX7_deliver 51 = .ok (.aload_n 0, 1) := by decide +kernel
theorem dX7_deliver_52 : decode cX7_deliver 52 = .ok (.getfield 9, 3) := by decide +kernel
theorem dX7_deliver_55 : decode cX7_deliver 55 = .ok (.iconst 0, 1) := by decide +kernel
theorem dX7_deliver_56 : decode cX7_deliver 56 = .ok (.bipush 10, 2) := by decide +kernel
theorem dX7_deliver_58 : decode cX7_deliver 58 = .ok (.iastore, 1) := by decide +kernel
theorem dX7_deliver_59 : decode cX7_deliver 59 = .ok (.aload_n 0, 1) := by decide +kernel
theorem dX7_deliver_60 : decode cX7_deliver 60 = .ok (.dup, 1) := by decide +kernel
theorem dX7_deliver_61 : decode cX7_deliver 61 = .ok (.getfield 28, 3) := by decide +kernel
theorem dX7_deliver_64 : decode cX7_deliver 64 = .ok (.bipush 10, 2) := by decide +kernel
theorem dX7_deliver_66 : decode cX7_deliver 66 = .ok (.iadd, 1) := by decide +kernel
theorem dX7_deliver_67 : decode cX7_deliver 67 = .ok (.putfield 28, 3) := by decide +kernel
theorem dX7_deliver_70 : decode cX7_deliver 70 = .ok (.aload_n 0, 1) := by decide +kernel
theorem dX7_deliver_71 : decode cX7_deliver 71 = .ok (.dup, 1) := by decide +kernel
theorem dX7_deliver_72 : decode cX7_deliver 72 = .ok (.getfield 37, 3) := by decide +kernel
theorem dX7_deliver_75 : decode cX7_deliver 75 = .ok (.iconst 1, 1) := by decide +kernel
theorem dX7_deliver_76 : decode cX7_deliver 76 = .ok (.iadd, 1) := by decide +kernel
theorem dX7_deliver_77 : decode cX7_deliver 77 = .ok (.putfield 37, 3) := by decide +kernel
theorem dX7_deliver_80 : decode cX7_deliver 80 = .ok (.iinc 3 1, 3) := by decide +kernel
theorem dX7_deliver_83 : decode cX7_deliver 83 = .ok (.goto (-79), 3) := by decide +kernel
theorem dX7_deliver_86 : decode cX7_deliver 86 = .ok (.aload_n 0, 1) := by decide +kernel
theorem dX7_deliver_87 : decode cX7_deliver 87 = .ok (.dup, 1) := by decide +kernel
theorem dX7_deliver_88 : decode cX7_deliver 88 = .ok (.getfield 31, 3) := by decide +kernel
theorem dX7_deliver_91 : decode cX7_deliver 91 = .ok (.iload_n 2, 1) := by decide +kernel
theorem dX7_deliver_92 : decode cX7_deliver 92 = .ok (.iadd, 1) := by decide +kernel
theorem dX7_deliver_93 : decode cX7_deliver 93 = .ok (.putfield 31, 3) := by decide +kernel
theorem dX7_deliver_96 : decode cX7_deliver 96 = .ok (.iload_n 2, 1) := by decide +kernel
theorem dX7_deliver_97 : decode cX7_deliver 97 = .ok (.ireturn, 1) := by decide +kernel
theorem dX7_warm_0 : decode cX7_warm 0 = .ok (.iload_n 1, 1) := by decide +kernel
theorem dX7_warm_1 : decode cX7_warm 1 = .ok (.istore_n 2, 1) := by decide +kernel
theorem dX7_warm_2 : decode cX7_warm 2 = .ok (.aload_n 0, 1) := by decide +kernel
theorem dX7_warm_3 : decode cX7_warm 3 = .ok (.invokevirtual 44, 3) := by decide +kernel
theorem dX7_warm_6 : decode cX7_warm 6 = .ok (.istore_n 3, 1) := by decide +kernel
theorem dX7_warm_7 : decode cX7_warm 7 = .ok (.iload_n 3, 1) := by decide +kernel
theorem dX7_warm_8 : decode cX7_warm 8 = .ok (.bipush 99, 2) := by decide +kernel
theorem dX7_warm_10 : decode cX7_warm 10 = .ok (.if_icmp .ge 60, 3) := by decide +kernel
theorem dX7_warm_13 : decode cX7_warm 13 = .ok (.iload_n 2, 1) := by decide +kernel
theorem dX7_warm_14 : decode cX7_warm 14 = .ok (.ifCond .le 56, 3) := by decide +kernel
theorem dX7_warm_17 : decode cX7_warm 17 = .ok (.iconst 0, 1) := by decide +kernel
theorem dX7_warm_18 : decode cX7_warm 18 = .ok (.istore 4, 2) := by decide +kernel
theorem dX7_warm_20 : decode cX7_warm 20 = .ok (.iload 4, 2) := by decide +kernel
theorem dX7_warm_22 : decode cX7_warm 22 = .ok (.aload_n 0, 1) := by decide +kernel
theorem dX7_warm_23 : decode cX7_warm 23 = .ok (.getfield 21, 3) := by decide +kernel
theorem dX7_warm_26 : decode cX7_warm 26 = .ok (.if_icmp .ge 38, 3) := by decide +kernel
theorem dX7_warm_29 : decode cX7_warm 29 = .ok (.iload_n 2, 1) := by decide +kernel
theorem dX7_warm_30 : decode cX7_warm 30 = .ok (.ifCond .le 34, 3) := by decide +kernel
theorem dX7_warm_33 : decode cX7_warm 33 = .ok (.aload_n 0, 1) := by decide +kernel
theorem dX7_warm_34 : decode cX7_warm 34 = .ok (.getfield 9, 3) := by decide +kernel
theorem dX7_warm_37 : decode cX7_warm 37 = .ok (.iload 4, 2) := by decide +kernel
theorem dX7_warm_39 : decode cX7_warm 39 = .ok (.iaload, 1) := by decide +kernel
theorem dX7_warm_40 : decode cX7_warm 40 = .ok (.iload_n 3, 1) := by decide +kernel
theorem dX7_warm_41 : decode cX7_warm 41 = .ok (.if_icmp .ne 17, 3) := by decide +kernel
theorem dX7_warm_44 : decode cX7_warm 44 = .ok (.aload_n 0, 1) := by decide +kernel
theorem dX7_warm_45 : decode cX7_warm 45 = .ok (.getfield 9, 3) := by decide +kernel
theorem dX7_warm_48 : decode cX7_warm 48 = .ok (.iload 4, 2) := by decide +kernel
theorem dX7_warm_50 : decode cX7_warm 50 = .ok (.dup2, 1) := by decide +kernel
theorem dX7_warm_51 : decode cX7_warm 51 = .ok (.iaload, 1) := by decide +kernel
theorem dX7_warm_52 : decode cX7_warm 52 = .ok (.iconst 1, 1) := by decide +kernel
theorem dX7_warm_53 : decode cX7_warm 53 = .ok (.iadd, 1) := by decide +kernel
theorem dX7_warm_54 : decode cX7_warm 54 = .ok (.iastore, 1) := by decide +kernel
theorem dX7_warm_55 : decode cX7_warm 55 = .ok (.iinc 2 (-1), 3) := by decide +kernel
theorem dX7_warm_58 : decode cX7_warm 58 = .ok (.iinc 4 1, 3) := by decide +kernel
theorem dX7_warm_61 : decode cX7_warm 61 = .ok (.goto (-41), 3) := by decide +kernel
theorem dX7_warm_64 : decode cX7_warm 64 = .ok (.iinc 3 1, 3) := by decide +kernel
theorem dX7_warm_67 : decode cX7_warm 67 = .ok (.goto (-60), 3) := by decide +kernel
theorem dX7_warm_70 : decode cX7_warm 70 = .ok (.aload_n 0, 1) := by decide +kernel
theorem dX7_warm_71 : decode cX7_warm 71 = .ok (.dup, 1) := by decide +kernel
theorem dX7_warm_72 : decode cX7_warm 72 = .ok (.getfield 25, 3) := by decide +kernel
theorem dX7_warm_75 : decode cX7_warm 75 = .ok (.iload_n 1, 1) := by decide +kernel
theorem dX7_warm_76 : decode cX7_warm 76 = .ok (.iadd, 1) := by decide +kernel
theorem dX7_warm_77 : decode cX7_warm 77 = .ok (.putfield 25, 3) := by decide +kernel
theorem dX7_warm_80 : decode cX7_warm 80 = .ok (.aload_n 0, 1) := by decide +kernel
theorem dX7_warm_81 : decode cX7_warm 81 = .ok (.dup, 1) := by decide +kernel
theorem dX7_warm_82 : decode cX7_warm 82 = .ok (.getfield 34, 3) := by decide +kernel
theorem dX7_warm_85 : decode cX7_warm 85 = .ok (.iload_n 2, 1) := by decide +kernel
theorem dX7_warm_86 : decode cX7_warm 86 = .ok (.iadd, 1) := by decide +kernel
theorem dX7_warm_87 : decode cX7_warm 87 = .ok (.putfield 34, 3) := by decide +kernel
theorem dX7_warm_90 : decode cX7_warm 90 = .ok (.return_, 1) := by decide +kernel
theorem dX7_cool_0 : decode cX7_cool 0 = .ok (.iconst 0, 1) := by decide +kernel
theorem dX7_cool_1 : decode cX7_cool 1 = .ok (.istore_n 1, 1) := by decide +kernel
theorem dX7_cool_2 : decode cX7_cool 2 = .ok (.iload_n 1, 1) := by decide +kernel
theorem dX7_cool_3 : decode cX7_cool 3 = .ok (.aload_n 0, 1) := by decide +kernel
theorem dX7_cool_4 : decode cX7_cool 4 = .ok (.getfield 21, 3) := by decide +kernel
theorem dX7_cool_7 : decode cX7_cool 7 = .ok (.if_icmp .ge 53, 3) := by decide +kernel
theorem dX7_cool_10 : decode cX7_cool 10 = .ok (.aload_n 0, 1) := by decide +kernel
theorem dX7_cool_11 : decode cX7_cool 11 = .ok (.getfield 9, 3) := by decide +kernel
theorem dX7_cool_14 : decode cX7_cool 14 = .ok (.iload_n 1, 1) := by decide +kernel
theorem dX7_cool_15 : decode cX7_cool 15 = .ok (.iaload, 1) := by decide +kernel
theorem dX7_cool_16 : decode cX7_cool 16 = .ok (.bipush 20, 2) := by decide +kernel
theorem dX7_cool_18 : decode cX7_cool 18 = .ok (.if_icmp .le 36, 3) := by decide +kernel
theorem dX7_cool_21 : decode cX7_cool 21 = .ok (.aload_n 0, 1) := by decide +kernel
theorem dX7_cool_22 : decode cX7_cool 22 = .ok (.getfield 9, 3) := by decide +kernel
theorem dX7_cool_25 : decode cX7_cool 25 = .ok (.iload_n 1, 1) := by decide +kernel
theorem dX7_cool_26 : decode cX7_cool 26 = .ok (.iaload, 1) := by decide +kernel
theorem dX7_cool_27 : decode cX7_cool 27 = .ok (.bipush 20, 2) := by decide +kernel
theorem dX7_cool_29 : decode cX7_cool 29 = .ok (.isub, 1) := by decide +kernel
theorem dX7_cool_30 : decode cX7_cool 30 = .ok (.bipush 20, 2) := by decide +kernel
theorem dX7_cool_32 : decode cX7_cool 32 = .ok (.idiv, 1) := by decide +kernel
theorem dX7_cool_33 : decode cX7_cool 33 = .ok (.istore_n 2, 1) := by decide +kernel
theorem dX7_cool_34 : decode cX7_cool 34 = .ok (.aload_n 0, 1) := by decide +kernel
theorem dX7_cool_35 : decode cX7_cool 35 = .ok (.getfield 9, 3) := by decide +kernel
theorem dX7_cool_38 : decode cX7_cool 38 = .ok (.iload_n 1, 1) := by decide +kernel
theorem dX7_cool_39 : decode cX7_cool 39 = .ok (.dup2, 1) := by decide +kernel
theorem dX7_cool_40 : decode cX7_cool 40 = .ok (.iaload, 1) := by decide +kernel
theorem dX7_cool_41 : decode cX7_cool 41 = .ok (.iload_n 2, 1) := by decide +kernel
theorem dX7_cool_42 : decode cX7_cool 42 = .ok (.isub, 1) := by decide +kernel
theorem dX7_cool_43 : decode cX7_cool 43 = .ok (.iastore, 1) := by decide +kernel
theorem dX7_cool_44 : decode cX7_cool 44 = .ok (.aload_n 0, 1) := by decide +kernel
theorem dX7_cool_45 : decode cX7_cool 45 = .ok (.dup, 1) := by decide +kernel
theorem dX7_cool_46 : decode cX7_cool 46 = .ok (.getfield 34, 3) := by decide +kernel
theorem dX7_cool_49 : decode cX7_cool 49 = .ok (.iload_n 2, 1) := by decide +kernel
theorem dX7_cool_50 : decode cX7_cool 50 = .ok (.iadd, 1) := by decide +kernel
theorem dX7_cool_51 : decode cX7_cool 51 = .ok (.putfield 34, 3) := by decide +kernel
theorem dX7_cool_54 : decode cX7_cool 54 = .ok (.iinc 1 1, 3) := by decide +kernel
theorem dX7_cool_57 : decode cX7_cool 57 = .ok (.goto (-55), 3) := by decide +kernel
theorem dX7_cool_60 : decode cX7_cool 60 = .ok (.return_, 1) := by decide +kernel
theorem dX7_putInOrder_0 : decode cX7_putInOrder 0 = .ok (.iconst 1, 1) := by decide +kernel
theorem dX7_putInOrder_1 : decode cX7_putInOrder 1 = .ok (.istore_n 1, 1) := by decide +kernel
theorem dX7_putInOrder_2 : decode cX7_putInOrder 2 = .ok (.iload_n 1, 1) := by decide +kernel
theorem dX7_putInOrder_3 : decode cX7_putInOrder 3 = .ok (.aload_n 0, 1) := by decide +kernel
theorem dX7_putInOrder_4 : decode cX7_putInOrder 4 = .ok (.getfield 21, 3) := by decide +kernel
theorem dX7_putInOrder_7 : decode cX7_putInOrder 7 = .ok (.if_icmp .ge 61, 3) := by decide +kernel
theorem dX7_putInOrder_10 : decode cX7_putInOrder 10 = .ok (.aload_n 0, 1) := by decide +kernel
theorem dX7_putInOrder_11 : decode cX7_putInOrder 11 = .ok (.getfield 9, 3) := by decide +kernel
theorem dX7_putInOrder_14 : decode cX7_putInOrder 14 = .ok (.iload_n 1, 1) := by decide +kernel
theorem dX7_putInOrder_15 : decode cX7_putInOrder 15 = .ok (.iaload, 1) := by decide +kernel
theorem dX7_putInOrder_16 : decode cX7_putInOrder 16 = .ok (.istore_n 2, 1) := by decide +kernel
theorem dX7_putInOrder_17 : decode cX7_putInOrder 17 = .ok (.iload_n 1, 1) := by decide +kernel
theorem dX7_putInOrder_18 : decode cX7_putInOrder 18 = .ok (.istore_n 3, 1) := by decide +kernel
theorem dX7_putInOrder_19 : decode cX7_putInOrder 19 = .ok (.iload_n 3, 1) := by decide +kernel
theorem dX7_putInOrder_20 : decode cX7_putInOrder 20 = .ok (.ifCond .le 35, 3) := by decide +kernel
theorem dX7_putInOrder_23 : decode cX7_putInOrder 23 = .ok (.aload_n 0, 1) := by decide +kernel
theorem dX7_putInOrder_24 : decode cX7_putInOrder 24 = .ok (.getfield 9, 3) := by decide +kernel
theorem dX7_putInOrder_27 : decode cX7_putInOrder 27 = .ok (.iload_n 3, 1) := by decide +kernel
theorem dX7_putInOrder_28 : decode cX7_putInOrder 28 = .ok (.iconst 1, 1) := by decide +kernel
theorem dX7_putInOrder_29 : decode cX7_putInOrder 29 = .ok (.isub, 1) := by decide +kernel
theorem dX7_putInOrder_30 : decode cX7_putInOrder 30 = .ok (.iaload, 1) := by decide +kernel
theorem dX7_putInOrder_31 : decode cX7_putInOrder 31 = .ok (.iload_n 2, 1) := by decide +kernel
theorem dX7_putInOrder_32 : decode cX7_putInOrder 32 = .ok (.if_icmp .le 23, 3) := by decide +kernel
theorem dX7_putInOrder_35 : decode cX7_putInOrder 35 = .ok (.aload_n 0, 1) := by decide +kernel
theorem dX7_putInOrder_36 : decode cX7_putInOrder 36 = .ok (.getfield 9, 3) := by decide +kernel
theorem dX7_putInOrder_39 : decode cX7_putInOrder 39 = .ok (.iload_n 3, 1) := by decide +kernel
theorem dX7_putInOrder_40 : decode cX7_putInOrder 40 = .ok (.aload_n 0, 1) := by decide +kernel
theorem dX7_putInOrder_41 : decode cX7_putInOrder 41 = .ok (.getfield 9, 3) := by decide +kernel
theorem dX7_putInOrder_44 : decode cX7_putInOrder 44 = .ok (.iload_n 3, 1) := by decide +kernel
theorem dX7_putInOrder_45 : decode cX7_putInOrder 45 = .ok (.iconst 1, 1) := by decide +kernel
theorem dX7_putInOrder_46 : decode cX7_putInOrder 46 = .ok (.isub, 1) := by decide +kernel
theorem dX7_putInOrder_47 : decode cX7_putInOrder 47 = .ok (.iaload, 1) := by decide +kernel
theorem dX7_putInOrder_48 : decode cX7_putInOrder 48 = .ok (.iastore, 1) := by decide +kernel
theorem dX7_putInOrder_49 : decode cX7_putInOrder 49 = .ok (.iinc 3 (-1), 3) := by decide +kernel
theorem dX7_putInOrder_52 : decode cX7_putInOrder 52 = .ok (.goto (-33), 3) := by decide +kernel
theorem dX7_putInOrder_55 : decode cX7_putInOrder 55 = .ok (.aload_n 0, 1) := by decide +kernel
theorem dX7_putInOrder_56 : decode cX7_putInOrder 56 = .ok (.getfield 9, 3) := by decide +kernel
theorem dX7_putInOrder_59 : decode cX7_putInOrder 59 = .ok (.iload_n 3, 1) := by decide +kernel
theorem dX7_putInOrder_60 : decode cX7_putInOrder 60 = .ok (.iload_n 2, 1) := by decide +kernel
theorem dX7_putInOrder_61 : decode cX7_putInOrder 61 = .ok (.iastore, 1) := by decide +kernel
theorem dX7_putInOrder_62 : decode cX7_putInOrder 62 = .ok (.iinc 1 1, 3) := by decide +kernel
theorem dX7_putInOrder_65 : decode cX7_putInOrder 65 = .ok (.goto (-63), 3) := by decide +kernel
theorem dX7_putInOrder_68 : decode cX7_putInOrder 68 = .ok (.return_, 1) := by decide +kernel
theorem dX8_init_0 : decode cX8_init 0 = .ok (.aload_n 0, 1) := by decide +kernel
theorem dX8_init_1 : decode cX8_init 1 = .ok (.invokespecial 1, 3) := by decide +kernel
theorem dX8_init_4 : decode cX8_init 4 = .ok (.aload_n 0, 1) := by decide +kernel
theorem dX8_init_5 : decode cX8_init 5 = .ok (.new 7, 3) := by decide +kernel
theorem dX8_init_8 : decode cX8_init 8 = .ok (.dup, 1) := by decide +kernel
theorem dX8_init_9 : decode cX8_init 9 = .ok (.invokespecial 9, 3) := by decide +kernel
theorem dX8_init_12 : decode cX8_init 12 = .ok (.putfield 10, 3) := by decide +kernel
theorem dX8_init_15 : decode cX8_init 15 = .ok (.aload_n 0, 1) := by decide +kernel
theorem dX8_init_16 : decode cX8_init 16 = .ok (.new 16, 3) := by decide +kernel
theorem dX8_init_19 : decode cX8_init 19 = .ok (.dup, 1) := by decide +kernel
theorem dX8_init_20 : decode cX8_init 20 = .ok (.invokespecial 18, 3) := by decide +kernel
theorem dX8_init_23 : decode cX8_init 23 = .ok (.putfield 19, 3) := by decide +kernel
theorem dX8_init_26 : decode cX8_init 26 = .ok (.aload_n 0, 1) := by decide +kernel
theorem dX8_init_27 : decode cX8_init 27 = .ok (.new 16, 3) := by decide +kernel
theorem dX8_init_30 : decode cX8_init 30 = .ok (.dup, 1) := by decide +kernel
theorem dX8_init_31 : decode cX8_init 31 = .ok (.invokespecial 18, 3) := by decide +kernel
theorem dX8_init_34 : decode cX8_init 34 = .ok (.putfield 23, 3) := by decide +kernel
theorem dX8_init_37 : decode cX8_init 37 = .ok (.aload_n 0, 1) := by decide +kernel
theorem dX8_init_38 : decode cX8_init 38 = .ok (.new 26, 3) := by decide +kernel
theorem dX8_init_41 : decode cX8_init 41 = .ok (.dup, 1) := by decide +kernel
theorem dX8_init_42 : decode cX8_init 42 = .ok (.invokespecial 28, 3) := by decide +kernel
theorem dX8_init_45 : decode cX8_init 45 = .ok (.putfield 29, 3) := by decide +kernel
theorem dX8_init_48 : decode cX8_init 48 = .ok (.aload_n 0, 1) := by decide +kernel
theorem dX8_init_49 : decode cX8_init 49 = .ok (.new 33, 3) := by decide +kernel
theorem dX8_init_52 : decode cX8_init 52 = .ok (.dup, 1) := by decide +kernel
theorem dX8_init_53 : decode cX8_init 53 = .ok (.invokespecial 35, 3) := by decide +kernel
theorem dX8_init_56 : decode cX8_init 56 = .ok (.putfield 36, 3) := by decide +kernel
theorem dX8_init_59 : decode cX8_init 59 = .ok (.aload_n 0, 1) := by decide +kernel
theorem dX8_init_60 : decode cX8_init 60 = .ok (.new 33, 3) := by decide +kernel
theorem dX8_init_63 : decode cX8_init 63 = .ok (.dup, 1) := by decide +kernel
theorem dX8_init_64 : decode cX8_init 64 = .ok (.invokespecial 35, 3) := by decide +kernel
theorem dX8_init_67 : decode cX8_init 67 = .ok (.putfield 40, 3) := by decide +kernel
theorem dX8_init_70 : decode cX8_init 70 = .ok (.aload_n 0, 1) := by decide +kernel
theorem dX8_init_71 : decode cX8_init 71 = .ok (.getfield 19, 3) := by decide +kernel
theorem dX8_init_74 : decode cX8_init 74 = .ok (.aload_n 0, 1) := by decide +kernel
theorem dX8_init_75 : decode cX8_init 75 = .ok (.getfield 10, 3) := by decide +kernel
theorem dX8_init_78 : decode cX8_init 78 = .ok (.invokevirtual 43, 3) := by decide +kernel
theorem dX8_init_81 : decode cX8_init 81 = .ok (.return_, 1) := by decide +kernel
theorem dX8_append_0 : decode cX8_append 0 = .ok (.iload_n 1, 1) := by decide +kernel
theorem dX8_append_1 : decode cX8_append 1 = .ok (.iconst 0, 1) := by decide +kernel
theorem dX8_append_2 : decode cX8_append 2 = .ok (.sipush 255, 3) := by decide +kernel
theorem dX8_append_5 : decode cX8_append 5 = .ok (.invokestatic 47, 3) := by decide +kernel
theorem dX8_append_8 : decode cX8_append 8 = .ok (.aload_n 0, 1) := by decide +kernel
theorem dX8_append_9 : decode cX8_append 9 = .ok (.getfield 10, 3) := by decide +kernel
theorem dX8_append_12 : decode cX8_append 12 = .ok (.iload_n 1, 1) := by decide +kernel
theorem dX8_append_13 : decode cX8_append 13 = .ok (.invokevirtual 51, 3) := by decide +kernel
theorem dX8_append_16 : decode cX8_append 16 = .ok (.ifCond .ne 13, 3) := by decide +kernel
theorem dX8_append_19 : decode cX8_append 19 = .ok (.new 55, 3) := by decide +kernel
theorem dX8_append_22 : decode cX8_append 22 = .ok (.dup, 1) := by decide +kernel
theorem dX8_append_23 : decode cX8_append 23 = .ok (.ldc 57, 2) := by decide +kernel
theorem dX8_append_25 : decode cX8_append 25 = .ok (.invokespecial 59, 3) := by decide +kernel
theorem dX8_append_28 : decode cX8_append 28 = .ok (.athrow, 1) := by decide +kernel
theorem dX8_append_29 : decode cX8_append 29 = .ok (.aload_n 0, 1) := by decide +kernel
theorem dX8_append_30 : decode cX8_append 30 = .ok (.getfield 10, 3) := by decide +kernel
theorem dX8_append_33 : decode cX8_append 33 = .ok (.getfield 62, 3) := by decide +kernel
theorem dX8_append_36 : decode cX8_append 36 = .ok (.ireturn, 1) := by decide +kernel
theorem dX8_clearText_0 : decode cX8_clearText 0 = .ok (.aload_n 0, 1) := by decide +kernel
theorem dX8_clearText_1 : decode cX8_clearText 1 = .ok (.getfield 10, 3) := by decide +kernel
theorem dX8_clearText_4 : decode cX8_clearText 4 = .ok (.getfield 62, 3) := by decide +kernel
theorem dX8_clearText_7 : decode cX8_clearText 7 = .ok (.istore_n 1, 1) := by decide +kernel
theorem dX8_clearText_8 : decode cX8_clearText 8 = .ok (.aload_n 0, 1) := by decide +kernel
theorem dX8_clearText_9 : decode cX8_clearText 9 = .ok (.getfield 10, 3) := by decide +kernel
theorem dX8_clearText_12 : decode cX8_clearText 12 = .ok (.iconst 0, 1) := by decide +kernel
theorem dX8_clearText_13 : decode cX8_clearText 13 = .ok (.putfield 62, 3) := by decide +kernel
theorem dX8_clearText_16 : decode cX8_clearText 16 = .ok (.iload_n 1, 1) := by decide +kernel
theorem dX8_clearText_17 : decode cX8_clearText 17 = .ok (.ireturn, 1) := by decide +kernel
theorem dX8_errorPosition_0 : decode cX8_errorPosition 0 = .ok (.aload_n 0, 1) := by decide +kernel
theorem dX8_errorPosition_1 : decode cX8_errorPosition 1 = .ok (.getfield 10, 3) := by decide +kernel
theorem dX8_errorPosition_4 : decode cX8_errorPosition 4 = .ok (.invokevirtual 66, 3) := by decide +kernel
theorem dX8_errorPosition_7 : decode cX8_errorPosition 7 = .ok (.ireturn, 1) := by decide +kernel
theorem dX8_load_0 : decode cX8_load 0 = .ok (.aload_n 0, 1) := by decide +kernel
theorem dX8_load_1 : decode cX8_load 1 = .ok (.getfield 10, 3) := by decide +kernel
theorem dX8_load_4 : decode cX8_load 4 = .ok (.invokevirtual 66, 3) := by decide +kernel
theorem dX8_load_7 : decode cX8_load 7 = .ok (.bipush (-9), 2) := by decide +kernel
theorem dX8_load_9 : decode cX8_load 9 = .ok (.if_icmp .eq 13, 3) := by decide +kernel
theorem dX8_load_12 : decode cX8_load 12 = .ok (.new 55, 3) := by decide +kernel
theorem dX8_load_15 : decode cX8_load 15 = .ok (.dup, 1) := by decide +kernel
theorem dX8_load_16 : decode cX8_load 16 = .ok (.ldc 70, 2) := by decide +kernel
theorem dX8_load_18 : decode cX8_load 18 = .ok (.invokespecial 59, 3) := by decide +kernel
theorem dX8_load_21 : decode cX8_load 21 = .ok (.athrow, 1) := by decide +kernel
theorem dX8_load_22 : decode cX8_load 22 = .ok (.aload_n 0, 1) := by decide +kernel
theorem dX8_load_23 : decode cX8_load 23 = .ok (.getfield 19, 3) := by decide +kernel
theorem dX8_load_26 : decode cX8_load 26 = .ok (.aload_n 0, 1) := by decide +kernel
theorem dX8_load_27 : decode cX8_load 27 = .ok (.getfield 10, 3) := by decide +kernel
theorem dX8_load_30 : decode cX8_load 30 = .ok (.invokevirtual 43, 3) := by decide +kernel
theorem dX8_load_33 : decode cX8_load 33 = .ok (.aload_n 0, 1) := by decide +kernel
theorem dX8_load_34 : decode cX8_load 34 = .ok (.getfield 29, 3) := by decide +kernel
theorem dX8_load_37 : decode cX8_load 37 = .ok (.invokevirtual 72, 3) := by decide +kernel
theorem dX8_load_40 : decode cX8_load 40 = .ok (.aload_n 0, 1) := by decide +kernel
theorem dX8_load_41 : decode cX8_load 41 = .ok (.getfield 36, 3) := by decide +kernel
theorem dX8_load_44 : decode cX8_load 44 = .ok (.iconst 0, 1) := by decide +kernel
theorem dX8_load_45 : decode cX8_load 45 = .ok (.putfield 75, 3) := by decide +kernel
theorem dX8_load_48 : decode cX8_load 48 = .ok (.aload_n 0, 1) := by decide +kernel
theorem dX8_load_49 : decode cX8_load 49 = .ok (.getfield 40, 3) := by decide +kernel
theorem dX8_load_52 : decode cX8_load 52 = .ok (.iconst 0, 1) := by decide +kernel
theorem dX8_load_53 : decode cX8_load 53 = .ok (.putfield 75, 3) := by decide +kernel
theorem dX8_load_56 : decode cX8_load 56 = .ok (.aload_n 0, 1) := by decide +kernel
theorem dX8_load_57 : decode cX8_load 57 = .ok (.getfield 19, 3) := by decide +kernel
theorem dX8_load_60 : decode cX8_load 60 = .ok (.getfield 79, 3) := by decide +kernel
theorem dX8_load_63 : decode cX8_load 63 = .ok (.ireturn, 1) := by decide +kernel
theorem dX8_about_0 : decode cX8_about 0 = .ok (.iload_n 1, 1) := by decide +kernel
theorem dX8_about_1 : decode cX8_about 1 = .ok (.iconst 0, 1) := by decide +kernel
theorem dX8_about_2 : decode cX8_about 2 = .ok (.bipush 16, 2) := by decide +kernel
theorem dX8_about_4 : decode cX8_about 4 = .ok (.invokestatic 47, 3) := by decide +kernel
theorem dX8_about_7 : decode cX8_about 7 = .ok (.iload_n 1, 1) := by decide +kernel
theorem dX8_about_8 : decode cX8_about 8 = .ok (.bipush 6, 2) := by decide +kernel
theorem dX8_about_10 : decode cX8_about 10 = .ok (.if_icmp .ge 13, 3) := by decide +kernel
theorem dX8_about_13 : decode cX8_about 13 = .ok (.aload_n 0, 1) := by decide +kernel
theorem dX8_about_14 : decode cX8_about 14 = .ok (.getfield 19, 3) := by decide +kernel
theorem dX8_about_17 : decode cX8_about 17 = .ok (.getfield 82, 3) := by decide +kernel
theorem dX8_about_20 : decode cX8_about 20 = .ok (.iload_n 1, 1) := by decide +kernel
theorem dX8_about_21 : decode cX8_about 21 = .ok (.iaload, 1) := by decide +kernel
theorem dX8_about_22 : decode cX8_about 22 = .ok (.ireturn, 1) := by decide +kernel
theorem dX8_about_23 : decode cX8_about 23 = .ok (.iload_n 1, 1) := by decide +kernel
theorem dX8_about_24 : decode cX8_about 24 = .ok (.tableswitch 165 6 15 #[56, 64, 75, 83, 94, 102, 121, 132, 143, 154], 56) := by decide +kernel
theorem dX8_about_80 : decode cX8_about 80 = .ok (.aload_n 0, 1) := by decide +kernel
theorem dX8_about_81 : decode cX8_about 81 = .ok (.getfield 19, 3) := by decide +kernel
theorem dX8_about_84 : decode cX8_about 84 = .ok (.getfield 79, 3) := by decide +kernel
theorem dX8_about_87 : decode cX8_about 87 = .ok (.ireturn, 1) := by decide +kernel
theorem dX8_about_88 : decode cX8_about 88 = .ok (.aload_n 0, 1) := by decide +kernel
theorem dX8_about_89 : decode cX8_about 89 = .ok (.getfield 19, 3) := by decide +kernel
theorem dX8_about_92 : decode cX8_about 92 = .ok (.getfield 86, 3) := by decide +kernel
theorem dX8_about_95 : decode cX8_about 95 = .ok (.getfield 90, 3) := by decide +kernel
theorem dX8_about_98 : decode cX8_about 98 = .ok (.ireturn, 1) := by decide +kernel
theorem dX8_about_99 : decode cX8_about 99 = .ok (.aload_n 0, 1) := by decide +kernel
theorem dX8_about_100 : decode cX8_about 100 = .ok (.getfield 19, 3) := by decide +kernel
theorem dX8_about_103 : decode cX8_about 103 = .ok (.getfield 95, 3) := by decide +kernel
theorem dX8_about_106 : decode cX8_about 106 = .ok (.ireturn, 1) := by decide +kernel
theorem dX8_about_107 : decode cX8_about 107 = .ok (.aload_n 0, 1) := by decide +kernel
theorem dX8_about_108 : decode cX8_about 108 = .ok (.getfield 19, 3) := by decide +kernel
theorem dX8_about_111 : decode cX8_about 111 = .ok (.getfield 86, 3) := by decide +kernel
theorem dX8_about_114 : decode cX8_about 114 = .ok (.invokevirtual 98, 3) := by decide +kernel
theorem dX8_about_117 : decode cX8_about 117 = .ok (.ireturn, 1) := by decide +kernel
theorem dX8_about_118 : decode cX8_about 118 = .ok (.aload_n 0, 1) := by decide +kernel
theorem dX8_about_119 : decode cX8_about 119 = .ok (.getfield 19, 3) := by decide +kernel
theorem dX8_about_122 : decode cX8_about 122 = .ok (.getfield 101, 3) := by decide +kernel
theorem dX8_about_125 : decode cX8_about 125 = .ok (.ireturn, 1) := by decide +kernel
theorem dX8_about_126 : decode cX8_about 126 = .ok (.aload_n 0, 1) := by decide +kernel
theorem dX8_about_127 : decode cX8_about 127 = .ok (.getfield 19, 3) := by decide +kernel
theorem dX8_about_130 : decode cX8_about 130 = .ok (.getfield 104, 3) := by decide +kernel
theorem dX8_about_133 : decode cX8_about 133 = .ok (.getfield 108, 3) := by decide +kernel
theorem dX8_about_136 : decode cX8_about 136 = .ok (.ifCond .eq 7, 3) := by decide +kernel
theorem dX8_about_139 : decode cX8_about 139 = .ok (.iconst 1, 1) := by decide +kernel
theorem dX8_about_140 : decode cX8_about 140 = .ok (.goto 4, 3) := by decide +kernel
theorem dX8_about_143 : decode cX8_about 143 = .ok (.iconst 0, 1) := by decide +kernel
theorem dX8_about_144 : decode cX8_about 144 = .ok (.ireturn, 1) := by decide +kernel
theorem dX8_about_145 : decode cX8_about 145 = .ok (.aload_n 0, 1) := by decide +kernel
theorem dX8_about_146 : decode cX8_about 146 = .ok (.getfield 19, 3) := by decide +kernel
theorem dX8_about_149 : decode cX8_about 149 = .ok (.getfield 104, 3) := by decide +kernel
theorem dX8_about_152 : decode cX8_about 152 = .ok (.getfield 113, 3) := by decide +kernel
theorem dX8_about_155 : decode cX8_about 155 = .ok (.ireturn, 1) := by decide +kernel
theorem dX8_about_156 : decode cX8_about 156 = .ok (.aload_n 0, 1) := by decide +kernel
theorem dX8_about_157 : decode cX8_about 157 = .ok (.getfield 19, 3) := by decide +kernel
theorem dX8_about_160 : decode cX8_about 160 = .ok (.getfield 104, 3) := by decide +kernel
theorem dX8_about_163 : decode cX8_about 163 = .ok (.getfield 116, 3) := by decide +kernel
theorem dX8_about_166 : decode cX8_about 166 = .ok (.ireturn, 1) := by decide +kernel
theorem dX8_about_167 : decode cX8_about 167 = .ok (.aload_n 0, 1) := by decide +kernel
theorem dX8_about_168 : decode cX8_about 168 = .ok (.getfield 19, 3) := by decide +kernel
theorem dX8_about_171 : decode cX8_about 171 = .ok (.getfield 104, 3) := by decide +kernel
theorem dX8_about_174 : decode cX8_about 174 = .ok (.getfield 119, 3) := by decide +kernel
theorem dX8_about_177 : decode cX8_about 177 = .ok (.ireturn, 1) := by decide +kernel
theorem dX8_about_178 : decode cX8_about 178 = .ok (.aload_n 0, 1) := by decide +kernel
theorem dX8_about_179 : decode cX8_about 179 = .ok (.getfield 19, 3) := by decide +kernel
theorem dX8_about_182 : decode cX8_about 182 = .ok (.getfield 104, 3) := by decide +kernel
theorem dX8_about_185 : decode cX8_about 185 = .ok (.getfield 122, 3) := by decide +kernel
theorem dX8_about_188 : decode cX8_about 188 = .ok (.ireturn, 1) := by decide +kernel
theorem dX8_about_189 : decode cX8_about 189 = .ok (.aload_n 0, 1) := by decide +kernel
theorem dX8_about_190 : decode cX8_about 190 = .ok (.getfield 19, 3) := by decide +kernel
theorem dX8_about_193 : decode cX8_about 193 = .ok (.iconst 2, 1) := by decide +kernel
theorem dX8_about_194 : decode cX8_about 194 = .ok (.invokevirtual 125, 3) := by decide +kernel
theorem dX8_about_197 : decode cX8_about 197 = .ok (.ireturn, 1) := by decide +kernel
theorem dX8_boiler_0 : decode cX8_boiler 0 = .ok (.aload_n 0, 1) := by decide +kernel
theorem dX8_boiler_1 : decode cX8_boiler 1 = .ok (.iload_n 1, 1) := by decide +kernel
theorem dX8_boiler_2 : decode cX8_boiler 2 = .ok (.invokevirtual 129, 3) := by decide +kernel
theorem dX8_boiler_5 : decode cX8_boiler 5 = .ok (.iload_n 2, 1) := by decide +kernel
theorem dX8_boiler_6 : decode cX8_boiler 6 = .ok (.iconst 0, 1) := by decide +kernel
theorem dX8_boiler_7 : decode cX8_boiler 7 = .ok (.bipush 7, 2) := by decide +kernel
theorem dX8_boiler_9 : decode cX8_boiler 9 = .ok (.invokestatic 47, 3) := by decide +kernel
theorem dX8_boiler_12 : decode cX8_boiler 12 = .ok (.aload_n 0, 1) := by decide +kernel
theorem dX8_boiler_13 : decode cX8_boiler 13 = .ok (.getfield 19, 3) := by decide +kernel
theorem dX8_boiler_16 : decode cX8_boiler 16 = .ok (.getfield 133, 3) := by decide +kernel
theorem dX8_boiler_19 : decode cX8_boiler 19 = .ok (.iload_n 1, 1) := by decide +kernel
theorem dX8_boiler_20 : decode cX8_boiler 20 = .ok (.aaload, 1) := by decide +kernel
theorem dX8_boiler_21 : decode cX8_boiler 21 = .ok (.astore_n 3, 1) := by decide +kernel
theorem dX8_boiler_22 : decode cX8_boiler 22 = .ok (.iload_n 2, 1) := by decide +kernel
theorem dX8_boiler_23 : decode cX8_boiler 23 = .ok (.tableswitch 76 0 6 #[41, 46, 51, 56, 61, 66, 71], 41) := by decide +kernel
theorem dX8_boiler_64 : decode cX8_boiler 64 = .ok (.aload_n 3, 1) := by decide +kernel
theorem dX8_boiler_65 : decode cX8_boiler 65 = .ok (.getfield 137, 3) := by decide +kernel
theorem dX8_boiler_68 : decode cX8_boiler 68 = .ok (.ireturn, 1) := by decide +kernel
theorem dX8_boiler_69 : decode cX8_boiler 69 = .ok (.aload_n 3, 1) := by decide +kernel
theorem dX8_boiler_70 : decode cX8_boiler 70 = .ok (.getfield 142, 3) := by decide +kernel
theorem dX8_boiler_73 : decode cX8_boiler 73 = .ok (.ireturn, 1) := by decide +kernel
theorem dX8_boiler_74 : decode cX8_boiler 74 = .ok (.aload_n 3, 1) := by decide +kernel
theorem dX8_boiler_75 : decode cX8_boiler 75 = .ok (.getfield 145, 3) := by decide +kernel
theorem dX8_boiler_78 : decode cX8_boiler 78 = .ok (.ireturn, 1) := by decide +kernel
theorem dX8_boiler_79 : decode cX8_boiler 79 = .ok (.aload_n 3, 1) := by decide +kernel
theorem dX8_boiler_80 : decode cX8_boiler 80 = .ok (.getfield 148, 3) := by decide +kernel
theorem dX8_boiler_83 : decode cX8_boiler 83 = .ok (.ireturn, 1) := by decide +kernel
theorem dX8_boiler_84 : decode cX8_boiler 84 = .ok (.aload_n 3, 1) := by decide +kernel
theorem dX8_boiler_85 : decode cX8_boiler 85 = .ok (.getfield 151, 3) := by decide +kernel
theorem dX8_boiler_88 : decode cX8_boiler 88 = .ok (.ireturn, 1) := by decide +kernel
theorem dX8_boiler_89 : decode cX8_boiler 89 = .ok (.aload_n 3, 1) := by decide +kernel
theorem dX8_boiler_90 : decode cX8_boiler 90 = .ok (.getfield 154, 3) := by decide +kernel
theorem dX8_boiler_93 : decode cX8_boiler 93 = .ok (.ireturn, 1) := by decide +kernel
theorem dX8_boiler_94 : decode cX8_boiler 94 = .ok (.aload_n 3, 1) := by decide +kernel
theorem dX8_boiler_95 : decode cX8_boiler 95 = .ok (.getfield 157, 3) := by decide +kernel
theorem dX8_boiler_98 : decode cX8_boiler 98 = .ok (.ireturn, 1) := by decide +kernel
theorem dX8_boiler_99 : decode cX8_boiler 99 = .ok (.aload_n 0, 1) := by decide +kernel
theorem dX8_boiler_100 : decode cX8_boiler 100 = .ok (.getfield 19, 3) := by decide +kernel
theorem dX8_boiler_103 : decode cX8_boiler 103 = .ok (.aload_n 3, 1) := by decide +kernel
theorem dX8_boiler_104 : decode cX8_boiler 104 = .ok (.invokevirtual 160, 3) := by decide +kernel
theorem dX8_boiler_107 : decode cX8_boiler 107 = .ok (.ifCond .eq 7, 3) := by decide +kernel
theorem dX8_boiler_110 : decode cX8_boiler 110 = .ok (.iconst 1, 1) := by decide +kernel
theorem dX8_boiler_111 : decode cX8_boiler 111 = .ok (.goto 4, 3) := by decide +kernel
theorem dX8_boiler_114 : decode cX8_boiler 114 = .ok (.iconst 0, 1) := by decide +kernel
theorem dX8_boiler_115 : decode cX8_boiler 115 = .ok (.ireturn, 1) := by decide +kernel
theorem dX8_flue_0 : decode cX8_flue 0 = .ok (.iload_n 1, 1) := by decide +kernel
theorem dX8_flue_1 : decode cX8_flue 1 = .ok (.invokestatic 164, 3) := by decide +kernel
theorem dX8_flue_4 : decode cX8_flue 4 = .ok (.iload_n 2, 1) := by decide +kernel
theorem dX8_flue_5 : decode cX8_flue 5 = .ok (.iconst 0, 1) := by decide +kernel
theorem dX8_flue_6 : decode cX8_flue 6 = .ok (.iconst 3, 1) := by decide +kernel
theorem dX8_flue_7 : decode cX8_flue 7 = .ok (.invokestatic 47, 3) := by decide +kernel
theorem dX8_flue_10 : decode cX8_flue 10 = .ok (.aload_n 0, 1) := by decide +kernel
theorem dX8_flue_11 : decode cX8_flue 11 = .ok (.getfield 19, 3) := by decide +kernel
theorem dX8_flue_14 : decode cX8_flue 14 = .ok (.iload_n 1, 1) := by decide +kernel
theorem dX8_flue_15 : decode cX8_flue 15 = .ok (.invokevirtual 167, 3) := by decide +kernel
theorem dX8_flue_18 : decode cX8_flue 18 = .ok (.astore_n 3, 1) := by decide +kernel
theorem dX8_flue_19 : decode cX8_flue 19 = .ok (.iload_n 2, 1) := by decide +kernel
theorem dX8_flue_20 : decode cX8_flue 20 = .ok (.tableswitch 55 0 2 #[28, 33, 42], 28) := by decide +kernel
theorem dX8_flue_48 : decode cX8_flue 48 = .ok (.aload_n 3, 1) := by decide +kernel
theorem dX8_flue_49 : decode cX8_flue 49 = .ok (.getfield 171, 3) := by decide +kernel
theorem dX8_flue_52 : decode cX8_flue 52 = .ok (.ireturn, 1) := by decide +kernel
theorem dX8_flue_53 : decode cX8_flue 53 = .ok (.aload_n 0, 1) := by decide +kernel
theorem dX8_flue_54 : decode cX8_flue 54 = .ok (.getfield 19, 3) := by decide +kernel
theorem dX8_flue_57 : decode cX8_flue 57 = .ok (.iload_n 1, 1) := by decide +kernel
theorem dX8_flue_58 : decode cX8_flue 58 = .ok (.invokevirtual 176, 3) := by decide +kernel
theorem dX8_flue_61 : decode cX8_flue 61 = .ok (.ireturn, 1) := by decide +kernel
theorem dX8_flue_62 : decode cX8_flue 62 = .ok (.aload_n 3, 1) := by decide +kernel
theorem dX8_flue_63 : decode cX8_flue 63 = .ok (.getfield 179, 3) := by decide +kernel
theorem dX8_flue_66 : decode cX8_flue 66 = .ok (.ifCond .eq 7, 3) := by decide +kernel
theorem dX8_flue_69 : decode cX8_flue 69 = .ok (.iconst 1, 1) := by decide +kernel
theorem dX8_flue_70 : decode cX8_flue 70 = .ok (.goto 4, 3) := by decide +kernel
theorem dX8_flue_73 : decode cX8_flue 73 = .ok (.iconst 0, 1) := by decide +kernel
theorem dX8_flue_74 : decode cX8_flue 74 = .ok (.ireturn, 1) := by decide +kernel
theorem dX8_flue_75 : decode cX8_flue 75 = .ok (.aload_n 0, 1) := by decide +kernel
theorem dX8_flue_76 : decode cX8_flue 76 = .ok (.getfield 19, 3) := by decide +kernel
theorem dX8_flue_79 : decode cX8_flue 79 = .ok (.iload_n 1, 1) := by decide +kernel
theorem dX8_flue_80 : decode cX8_flue 80 = .ok (.invokevirtual 182, 3) := by decide +kernel
theorem dX8_flue_83 : decode cX8_flue 83 = .ok (.ireturn, 1) := by decide +kernel
theorem dX8_layer_0 : decode cX8_layer 0 = .ok (.iload_n 1, 1) := by decide +kernel
theorem dX8_layer_1 : decode cX8_layer 1 = .ok (.ifCond .lt 17, 3) := by decide +kernel
theorem dX8_layer_4 : decode cX8_layer 4 = .ok (.iload_n 1, 1) := by decide +kernel
theorem dX8_layer_5 : decode cX8_layer 5 = .ok (.aload_n 0, 1) := by decide +kernel
theorem dX8_layer_6 : decode cX8_layer 6 = .ok (.getfield 19, 3) := by decide +kernel
theorem dX8_layer_9 : decode cX8_layer 9 = .ok (.getfield 86, 3) := by decide +kernel
theorem dX8_layer_12 : decode cX8_layer 12 = .ok (.getfield 90, 3) := by decide +kernel
theorem dX8_layer_15 : decode cX8_layer 15 = .ok (.if_icmp .lt 13, 3) := by decide +kernel
theorem dX8_layer_18 : decode cX8_layer 18 = .ok (.new 185, 3) := by decide +kernel
theorem dX8_layer_21 : decode cX8_layer 21 = .ok (.dup, 1) := by decide +kernel
theorem dX8_layer_22 : decode cX8_layer 22 = .ok (.ldc 187, 2) := by decide +kernel
theorem dX8_layer_24 : decode cX8_layer 24 = .ok (.invokespecial 189, 3) := by decide +kernel
theorem dX8_layer_27 : decode cX8_layer 27 = .ok (.athrow, 1) := by decide +kernel
theorem dX8_layer_28 : decode cX8_layer 28 = .ok (.aload_n 0, 1) := by decide +kernel
theorem dX8_layer_29 : decode cX8_layer 29 = .ok (.getfield 19, 3) := by decide +kernel
theorem dX8_layer_32 : decode cX8_layer 32 = .ok (.getfield 86, 3) := by decide +kernel
theorem dX8_layer_35 : decode cX8_layer 35 = .ok (.getfield 190, 3) := by decide +kernel
theorem dX8_layer_38 : decode cX8_layer 38 = .ok (.iload_n 1, 1) := by decide +kernel
theorem dX8_layer_39 : decode cX8_layer 39 = .ok (.iaload, 1) := by decide +kernel
theorem dX8_layer_40 : decode cX8_layer 40 = .ok (.ireturn, 1) := by decide +kernel
theorem dX8_account_0 : decode cX8_account 0 = .ok (.iload_n 1, 1) := by decide +kernel
theorem dX8_account_1 : decode cX8_account 1 = .ok (.iconst 0, 1) := by decide +kernel
theorem dX8_account_2 : decode cX8_account 2 = .ok (.iconst 5, 1) := by decide +kernel
theorem dX8_account_3 : decode cX8_account 3 = .ok (.invokestatic 47, 3) := by decide +kernel
theorem dX8_account_6 : decode cX8_account 6 = .ok (.iload_n 1, 1) := by decide +kernel
theorem dX8_account_7 : decode cX8_account 7 = .ok (.tableswitch 85 0 4 #[33, 44, 55, 66, 77], 33) := by decide +kernel
theorem dX8_account_40 : decode cX8_account 40 = .ok (.aload_n 0, 1) := by decide +kernel
theorem dX8_account_41 : decode cX8_account 41 = .ok (.getfield 19, 3) := by decide +kernel
theorem dX8_account_44 : decode cX8_account 44 = .ok (.getfield 86, 3) := by decide +kernel
theorem dX8_account_47 : decode cX8_account 47 = .ok (.getfield 193, 3) := by decide +kernel
theorem dX8_account_50 : decode cX8_account 50 = .ok (.ireturn, 1) := by decide +kernel
theorem dX8_account_51 : decode cX8_account 51 = .ok (.aload_n 0, 1) := by decide +kernel
theorem dX8_account_52 : decode cX8_account 52 = .ok (.getfield 19, 3) := by decide +kernel
theorem dX8_account_55 : decode cX8_account 55 = .ok (.getfield 86, 3) := by decide +kernel
theorem dX8_account_58 : decode cX8_account 58 = .ok (.getfield 196, 3) := by decide +kernel
theorem dX8_account_61 : decode cX8_account 61 = .ok (.ireturn, 1) := by decide +kernel
theorem dX8_account_62 : decode cX8_account 62 = .ok (.aload_n 0, 1) := by decide +kernel
theorem dX8_account_63 : decode cX8_account 63 = .ok (.getfield 19, 3) := by decide +kernel
theorem dX8_account_66 : decode cX8_account 66 = .ok (.getfield 86, 3) := by decide +kernel
theorem dX8_account_69 : decode cX8_account 69 = .ok (.getfield 199, 3) := by decide +kernel
theorem dX8_account_72 : decode cX8_account 72 = .ok (.ireturn, 1) := by decide +kernel
theorem dX8_account_73 : decode cX8_account 73 = .ok (.aload_n 0, 1) := by decide +kernel
theorem dX8_account_74 : decode cX8_account 74 = .ok (.getfield 19, 3) := by decide +kernel
theorem dX8_account_77 : decode cX8_account 77 = .ok (.getfield 86, 3) := by decide +kernel
theorem dX8_account_80 : decode cX8_account 80 = .ok (.getfield 202, 3) := by decide +kernel
theorem dX8_account_83 : decode cX8_account 83 = .ok (.ireturn, 1) := by decide +kernel
theorem dX8_account_84 : decode cX8_account 84 = .ok (.aload_n 0, 1) := by decide +kernel
theorem dX8_account_85 : decode cX8_account 85 = .ok (.getfield 19, 3) := by decide +kernel
theorem dX8_account_88 : decode cX8_account 88 = .ok (.invokevirtual 205, 3) := by decide +kernel
theorem dX8_account_91 : decode cX8_account 91 = .ok (.ireturn, 1) := by decide +kernel
theorem dX8_account_92 : decode cX8_account 92 = .ok (.aload_n 0, 1) := by decide +kernel
theorem dX8_account_93 : decode cX8_account 93 = .ok (.getfield 19, 3) := by decide +kernel
theorem dX8_account_96 : decode cX8_account 96 = .ok (.getfield 86, 3) := by decide +kernel
theorem dX8_account_99 : decode cX8_account 99 = .ok (.getfield 207, 3) := by decide +kernel
theorem dX8_account_102 : decode cX8_account 102 = .ok (.ireturn, 1) := by decide +kernel
theorem dX8_tick_0 : decode cX8_tick 0 = .ok (.iload_n 1, 1) := by decide +kernel
theorem dX8_tick_1 : decode cX8_tick 1 = .ok (.iload_n 2, 1) := by decide +kernel
theorem dX8_tick_2 : decode cX8_tick 2 = .ok (.invokestatic 210, 3) := by decide +kernel
theorem dX8_tick_5 : decode cX8_tick 5 = .ok (.aload_n 0, 1) := by decide +kernel
theorem dX8_tick_6 : decode cX8_tick 6 = .ok (.getfield 29, 3) := by decide +kernel
theorem dX8_tick_9 : decode cX8_tick 9 = .ok (.aload_n 0, 1) := by decide +kernel
theorem dX8_tick_10 : decode cX8_tick 10 = .ok (.getfield 19, 3) := by decide +kernel
theorem dX8_tick_13 : decode cX8_tick 13 = .ok (.invokevirtual 214, 3) := by decide +kernel
theorem dX8_tick_16 : decode cX8_tick 16 = .ok (.aload_n 0, 1) := by decide +kernel
theorem dX8_tick_17 : decode cX8_tick 17 = .ok (.getfield 19, 3) := by decide +kernel
theorem dX8_tick_20 : decode cX8_tick 20 = .ok (.iload_n 1, 1) := by decide +kernel
theorem dX8_tick_21 : decode cX8_tick 21 = .ok (.iload_n 2, 1) := by decide +kernel
theorem dX8_tick_22 : decode cX8_tick 22 = .ok (.invokevirtual 218, 3) := by decide +kernel
theorem dX8_tick_25 : decode cX8_tick 25 = .ok (.aload_n 0, 1) := by decide +kernel
theorem dX8_tick_26 : decode cX8_tick 26 = .ok (.getfield 19, 3) := by decide +kernel
theorem dX8_tick_29 : decode cX8_tick 29 = .ok (.getfield 86, 3) := by decide +kernel
theorem dX8_tick_32 : decode cX8_tick 32 = .ok (.invokevirtual 98, 3) := by decide +kernel
theorem dX8_tick_35 : decode cX8_tick 35 = .ok (.ireturn, 1) := by decide +kernel
theorem dX8_draw_0 : decode cX8_draw 0 = .ok (.iload_n 1, 1) := by decide +kernel
theorem dX8_draw_1 : decode cX8_draw 1 = .ok (.iconst 1, 1) := by decide +kernel
theorem dX8_draw_2 : decode cX8_draw 2 = .ok (.bipush 20, 2) := by decide +kernel
theorem dX8_draw_4 : decode cX8_draw 4 = .ok (.invokestatic 47, 3) := by decide +kernel
theorem dX8_draw_7 : decode cX8_draw 7 = .ok (.aload_n 0, 1) := by decide +kernel
theorem dX8_draw_8 : decode cX8_draw 8 = .ok (.getfield 29, 3) := by decide +kernel
theorem dX8_draw_11 : decode cX8_draw 11 = .ok (.aload_n 0, 1) := by decide +kernel
theorem dX8_draw_12 : decode cX8_draw 12 = .ok (.getfield 19, 3) := by decide +kernel
theorem dX8_draw_15 : decode cX8_draw 15 = .ok (.invokevirtual 214, 3) := by decide +kernel
theorem dX8_draw_18 : decode cX8_draw 18 = .ok (.aload_n 0, 1) := by decide +kernel
theorem dX8_draw_19 : decode cX8_draw 19 = .ok (.getfield 19, 3) := by decide +kernel
theorem dX8_draw_22 : decode cX8_draw 22 = .ok (.getfield 86, 3) := by decide +kernel
theorem dX8_draw_25 : decode cX8_draw 25 = .ok (.iload_n 1, 1) := by decide +kernel
theorem dX8_draw_26 : decode cX8_draw 26 = .ok (.invokevirtual 221, 3) := by decide +kernel
theorem dX8_draw_29 : decode cX8_draw 29 = .ok (.ireturn, 1) := by decide +kernel
theorem dX8_set_0 : decode cX8_set 0 = .ok (.iload_n 1, 1) := by decide +kernel
theorem dX8_set_1 : decode cX8_set 1 = .ok (.iload_n 2, 1) := by decide +kernel
theorem dX8_set_2 : decode cX8_set 2 = .ok (.invokestatic 224, 3) := by decide +kernel
theorem dX8_set_5 : decode cX8_set 5 = .ok (.ifCond .ne 13, 3) := by decide +kernel
theorem dX8_set_8 : decode cX8_set 8 = .ok (.new 228, 3) := by decide +kernel
theorem dX8_set_11 : decode cX8_set 11 = .ok (.dup, 1) := by decide +kernel
theorem dX8_set_12 : decode cX8_set 12 = .ok (.ldc 230, 2) := by decide +kernel
theorem dX8_set_14 : decode cX8_set 14 = .ok (.invokespecial 232, 3) := by decide +kernel
theorem dX8_set_17 : decode cX8_set 17 = .ok (.athrow, 1) := by decide +kernel
theorem dX8_set_18 : decode cX8_set 18 = .ok (.aload_n 0, 1) := by decide +kernel
theorem dX8_set_19 : decode cX8_set 19 = .ok (.getfield 29, 3) := by decide +kernel
theorem dX8_set_22 : decode cX8_set 22 = .ok (.aload_n 0, 1) := by decide +kernel
theorem dX8_set_23 : decode cX8_set 23 = .ok (.getfield 19, 3) := by decide +kernel
theorem dX8_set_26 : decode cX8_set 26 = .ok (.invokevirtual 214, 3) := by decide +kernel
theorem dX8_set_29 : decode cX8_set 29 = .ok (.aload_n 0, 1) := by decide +kernel
theorem dX8_set_30 : decode cX8_set 30 = .ok (.getfield 19, 3) := by decide +kernel
theorem dX8_set_33 : decode cX8_set 33 = .ok (.getfield 82, 3) := by decide +kernel
theorem dX8_set_36 : decode cX8_set 36 = .ok (.iload_n 1, 1) := by decide +kernel
theorem dX8_set_37 : decode cX8_set 37 = .ok (.iaload, 1) := by decide +kernel
theorem dX8_set_38 : decode cX8_set 38 = .ok (.istore_n 3, 1) := by decide +kernel
theorem dX8_set_39 : decode cX8_set 39 = .ok (.aload_n 0, 1) := by decide +kernel
theorem dX8_set_40 : decode cX8_set 40 = .ok (.getfield 19, 3) := by decide +kernel
theorem dX8_set_43 : decode cX8_set 43 = .ok (.getfield 82, 3) := by decide +kernel
theorem dX8_set_46 : decode cX8_set 46 = .ok (.iload_n 1, 1) := by decide +kernel
theorem dX8_set_47 : decode cX8_set 47 = .ok (.iload_n 2, 1) := by decide +kernel
theorem dX8_set_48 : decode cX8_set 48 = .ok (.iastore, 1) := by decide +kernel
theorem dX8_set_49 : decode cX8_set 49 = .ok (.iload_n 3, 1) := by decide +kernel
theorem dX8_set_50 : decode cX8_set 50 = .ok (.ireturn, 1) := by decide +kernel
theorem dX8_setFlue_0 : decode cX8_setFlue 0 = .ok (.iload_n 1, 1) := by decide +kernel
theorem dX8_setFlue_1 : decode cX8_setFlue 1 = .ok (.invokestatic 164, 3) := by decide +kernel
theorem dX8_setFlue_4 : decode cX8_setFlue 4 = .ok (.aload_n 0, 1) := by decide +kernel
theorem dX8_setFlue_5 : decode cX8_setFlue 5 = .ok (.getfield 29, 3) := by decide +kernel
theorem dX8_setFlue_8 : decode cX8_setFlue 8 = .ok (.aload_n 0, 1) := by decide +kernel
theorem dX8_setFlue_9 : decode cX8_setFlue 9 = .ok (.getfield 19, 3) := by decide +kernel
theorem dX8_setFlue_12 : decode cX8_setFlue 12 = .ok (.invokevirtual 214, 3) := by decide +kernel
theorem dX8_setFlue_15 : decode cX8_setFlue 15 = .ok (.aload_n 0, 1) := by decide +kernel
theorem dX8_setFlue_16 : decode cX8_setFlue 16 = .ok (.getfield 19, 3) := by decide +kernel
theorem dX8_setFlue_19 : decode cX8_setFlue 19 = .ok (.iload_n 1, 1) := by decide +kernel
theorem dX8_setFlue_20 : decode cX8_setFlue 20 = .ok (.iload_n 2, 1) := by decide +kernel
theorem dX8_setFlue_21 : decode cX8_setFlue 21 = .ok (.invokevirtual 233, 3) := by decide +kernel
theorem dX8_setFlue_24 : decode cX8_setFlue 24 = .ok (.ireturn, 1) := by decide +kernel
theorem dX8_setDraft_0 : decode cX8_setDraft 0 = .ok (.iload_n 1, 1) := by decide +kernel
theorem dX8_setDraft_1 : decode cX8_setDraft 1 = .ok (.invokestatic 164, 3) := by decide +kernel
theorem dX8_setDraft_4 : decode cX8_setDraft 4 = .ok (.iload_n 2, 1) := by decide +kernel
theorem dX8_setDraft_5 : decode cX8_setDraft 5 = .ok (.iconst 0, 1) := by decide +kernel
theorem dX8_setDraft_6 : decode cX8_setDraft 6 = .ok (.bipush 99, 2) := by decide +kernel
theorem dX8_setDraft_8 : decode cX8_setDraft 8 = .ok (.invokestatic 47, 3) := by decide +kernel
theorem dX8_setDraft_11 : decode cX8_setDraft 11 = .ok (.aload_n 0, 1) := by decide +kernel
theorem dX8_setDraft_12 : decode cX8_setDraft 12 = .ok (.getfield 29, 3) := by decide +kernel
theorem dX8_setDraft_15 : decode cX8_setDraft 15 = .ok (.aload_n 0, 1) := by decide +kernel
theorem dX8_setDraft_16 : decode cX8_setDraft 16 = .ok (.getfield 19, 3) := by decide +kernel
theorem dX8_setDraft_19 : decode cX8_setDraft 19 = .ok (.invokevirtual 214, 3) := by decide +kernel
theorem dX8_setDraft_22 : decode cX8_setDraft 22 = .ok (.aload_n 0, 1) := by decide +kernel
theorem dX8_setDraft_23 : decode cX8_setDraft 23 = .ok (.getfield 19, 3) := by decide +kernel
theorem dX8_setDraft_26 : decode cX8_setDraft 26 = .ok (.iload_n 1, 1) := by decide +kernel
theorem dX8_setDraft_27 : decode cX8_setDraft 27 = .ok (.invokevirtual 167, 3) := by decide +kernel
theorem dX8_setDraft_30 : decode cX8_setDraft 30 = .ok (.astore_n 3, 1) := by decide +kernel
theorem dX8_setDraft_31 : decode cX8_setDraft 31 = .ok (.aload_n 3, 1) := by decide +kernel
theorem dX8_setDraft_32 : decode cX8_setDraft 32 = .ok (.getfield 171, 3) := by decide +kernel
theorem dX8_setDraft_35 : decode cX8_setDraft 35 = .ok (.istore 4, 2) := by decide +kernel
theorem dX8_setDraft_37 : decode cX8_setDraft 37 = .ok (.aload_n 3, 1) := by decide +kernel
theorem dX8_setDraft_38 : decode cX8_setDraft 38 = .ok (.iload_n 2, 1) := by decide +kernel
theorem dX8_setDraft_39 : decode cX8_setDraft 39 = .ok (.putfield 171, 3) := by decide +kernel
theorem dX8_setDraft_42 : decode cX8_setDraft 42 = .ok (.iload 4, 2) := by decide +kernel
theorem dX8_setDraft_44 : decode cX8_setDraft 44 = .ok (.ireturn, 1) := by decide +kernel
theorem dX8_lock_0 : decode cX8_lock 0 = .ok (.aload_n 0, 1) := by decide +kernel
theorem dX8_lock_1 : decode cX8_lock 1 = .ok (.iload_n 1, 1) := by decide +kernel
theorem dX8_lock_2 : decode cX8_lock 2 = .ok (.invokevirtual 129, 3) := by decide +kernel
theorem dX8_lock_5 : decode cX8_lock 5 = .ok (.aload_n 0, 1) := by decide +kernel
theorem dX8_lock_6 : decode cX8_lock 6 = .ok (.getfield 19, 3) := by decide +kernel
theorem dX8_lock_9 : decode cX8_lock 9 = .ok (.getfield 133, 3) := by decide +kernel
theorem dX8_lock_12 : decode cX8_lock 12 = .ok (.iload_n 1, 1) := by decide +kernel
theorem dX8_lock_13 : decode cX8_lock 13 = .ok (.aaload, 1) := by decide +kernel
theorem dX8_lock_14 : decode cX8_lock 14 = .ok (.getfield 145, 3) := by decide +kernel
theorem dX8_lock_17 : decode cX8_lock 17 = .ok (.istore_n 2, 1) := by decide +kernel
theorem dX8_lock_18 : decode cX8_lock 18 = .ok (.iload_n 2, 1) := by decide +kernel
theorem dX8_lock_19 : decode cX8_lock 19 = .ok (.iconst 4, 1) := by decide +kernel
theorem dX8_lock_20 : decode cX8_lock 20 = .ok (.if_icmp .ne 13, 3) := by decide +kernel
theorem dX8_lock_23 : decode cX8_lock 23 = .ok (.new 55, 3) := by decide +kernel
theorem dX8_lock_26 : decode cX8_lock 26 = .ok (.dup, 1) := by decide +kernel
theorem dX8_lock_27 : decode cX8_lock 27 = .ok (.ldc 237, 2) := by decide +kernel
theorem dX8_lock_29 : decode cX8_lock 29 = .ok (.invokespecial 59, 3) := by decide +kernel
theorem dX8_lock_32 : decode cX8_lock 32 = .ok (.athrow, 1) := by decide +kernel
theorem dX8_lock_33 : decode cX8_lock 33 = .ok (.aload_n 0, 1) := by decide +kernel
theorem dX8_lock_34 : decode cX8_lock 34 = .ok (.getfield 29, 3) := by decide +kernel
theorem dX8_lock_37 : decode cX8_lock 37 = .ok (.aload_n 0, 1) := by decide +kernel
theorem dX8_lock_38 : decode cX8_lock 38 = .ok (.getfield 19, 3) := by decide +kernel
theorem dX8_lock_41 : decode cX8_lock 41 = .ok (.invokevirtual 214, 3) := by decide +kernel
theorem dX8_lock_44 : decode cX8_lock 44 = .ok (.aload_n 0, 1) := by decide +kernel
theorem dX8_lock_45 : decode cX8_lock 45 = .ok (.getfield 19, 3) := by decide +kernel
theorem dX8_lock_48 : decode cX8_lock 48 = .ok (.getfield 133, 3) := by decide +kernel
theorem dX8_lock_51 : decode cX8_lock 51 = .ok (.iload_n 1, 1) := by decide +kernel
theorem dX8_lock_52 : decode cX8_lock 52 = .ok (.aaload, 1) := by decide +kernel
theorem dX8_lock_53 : decode cX8_lock 53 = .ok (.iconst 4, 1) := by decide +kernel
theorem dX8_lock_54 : decode cX8_lock 54 = .ok (.invokevirtual 239, 3) := by decide +kernel
theorem dX8_lock_57 : decode cX8_lock 57 = .ok (.iload_n 2, 1) := by decide +kernel
theorem dX8_lock_58 : decode cX8_lock 58 = .ok (.ireturn, 1) := by decide +kernel
theorem dX8_unlock_0 : decode cX8_unlock 0 = .ok (.aload_n 0, 1) := by decide +kernel
theorem dX8_unlock_1 : decode cX8_unlock 1 = .ok (.iload_n 1, 1) := by decide +kernel
theorem dX8_unlock_2 : decode cX8_unlock 2 = .ok (.invokevirtual 129, 3) := by decide +kernel
theorem dX8_unlock_5 : decode cX8_unlock 5 = .ok (.aload_n 0, 1) := by decide +kernel
theorem dX8_unlock_6 : decode cX8_unlock 6 = .ok (.getfield 19, 3) := by decide +kernel
theorem dX8_unlock_9 : decode cX8_unlock 9 = .ok (.getfield 133, 3) := by decide +kernel
theorem dX8_unlock_12 : decode cX8_unlock 12 = .ok (.iload_n 1, 1) := by decide +kernel
theorem dX8_unlock_13 : decode cX8_unlock 13 = .ok (.aaload, 1) := by decide +kernel
theorem dX8_unlock_14 : decode cX8_unlock 14 = .ok (.getfield 145, 3) := by decide +kernel
theorem dX8_unlock_17 : decode cX8_unlock 17 = .ok (.iconst 4, 1) := by decide +kernel
theorem dX8_unlock_18 : decode cX8_unlock 18 = .ok (.if_icmp .eq 13, 3) := by decide +kernel
theorem dX8_unlock_21 : decode cX8_unlock 21 = .ok (.new 55, 3) := by decide +kernel
theorem dX8_unlock_24 : decode cX8_unlock 24 = .ok (.dup, 1) := by decide +kernel
theorem dX8_unlock_25 : decode cX8_unlock 25 = .ok (.ldc 242, 2) := by decide +kernel
theorem dX8_unlock_27 : decode cX8_unlock 27 = .ok (.invokespecial 59, 3) := by decide +kernel
theorem dX8_unlock_30 : decode cX8_unlock 30 = .ok (.athrow, 1) := by decide +kernel
theorem dX8_unlock_31 : decode cX8_unlock 31 = .ok (.aload_n 0, 1) := by decide +kernel
theorem dX8_unlock_32 : decode cX8_unlock 32 = .ok (.getfield 29, 3) := by decide +kernel
theorem dX8_unlock_35 : decode cX8_unlock 35 = .ok (.aload_n 0, 1) := by decide +kernel
theorem dX8_unlock_36 : decode cX8_unlock 36 = .ok (.getfield 19, 3) := by decide +kernel
theorem dX8_unlock_39 : decode cX8_unlock 39 = .ok (.invokevirtual 214, 3) := by decide +kernel
theorem dX8_unlock_42 : decode cX8_unlock 42 = .ok (.aload_n 0, 1) := by decide +kernel
theorem dX8_unlock_43 : decode cX8_unlock 43 = .ok (.getfield 19, 3) := by decide +kernel
theorem dX8_unlock_46 : decode cX8_unlock 46 = .ok (.getfield 133, 3) := by decide +kernel
theorem dX8_unlock_49 : decode cX8_unlock 49 = .ok (.iload_n 1, 1) := by decide +kernel
theorem dX8_unlock_50 : decode cX8_unlock 50 = .ok (.aaload, 1) := by decide +kernel
theorem dX8_unlock_51 : decode cX8_unlock 51 = .ok (.iconst 0, 1) := by decide +kernel
theorem dX8_unlock_52 : decode cX8_unlock 52 = .ok (.invokevirtual 239, 3) := by decide +kernel
theorem dX8_unlock_55 : decode cX8_unlock 55 = .ok (.aload_n 0, 1) := by decide +kernel
theorem dX8_unlock_56 : decode cX8_unlock 56 = .ok (.getfield 19, 3) := by decide +kernel
theorem dX8_unlock_59 : decode cX8_unlock 59 = .ok (.iconst 4, 1) := by decide +kernel
theorem dX8_unlock_60 : decode cX8_unlock 60 = .ok (.invokevirtual 125, 3) := by decide +kernel
theorem dX8_unlock_63 : decode cX8_unlock 63 = .ok (.ireturn, 1) := by decide +kernel
theorem dX8_putOff_0 : decode cX8_putOff 0 = .ok (.aload_n 0, 1) := by decide +kernel
theorem dX8_putOff_1 : decode cX8_putOff 1 = .ok (.iload_n 1, 1) := by decide +kernel
theorem dX8_putOff_2 : decode cX8_putOff 2 = .ok (.invokevirtual 129, 3) := by decide +kernel
theorem dX8_putOff_5 : decode cX8_putOff 5 = .ok (.aload_n 0, 1) := by decide +kernel
theorem dX8_putOff_6 : decode cX8_putOff 6 = .ok (.getfield 19, 3) := by decide +kernel
theorem dX8_putOff_9 : decode cX8_putOff 9 = .ok (.getfield 133, 3) := by decide +kernel
theorem dX8_putOff_12 : decode cX8_putOff 12 = .ok (.iload_n 1, 1) := by decide +kernel
theorem dX8_putOff_13 : decode cX8_putOff 13 = .ok (.aaload, 1) := by decide +kernel
theorem dX8_putOff_14 : decode cX8_putOff 14 = .ok (.getfield 145, 3) := by decide +kernel
theorem dX8_putOff_17 : decode cX8_putOff 17 = .ok (.iconst 3, 1) := by decide +kernel
theorem dX8_putOff_18 : decode cX8_putOff 18 = .ok (.if_icmp .eq 13, 3) := by decide +kernel
theorem dX8_putOff_21 : decode cX8_putOff 21 = .ok (.new 55, 3) := by decide +kernel
theorem dX8_putOff_24 : decode cX8_putOff 24 = .ok (.dup, 1) := by decide +kernel
theorem dX8_putOff_25 : decode cX8_putOff 25 = .ok (.ldc 244, 2) := by decide +kernel
theorem dX8_putOff_27 : decode cX8_putOff 27 = .ok (.invokespecial 59, 3) := by decide +kernel
theorem dX8_putOff_30 : decode cX8_putOff 30 = .ok (.athrow, 1) := by decide +kernel
theorem dX8_putOff_31 : decode cX8_putOff 31 = .ok (.aload_n 0, 1) := by decide +kernel
theorem dX8_putOff_32 : decode cX8_putOff 32 = .ok (.getfield 29, 3) := by decide +kernel
theorem dX8_putOff_35 : decode cX8_putOff 35 = .ok (.aload_n 0, 1) := by decide +kernel
theorem dX8_putOff_36 : decode cX8_putOff 36 = .ok (.getfield 19, 3) := by decide +kernel
theorem dX8_putOff_39 : decode cX8_putOff 39 = .ok (.invokevirtual 214, 3) := by decide +kernel
theorem dX8_putOff_42 : decode cX8_putOff 42 = .ok (.aload_n 0, 1) := by decide +kernel
theorem dX8_putOff_43 : decode cX8_putOff 43 = .ok (.getfield 19, 3) := by decide +kernel
theorem dX8_putOff_46 : decode cX8_putOff 46 = .ok (.getfield 133, 3) := by decide +kernel
theorem dX8_putOff_49 : decode cX8_putOff 49 = .ok (.iload_n 1, 1) := by decide +kernel
theorem dX8_putOff_50 : decode cX8_putOff 50 = .ok (.aaload, 1) := by decide +kernel
theorem dX8_putOff_51 : decode cX8_putOff 51 = .ok (.iconst 0, 1) := by decide +kernel
theorem dX8_putOff_52 : decode cX8_putOff 52 = .ok (.invokevirtual 239, 3) := by decide +kernel
theorem dX8_putOff_55 : decode cX8_putOff 55 = .ok (.aload_n 0, 1) := by decide +kernel
theorem dX8_putOff_56 : decode cX8_putOff 56 = .ok (.getfield 19, 3) := by decide +kernel
theorem dX8_putOff_59 : decode cX8_putOff 59 = .ok (.getfield 133, 3) := by decide +kernel
theorem dX8_putOff_62 : decode cX8_putOff 62 = .ok (.iload_n 1, 1) := by decide +kernel
theorem dX8_putOff_63 : decode cX8_putOff 63 = .ok (.aaload, 1) := by decide +kernel
theorem dX8_putOff_64 : decode cX8_putOff 64 = .ok (.getfield 157, 3) := by decide +kernel
theorem dX8_putOff_67 : decode cX8_putOff 67 = .ok (.ireturn, 1) := by decide +kernel
theorem dX8_undo_0 : decode cX8_undo 0 = .ok (.aload_n 0, 1) := by decide +kernel
theorem dX8_undo_1 : decode cX8_undo 1 = .ok (.getfield 29, 3) := by decide +kernel
theorem dX8_undo_4 : decode cX8_undo 4 = .ok (.aload_n 0, 1) := by decide +kernel
theorem dX8_undo_5 : decode cX8_undo 5 = .ok (.getfield 19, 3) := by decide +kernel
theorem dX8_undo_8 : decode cX8_undo 8 = .ok (.invokevirtual 246, 3) := by decide +kernel
theorem dX8_undo_11 : decode cX8_undo 11 = .ok (.ifCond .ne 13, 3) := by decide +kernel
theorem dX8_undo_14 : decode cX8_undo 14 = .ok (.new 55, 3) := by decide +kernel
theorem dX8_undo_17 : decode cX8_undo 17 = .ok (.dup, 1) := by decide +kernel
theorem dX8_undo_18 : decode cX8_undo 18 = .ok (.ldc 250, 2) := by decide +kernel
theorem dX8_undo_20 : decode cX8_undo 20 = .ok (.invokespecial 59, 3) := by decide +kernel
theorem dX8_undo_23 : decode cX8_undo 23 = .ok (.athrow, 1) := by decide +kernel
theorem dX8_undo_24 : decode cX8_undo 24 = .ok (.aload_n 0, 1) := by decide +kernel
theorem dX8_undo_25 : decode cX8_undo 25 = .ok (.getfield 29, 3) := by decide +kernel
theorem dX8_undo_28 : decode cX8_undo 28 = .ok (.getfield 252, 3) := by decide +kernel
theorem dX8_undo_31 : decode cX8_undo 31 = .ok (.ireturn, 1) := by decide +kernel
theorem dX8_next_0 : decode cX8_next 0 = .ok (.aload_n 0, 1) := by decide +kernel
theorem dX8_next_1 : decode cX8_next 1 = .ok (.getfield 19, 3) := by decide +kernel
theorem dX8_next_4 : decode cX8_next 4 = .ok (.invokevirtual 253, 3) := by decide +kernel
theorem dX8_next_7 : decode cX8_next 7 = .ok (.ireturn, 1) := by decide +kernel
theorem dX8_whyNot_0 : decode cX8_whyNot 0 = .ok (.aload_n 0, 1) := by decide +kernel
theorem dX8_whyNot_1 : decode cX8_whyNot 1 = .ok (.iload_n 1, 1) := by decide +kernel
theorem dX8_whyNot_2 : decode cX8_whyNot 2 = .ok (.invokevirtual 129, 3) := by decide +kernel
theorem dX8_whyNot_5 : decode cX8_whyNot 5 = .ok (.aload_n 0, 1) := by decide +kernel
theorem dX8_whyNot_6 : decode cX8_whyNot 6 = .ok (.getfield 19, 3) := by decide +kernel
theorem dX8_whyNot_9 : decode cX8_whyNot 9 = .ok (.getfield 133, 3) := by decide +kernel
theorem dX8_whyNot_12 : decode cX8_whyNot 12 = .ok (.iload_n 1, 1) := by decide +kernel
theorem dX8_whyNot_13 : decode cX8_whyNot 13 = .ok (.aaload, 1) := by decide +kernel
theorem dX8_whyNot_14 : decode cX8_whyNot 14 = .ok (.astore_n 2, 1) := by decide +kernel
theorem dX8_whyNot_15 : decode cX8_whyNot 15 = .ok (.aload_n 2, 1) := by decide +kernel
theorem dX8_whyNot_16 : decode cX8_whyNot 16 = .ok (.getfield 145, 3) := by decide +kernel
theorem dX8_whyNot_19 : decode cX8_whyNot 19 = .ok (.iconst 4, 1) := by decide +kernel
theorem dX8_whyNot_20 : decode cX8_whyNot 20 = .ok (.if_icmp .ne 5, 3) := by decide +kernel
theorem dX8_whyNot_23 : decode cX8_whyNot 23 = .ok (.iconst 2, 1) := by decide +kernel
theorem dX8_whyNot_24 : decode cX8_whyNot 24 = .ok (.ireturn, 1) := by decide +kernel
theorem dX8_whyNot_25 : decode cX8_whyNot 25 = .ok (.aload_n 2, 1) := by decide +kernel
theorem dX8_whyNot_26 : decode cX8_whyNot 26 = .ok (.invokevirtual 256, 3) := by decide +kernel
theorem dX8_whyNot_29 : decode cX8_whyNot 29 = .ok (.ifCond .ne 5, 3) := by decide +kernel
theorem dX8_whyNot_32 : decode cX8_whyNot 32 = .ok (.iconst 1, 1) := by decide +kernel
theorem dX8_whyNot_33 : decode cX8_whyNot 33 = .ok (.ireturn, 1) := by decide +kernel
theorem dX8_whyNot_34 : decode cX8_whyNot 34 = .ok (.aload_n 0, 1) := by decide +kernel
theorem dX8_whyNot_35 : decode cX8_whyNot 35 = .ok (.getfield 19, 3) := by decide +kernel
theorem dX8_whyNot_38 : decode cX8_whyNot 38 = .ok (.aload_n 2, 1) := by decide +kernel
theorem dX8_whyNot_39 : decode cX8_whyNot 39 = .ok (.getfield 142, 3) := by decide +kernel
theorem dX8_whyNot_42 : decode cX8_whyNot 42 = .ok (.invokevirtual 167, 3) := by decide +kernel
theorem dX8_whyNot_45 : decode cX8_whyNot 45 = .ok (.getfield 179, 3) := by decide +kernel
theorem dX8_whyNot_48 : decode cX8_whyNot 48 = .ok (.ifCond .ne 5, 3) := by decide +kernel
theorem dX8_whyNot_51 : decode cX8_whyNot 51 = .ok (.iconst 3, 1) := by decide +kernel
theorem dX8_whyNot_52 : decode cX8_whyNot 52 = .ok (.ireturn, 1) := by decide +kernel
theorem dX8_whyNot_53 : decode cX8_whyNot 53 = .ok (.aload_n 0, 1) := by decide +kernel
theorem dX8_whyNot_54 : decode cX8_whyNot 54 = .ok (.getfield 19, 3) := by decide +kernel
theorem dX8_whyNot_57 : decode cX8_whyNot 57 = .ok (.aload_n 2, 1) := by decide +kernel
theorem dX8_whyNot_58 : decode cX8_whyNot 58 = .ok (.invokevirtual 160, 3) := by decide +kernel
theorem dX8_whyNot_61 : decode cX8_whyNot 61 = .ok (.ifCond .eq 7, 3) := by decide +kernel
theorem dX8_whyNot_64 : decode cX8_whyNot 64 = .ok (.iconst 0, 1) := by decide +kernel
theorem dX8_whyNot_65 : decode cX8_whyNot 65 = .ok (.goto 4, 3) := by decide +kernel
theorem dX8_whyNot_68 : decode cX8_whyNot 68 = .ok (.iconst 4, 1) := by decide +kernel
theorem dX8_whyNot_69 : decode cX8_whyNot 69 = .ok (.ireturn, 1) := by decide +kernel
theorem dX8_smallestSet_0 : decode cX8_smallestSet 0 = .ok (.iload_n 1, 1) := by decide +kernel
theorem dX8_smallestSet_1 : decode cX8_smallestSet 1 = .ok (.iconst 1, 1) := by decide +kernel
theorem dX8_smallestSet_2 : decode cX8_smallestSet 2 = .ok (.sipush 150, 3) := by decide +kernel
theorem dX8_smallestSet_5 : decode cX8_smallestSet 5 = .ok (.invokestatic 47, 3) := by decide +kernel
theorem dX8_smallestSet_8 : decode cX8_smallestSet 8 = .ok (.iconst 0, 1) := by decide +kernel
theorem dX8_smallestSet_9 : decode cX8_smallestSet 9 = .ok (.istore_n 3, 1) := by decide +kernel
theorem dX8_smallestSet_10 : decode cX8_smallestSet 10 = .ok (.iconst 1, 1) := by decide +kernel
theorem dX8_smallestSet_11 : decode cX8_smallestSet 11 = .ok (.istore 4, 2) := by decide +kernel
theorem dX8_smallestSet_13 : decode cX8_smallestSet 13 = .ok (.iload 4, 2) := by decide +kernel
theorem dX8_smallestSet_15 : decode cX8_smallestSet 15 = .ok (.iconst 1, 1) := by decide +kernel
theorem dX8_smallestSet_16 : decode cX8_smallestSet 16 = .ok (.aload_n 0, 1) := by decide +kernel
theorem dX8_smallestSet_17 : decode cX8_smallestSet 17 = .ok (.getfield 19, 3) := by decide +kernel
theorem dX8_smallestSet_20 : decode cX8_smallestSet 20 = .ok (.getfield 79, 3) := by decide +kernel
theorem dX8_smallestSet_23 : decode cX8_smallestSet 23 = .ok (.ishl, 1) := by decide +kernel
theorem dX8_smallestSet_24 : decode cX8_smallestSet 24 = .ok (.if_icmp .ge 66, 3) := by decide +kernel
theorem dX8_smallestSet_27 : decode cX8_smallestSet 27 = .ok (.aload_n 0, 1) := by decide +kernel
theorem dX8_smallestSet_28 : decode cX8_smallestSet 28 = .ok (.getfield 19, 3) := by decide +kernel
theorem dX8_smallestSet_31 : decode cX8_smallestSet 31 = .ok (.iload 4, 2) := by decide +kernel
theorem dX8_smallestSet_33 : decode cX8_smallestSet 33 = .ok (.invokevirtual 260, 3) := by decide +kernel
theorem dX8_smallestSet_36 : decode cX8_smallestSet 36 = .ok (.iload_n 1, 1) := by decide +kernel
theorem dX8_smallestSet_37 : decode cX8_smallestSet 37 = .ok (.if_icmp .lt 19, 3) := by decide +kernel
theorem dX8_smallestSet_40 : decode cX8_smallestSet 40 = .ok (.aload_n 0, 1) := by decide +kernel
theorem dX8_smallestSet_41 : decode cX8_smallestSet 41 = .ok (.getfield 19, 3) := by decide +kernel
theorem dX8_smallestSet_44 : decode cX8_smallestSet 44 = .ok (.iload 4, 2) := by decide +kernel
theorem dX8_smallestSet_46 : decode cX8_smallestSet 46 = .ok (.invokevirtual 263, 3) := by decide +kernel
theorem dX8_smallestSet_49 : decode cX8_smallestSet 49 = .ok (.ifCond .eq 7, 3) := by decide +kernel
theorem dX8_smallestSet_52 : decode cX8_smallestSet 52 = .ok (.iconst 1, 1) := by decide +kernel
theorem dX8_smallestSet_53 : decode cX8_smallestSet 53 = .ok (.goto 4, 3) := by decide +kernel
theorem dX8_smallestSet_56 : decode cX8_smallestSet 56 = .ok (.iconst 0, 1) := by decide +kernel
theorem dX8_smallestSet_57 : decode cX8_smallestSet 57 = .ok (.istore 5, 2) := by decide +kernel
theorem dX8_smallestSet_59 : decode cX8_smallestSet 59 = .ok (.iload 5, 2) := by decide +kernel
theorem dX8_smallestSet_61 : decode cX8_smallestSet 61 = .ok (.ifCond .eq 23, 3) := by decide +kernel
theorem dX8_smallestSet_64 : decode cX8_smallestSet 64 = .ok (.iload_n 3, 1) := by decide +kernel
theorem dX8_smallestSet_65 : decode cX8_smallestSet 65 = .ok (.ifCond .eq 16, 3) := by decide +kernel
theorem dX8_smallestSet_68 : decode cX8_smallestSet 68 = .ok (.aload_n 0, 1) := by decide +kernel
theorem dX8_smallestSet_69 : decode cX8_smallestSet 69 = .ok (.getfield 19, 3) := by decide +kernel
theorem dX8_smallestSet_72 : decode cX8_smallestSet 72 = .ok (.iload 4, 2) := by decide +kernel
theorem dX8_smallestSet_74 : decode cX8_smallestSet 74 = .ok (.iload_n 3, 1) := by decide +kernel
theorem dX8_smallestSet_75 : decode cX8_smallestSet 75 = .ok (.invokevirtual 266, 3) := by decide +kernel
theorem dX8_smallestSet_78 : decode cX8_smallestSet 78 = .ok (.ifCond .eq 6, 3) := by decide +kernel
theorem dX8_smallestSet_81 : decode cX8_smallestSet 81 = .ok (.iload 4, 2) := by decide +kernel
theorem dX8_smallestSet_83 : decode cX8_smallestSet 83 = .ok (.istore_n 3, 1) := by decide +kernel
theorem dX8_smallestSet_84 : decode cX8_smallestSet 84 = .ok (.iinc 4 1, 3) := by decide +kernel
theorem dX8_smallestSet_87 : decode cX8_smallestSet 87 = .ok (.goto (-74), 3) := by decide +kernel
theorem dX8_smallestSet_90 : decode cX8_smallestSet 90 = .ok (.iload_n 3, 1) := by decide +kernel
theorem dX8_smallestSet_91 : decode cX8_smallestSet 91 = .ok (.ifCond .ne 6, 3) := by decide +kernel
theorem dX8_smallestSet_94 : decode cX8_smallestSet 94 = .ok (.bipush (-9), 2) := by decide +kernel
theorem dX8_smallestSet_96 : decode cX8_smallestSet 96 = .ok (.ireturn, 1) := by decide +kernel
theorem dX8_smallestSet_97 : decode cX8_smallestSet 97 = .ok (.iload_n 2, 1) := by decide +kernel
theorem dX8_smallestSet_98 : decode cX8_smallestSet 98 = .ok (.ifCond .eq 7, 3) := by decide +kernel
theorem dX8_smallestSet_101 : decode cX8_smallestSet 101 = .ok (.iload_n 3, 1) := by decide +kernel
theorem dX8_smallestSet_102 : decode cX8_smallestSet 102 = .ok (.goto 11, 3) := by decide +kernel
theorem dX8_smallestSet_105 : decode cX8_smallestSet 105 = .ok (.aload_n 0, 1) := by decide +kernel
theorem dX8_smallestSet_106 : decode cX8_smallestSet 106 = .ok (.getfield 19, 3) := by decide +kernel
theorem dX8_smallestSet_109 : decode cX8_smallestSet 109 = .ok (.iload_n 3, 1) := by decide +kernel
theorem dX8_smallestSet_110 : decode cX8_smallestSet 110 = .ok (.invokevirtual 260, 3) := by decide +kernel
theorem dX8_smallestSet_113 : decode cX8_smallestSet 113 = .ok (.ireturn, 1) := by decide +kernel
theorem dX8_ahead_0 : decode cX8_ahead 0 = .ok (.iload_n 1, 1) := by decide +kernel
theorem dX8_ahead_1 : decode cX8_ahead 1 = .ok (.iload_n 2, 1) := by decide +kernel
theorem dX8_ahead_2 : decode cX8_ahead 2 = .ok (.invokestatic 210, 3) := by decide +kernel
theorem dX8_ahead_5 : decode cX8_ahead 5 = .ok (.iload_n 3, 1) := by decide +kernel
theorem dX8_ahead_6 : decode cX8_ahead 6 = .ok (.iconst 0, 1) := by decide +kernel
theorem dX8_ahead_7 : decode cX8_ahead 7 = .ok (.bipush 6, 2) := by decide +kernel
theorem dX8_ahead_9 : decode cX8_ahead 9 = .ok (.invokestatic 47, 3) := by decide +kernel
theorem dX8_ahead_12 : decode cX8_ahead 12 = .ok (.aload_n 0, 1) := by decide +kernel
theorem dX8_ahead_13 : decode cX8_ahead 13 = .ok (.getfield 23, 3) := by decide +kernel
theorem dX8_ahead_16 : decode cX8_ahead 16 = .ok (.aload_n 0, 1) := by decide +kernel
theorem dX8_ahead_17 : decode cX8_ahead 17 = .ok (.getfield 19, 3) := by decide +kernel
theorem dX8_ahead_20 : decode cX8_ahead 20 = .ok (.invokevirtual 269, 3) := by decide +kernel
theorem dX8_ahead_23 : decode cX8_ahead 23 = .ok (.bipush 99, 2) := by decide +kernel
theorem dX8_ahead_25 : decode cX8_ahead 25 = .ok (.istore 4, 2) := by decide +kernel
theorem dX8_ahead_27 : decode cX8_ahead 27 = .ok (.iconst 0, 1) := by decide +kernel
theorem dX8_ahead_28 : decode cX8_ahead 28 = .ok (.istore 5, 2) := by decide +kernel
theorem dX8_ahead_30 : decode cX8_ahead 30 = .ok (.iload 5, 2) := by decide +kernel
theorem dX8_ahead_32 : decode cX8_ahead 32 = .ok (.iload_n 1, 1) := by decide +kernel
theorem dX8_ahead_33 : decode cX8_ahead 33 = .ok (.if_icmp .ge 35, 3) := by decide +kernel
theorem dX8_ahead_36 : decode cX8_ahead 36 = .ok (.aload_n 0, 1) := by decide +kernel
theorem dX8_ahead_37 : decode cX8_ahead 37 = .ok (.getfield 23, 3) := by decide +kernel
theorem dX8_ahead_40 : decode cX8_ahead 40 = .ok (.iconst 1, 1) := by decide +kernel
theorem dX8_ahead_41 : decode cX8_ahead 41 = .ok (.iload_n 2, 1) := by decide +kernel
theorem dX8_ahead_42 : decode cX8_ahead 42 = .ok (.invokevirtual 218, 3) := by decide +kernel
theorem dX8_ahead_45 : decode cX8_ahead 45 = .ok (.iload 4, 2) := by decide +kernel
theorem dX8_ahead_47 : decode cX8_ahead 47 = .ok (.aload_n 0, 1) := by decide +kernel
theorem dX8_ahead_48 : decode cX8_ahead 48 = .ok (.getfield 23, 3) := by decide +kernel
theorem dX8_ahead_51 : decode cX8_ahead 51 = .ok (.getfield 86, 3) := by decide +kernel
theorem dX8_ahead_54 : decode cX8_ahead 54 = .ok (.invokevirtual 98, 3) := by decide +kernel
theorem dX8_ahead_57 : decode cX8_ahead 57 = .ok (.invokestatic 272, 3) := by decide +kernel
theorem dX8_ahead_60 : decode cX8_ahead 60 = .ok (.istore 4, 2) := by decide +kernel
theorem dX8_ahead_62 : decode cX8_ahead 62 = .ok (.iinc 5 1, 3) := by decide +kernel
theorem dX8_ahead_65 : decode cX8_ahead 65 = .ok (.goto (-35), 3) := by decide +kernel
theorem dX8_ahead_68 : decode cX8_ahead 68 = .ok (.iload_n 3, 1) := by decide +kernel
theorem dX8_ahead_69 : decode cX8_ahead 69 = .ok (.tableswitch 137 0 5 #[39, 50, 61, 83, 99, 115], 39) := by decide +kernel
theorem dX8_ahead_108 : decode cX8_ahead 108 = .ok (.aload_n 0, 1) := by decide +kernel
theorem dX8_ahead_109 : decode cX8_ahead 109 = .ok (.getfield 23, 3) := by decide +kernel
theorem dX8_ahead_112 : decode cX8_ahead 112 = .ok (.getfield 86, 3) := by decide +kernel
theorem dX8_ahead_115 : decode cX8_ahead 115 = .ok (.invokevirtual 98, 3) := by decide +kernel
theorem dX8_ahead_118 : decode cX8_ahead 118 = .ok (.ireturn, 1) := by decide +kernel
theorem dX8_ahead_119 : decode cX8_ahead 119 = .ok (.aload_n 0, 1) := by decide +kernel
theorem dX8_ahead_120 : decode cX8_ahead 120 = .ok (.getfield 23, 3) := by decide +kernel
theorem dX8_ahead_123 : decode cX8_ahead 123 = .ok (.getfield 86, 3) := by decide +kernel
theorem dX8_ahead_126 : decode cX8_ahead 126 = .ok (.invokevirtual 278, 3) := by decide +kernel
theorem dX8_ahead_129 : decode cX8_ahead 129 = .ok (.ireturn, 1) := by decide +kernel
theorem dX8_ahead_130 : decode cX8_ahead 130 = .ok (.aload_n 0, 1) := by decide +kernel
theorem dX8_ahead_131 : decode cX8_ahead 131 = .ok (.getfield 23, 3) := by decide +kernel
theorem dX8_ahead_134 : decode cX8_ahead 134 = .ok (.getfield 86, 3) := by decide +kernel
theorem dX8_ahead_137 : decode cX8_ahead 137 = .ok (.getfield 199, 3) := by decide +kernel
theorem dX8_ahead_140 : decode cX8_ahead 140 = .ok (.aload_n 0, 1) := by decide +kernel
theorem dX8_ahead_141 : decode cX8_ahead 141 = .ok (.getfield 19, 3) := by decide +kernel
theorem dX8_ahead_144 : decode cX8_ahead 144 = .ok (.getfield 86, 3) := by decide +kernel
theorem dX8_ahead_147 : decode cX8_ahead 147 = .ok (.getfield 199, 3) := by decide +kernel
theorem dX8_ahead_150 : decode cX8_ahead 150 = .ok (.isub, 1) := by decide +kernel
theorem dX8_ahead_151 : decode cX8_ahead 151 = .ok (.ireturn, 1) := by decide +kernel
theorem dX8_ahead_152 : decode cX8_ahead 152 = .ok (.aload_n 0, 1) := by decide +kernel
theorem dX8_ahead_153 : decode cX8_ahead 153 = .ok (.getfield 23, 3) := by decide +kernel
theorem dX8_ahead_156 : decode cX8_ahead 156 = .ok (.invokevirtual 205, 3) := by decide +kernel
theorem dX8_ahead_159 : decode cX8_ahead 159 = .ok (.aload_n 0, 1) := by decide +kernel
theorem dX8_ahead_160 : decode cX8_ahead 160 = .ok (.getfield 19, 3) := by decide +kernel
theorem dX8_ahead_163 : decode cX8_ahead 163 = .ok (.invokevirtual 205, 3) := by decide +kernel
theorem dX8_ahead_166 : decode cX8_ahead 166 = .ok (.isub, 1) := by decide +kernel
theorem dX8_ahead_167 : decode cX8_ahead 167 = .ok (.ireturn, 1) := by decide +kernel
theorem dX8_ahead_168 : decode cX8_ahead 168 = .ok (.aload_n 0, 1) := by decide +kernel
theorem dX8_ahead_169 : decode cX8_ahead 169 = .ok (.getfield 23, 3) := by decide +kernel
theorem dX8_ahead_172 : decode cX8_ahead 172 = .ok (.invokevirtual 281, 3) := by decide +kernel
theorem dX8_ahead_175 : decode cX8_ahead 175 = .ok (.aload_n 0, 1) := by decide +kernel
theorem dX8_ahead_176 : decode cX8_ahead 176 = .ok (.getfield 19, 3) := by decide +kernel
theorem dX8_ahead_179 : decode cX8_ahead 179 = .ok (.invokevirtual 281, 3) := by decide +kernel
theorem dX8_ahead_182 : decode cX8_ahead 182 = .ok (.isub, 1) := by decide +kernel
theorem dX8_ahead_183 : decode cX8_ahead 183 = .ok (.ireturn, 1) := by decide +kernel
theorem dX8_ahead_184 : decode cX8_ahead 184 = .ok (.aload_n 0, 1) := by decide +kernel
theorem dX8_ahead_185 : decode cX8_ahead 185 = .ok (.getfield 23, 3) := by decide +kernel
theorem dX8_ahead_188 : decode cX8_ahead 188 = .ok (.getfield 104, 3) := by decide +kernel
theorem dX8_ahead_191 : decode cX8_ahead 191 = .ok (.getfield 119, 3) := by decide +kernel
theorem dX8_ahead_194 : decode cX8_ahead 194 = .ok (.aload_n 0, 1) := by decide +kernel
theorem dX8_ahead_195 : decode cX8_ahead 195 = .ok (.getfield 19, 3) := by decide +kernel
theorem dX8_ahead_198 : decode cX8_ahead 198 = .ok (.getfield 104, 3) := by decide +kernel
theorem dX8_ahead_201 : decode cX8_ahead 201 = .ok (.getfield 119, 3) := by decide +kernel
theorem dX8_ahead_204 : decode cX8_ahead 204 = .ok (.isub, 1) := by decide +kernel
theorem dX8_ahead_205 : decode cX8_ahead 205 = .ok (.ireturn, 1) := by decide +kernel
theorem dX8_ahead_206 : decode cX8_ahead 206 = .ok (.iload 4, 2) := by decide +kernel
theorem dX8_ahead_208 : decode cX8_ahead 208 = .ok (.ireturn, 1) := by decide +kernel
theorem dX8_warmAfter_0 : decode cX8_warmAfter 0 = .ok (.iload_n 1, 1) := by decide +kernel
theorem dX8_warmAfter_1 : decode cX8_warmAfter 1 = .ok (.iconst 0, 1) := by decide +kernel
theorem dX8_warmAfter_2 : decode cX8_warmAfter 2 = .ok (.bipush 99, 2) := by decide +kernel
theorem dX8_warmAfter_4 : decode cX8_warmAfter 4 = .ok (.invokestatic 47, 3) := by decide +kernel
theorem dX8_warmAfter_7 : decode cX8_warmAfter 7 = .ok (.iload_n 2, 1) := by decide +kernel
theorem dX8_warmAfter_8 : decode cX8_warmAfter 8 = .ok (.iconst 0, 1) := by decide +kernel
theorem dX8_warmAfter_9 : decode cX8_warmAfter 9 = .ok (.iconst 5, 1) := by decide +kernel
theorem dX8_warmAfter_10 : decode cX8_warmAfter 10 = .ok (.invokestatic 47, 3) := by decide +kernel
theorem dX8_warmAfter_13 : decode cX8_warmAfter 13 = .ok (.aload_n 0, 1) := by decide +kernel
theorem dX8_warmAfter_14 : decode cX8_warmAfter 14 = .ok (.getfield 23, 3) := by decide +kernel
theorem dX8_warmAfter_17 : decode cX8_warmAfter 17 = .ok (.aload_n 0, 1) := by decide +kernel
theorem dX8_warmAfter_18 : decode cX8_warmAfter 18 = .ok (.getfield 19, 3) := by decide +kernel
theorem dX8_warmAfter_21 : decode cX8_warmAfter 21 = .ok (.invokevirtual 269, 3) := by decide +kernel
theorem dX8_warmAfter_24 : decode cX8_warmAfter 24 = .ok (.iconst 0, 1) := by decide +kernel
theorem dX8_warmAfter_25 : decode cX8_warmAfter 25 = .ok (.istore_n 3, 1) := by decide +kernel
theorem dX8_warmAfter_26 : decode cX8_warmAfter 26 = .ok (.iload_n 3, 1) := by decide +kernel
theorem dX8_warmAfter_27 : decode cX8_warmAfter 27 = .ok (.sipush 200, 3) := by decide +kernel
theorem dX8_warmAfter_30 : decode cX8_warmAfter 30 = .ok (.if_icmp .ge 34, 3) := by decide +kernel
theorem dX8_warmAfter_33 : decode cX8_warmAfter 33 = .ok (.aload_n 0, 1) := by decide +kernel
theorem dX8_warmAfter_34 : decode cX8_warmAfter 34 = .ok (.getfield 23, 3) := by decide +kernel
theorem dX8_warmAfter_37 : decode cX8_warmAfter 37 = .ok (.getfield 86, 3) := by decide +kernel
theorem dX8_warmAfter_40 : decode cX8_warmAfter 40 = .ok (.invokevirtual 98, 3) := by decide +kernel
theorem dX8_warmAfter_43 : decode cX8_warmAfter 43 = .ok (.iload_n 1, 1) := by decide +kernel
theorem dX8_warmAfter_44 : decode cX8_warmAfter 44 = .ok (.if_icmp .lt 5, 3) := by decide +kernel
theorem dX8_warmAfter_47 : decode cX8_warmAfter 47 = .ok (.iload_n 3, 1) := by decide +kernel
theorem dX8_warmAfter_48 : decode cX8_warmAfter 48 = .ok (.ireturn, 1) := by decide +kernel
theorem dX8_warmAfter_49 : decode cX8_warmAfter 49 = .ok (.aload_n 0, 1) := by decide +kernel
theorem dX8_warmAfter_50 : decode cX8_warmAfter 50 = .ok (.getfield 23, 3) := by decide +kernel
theorem dX8_warmAfter_53 : decode cX8_warmAfter 53 = .ok (.iconst 1, 1) := by decide +kernel
theorem dX8_warmAfter_54 : decode cX8_warmAfter 54 = .ok (.iload_n 2, 1) := by decide +kernel
theorem dX8_warmAfter_55 : decode cX8_warmAfter 55 = .ok (.invokevirtual 218, 3) := by decide +kernel
theorem dX8_warmAfter_58 : decode cX8_warmAfter 58 = .ok (.iinc 3 1, 3) := by decide +kernel
theorem dX8_warmAfter_61 : decode cX8_warmAfter 61 = .ok (.goto (-35), 3) := by decide +kernel
theorem dX8_warmAfter_64 : decode cX8_warmAfter 64 = .ok (.aload_n 0, 1) := by decide +kernel
theorem dX8_warmAfter_65 : decode cX8_warmAfter 65 = .ok (.getfield 23, 3) := by decide +kernel
theorem dX8_warmAfter_68 : decode cX8_warmAfter 68 = .ok (.getfield 86, 3) := by decide +kernel
theorem dX8_warmAfter_71 : decode cX8_warmAfter 71 = .ok (.invokevirtual 98, 3) := by decide +kernel
theorem dX8_warmAfter_74 : decode cX8_warmAfter 74 = .ok (.iload_n 1, 1) := by decide +kernel
theorem dX8_warmAfter_75 : decode cX8_warmAfter 75 = .ok (.if_icmp .lt 9, 3) := by decide +kernel
theorem dX8_warmAfter_78 : decode cX8_warmAfter 78 = .ok (.sipush 200, 3) := by decide +kernel
theorem dX8_warmAfter_81 : decode cX8_warmAfter 81 = .ok (.goto 5, 3) := by decide +kernel
theorem dX8_warmAfter_84 : decode cX8_warmAfter 84 = .ok (.bipush (-9), 2) := by decide +kernel
theorem dX8_warmAfter_86 : decode cX8_warmAfter 86 = .ok (.ireturn, 1) := by decide +kernel
theorem dX8_bearable_0 : decode cX8_bearable 0 = .ok (.iload_n 1, 1) := by decide +kernel
theorem dX8_bearable_1 : decode cX8_bearable 1 = .ok (.iconst 1, 1) := by decide +kernel
theorem dX8_bearable_2 : decode cX8_bearable 2 = .ok (.bipush 96, 2) := by decide +kernel
theorem dX8_bearable_4 : decode cX8_bearable 4 = .ok (.invokestatic 47, 3) := by decide +kernel
theorem dX8_bearable_7 : decode cX8_bearable 7 = .ok (.iload_n 2, 1) := by decide +kernel
theorem dX8_bearable_8 : decode cX8_bearable 8 = .ok (.bipush 10, 2) := by decide +kernel
theorem dX8_bearable_10 : decode cX8_bearable 10 = .ok (.bipush 80, 2) := by decide +kernel
theorem dX8_bearable_12 : decode cX8_bearable 12 = .ok (.invokestatic 47, 3) := by decide +kernel
theorem dX8_bearable_15 : decode cX8_bearable 15 = .ok (.iconst 5, 1) := by decide +kernel
theorem dX8_bearable_16 : decode cX8_bearable 16 = .ok (.istore_n 3, 1) := by decide +kernel
theorem dX8_bearable_17 : decode cX8_bearable 17 = .ok (.iload_n 3, 1) := by decide +kernel
theorem dX8_bearable_18 : decode cX8_bearable 18 = .ok (.ifCond .lt 21, 3) := by decide +kernel
theorem dX8_bearable_21 : decode cX8_bearable 21 = .ok (.aload_n 0, 1) := by decide +kernel
theorem dX8_bearable_22 : decode cX8_bearable 22 = .ok (.iload_n 1, 1) := by decide +kernel
theorem dX8_bearable_23 : decode cX8_bearable 23 = .ok (.iload_n 3, 1) := by decide +kernel
theorem dX8_bearable_24 : decode cX8_bearable 24 = .ok (.iload_n 2, 1) := by decide +kernel
theorem dX8_bearable_25 : decode cX8_bearable 25 = .ok (.invokevirtual 283, 3) := by decide +kernel
theorem dX8_bearable_28 : decode cX8_bearable 28 = .ok (.ifCond .eq 5, 3) := by decide +kernel
theorem dX8_bearable_31 : decode cX8_bearable 31 = .ok (.iload_n 3, 1) := by decide +kernel
theorem dX8_bearable_32 : decode cX8_bearable 32 = .ok (.ireturn, 1) := by decide +kernel
theorem dX8_bearable_33 : decode cX8_bearable 33 = .ok (.iinc 3 (-1), 3) := by decide +kernel
theorem dX8_bearable_36 : decode cX8_bearable 36 = .ok (.goto (-19), 3) := by decide +kernel
theorem dX8_bearable_39 : decode cX8_bearable 39 = .ok (.bipush (-9), 2) := by decide +kernel
theorem dX8_bearable_41 : decode cX8_bearable 41 = .ok (.ireturn, 1) := by decide +kernel
theorem dX8_cheapestPurge_0 : decode cX8_cheapestPurge 0 = .ok (.iload_n 1, 1) := by decide +kernel
theorem dX8_cheapestPurge_1 : decode cX8_cheapestPurge 1 = .ok (.iload_n 2, 1) := by decide +kernel
theorem dX8_cheapestPurge_2 : decode cX8_cheapestPurge 2 = .ok (.invokestatic 210, 3) := by decide +kernel
theorem dX8_cheapestPurge_5 : decode cX8_cheapestPurge 5 = .ok (.bipush (-9), 2) := by decide +kernel
theorem dX8_cheapestPurge_7 : decode cX8_cheapestPurge 7 = .ok (.istore_n 3, 1) := by decide +kernel
theorem dX8_cheapestPurge_8 : decode cX8_cheapestPurge 8 = .ok (.iconst 0, 1) := by decide +kernel
theorem dX8_cheapestPurge_9 : decode cX8_cheapestPurge 9 = .ok (.istore 4, 2) := by decide +kernel
theorem dX8_cheapestPurge_11 : decode cX8_cheapestPurge 11 = .ok (.getstatic 287, 3) := by decide +kernel
theorem dX8_cheapestPurge_14 : decode cX8_cheapestPurge 14 = .ok (.iconst 2, 1) := by decide +kernel
theorem dX8_cheapestPurge_15 : decode cX8_cheapestPurge 15 = .ok (.iaload, 1) := by decide +kernel
theorem dX8_cheapestPurge_16 : decode cX8_cheapestPurge 16 = .ok (.istore 5, 2) := by decide +kernel
theorem dX8_cheapestPurge_18 : decode cX8_cheapestPurge 18 = .ok (.iload 5, 2) := by decide +kernel
theorem dX8_cheapestPurge_20 : decode cX8_cheapestPurge 20 = .ok (.getstatic 290, 3) := by decide +kernel
theorem dX8_cheapestPurge_23 : decode cX8_cheapestPurge 23 = .ok (.iconst 2, 1) := by decide +kernel
theorem dX8_cheapestPurge_24 : decode cX8_cheapestPurge 24 = .ok (.iaload, 1) := by decide +kernel
theorem dX8_cheapestPurge_25 : decode cX8_cheapestPurge 25 = .ok (.if_icmp .gt 69, 3) := by decide +kernel
theorem dX8_cheapestPurge_28 : decode cX8_cheapestPurge 28 = .ok (.aload_n 0, 1) := by decide +kernel
theorem dX8_cheapestPurge_29 : decode cX8_cheapestPurge 29 = .ok (.getfield 23, 3) := by decide +kernel
theorem dX8_cheapestPurge_32 : decode cX8_cheapestPurge 32 = .ok (.aload_n 0, 1) := by decide +kernel
theorem dX8_cheapestPurge_33 : decode cX8_cheapestPurge 33 = .ok (.getfield 19, 3) := by decide +kernel
theorem dX8_cheapestPurge_36 : decode cX8_cheapestPurge 36 = .ok (.invokevirtual 269, 3) := by decide +kernel
theorem dX8_cheapestPurge_39 : decode cX8_cheapestPurge 39 = .ok (.aload_n 0, 1) := by decide +kernel
theorem dX8_cheapestPurge_40 : decode cX8_cheapestPurge 40 = .ok (.getfield 23, 3) := by decide +kernel
theorem dX8_cheapestPurge_43 : decode cX8_cheapestPurge 43 = .ok (.getfield 82, 3) := by decide +kernel
theorem dX8_cheapestPurge_46 : decode cX8_cheapestPurge 46 = .ok (.iconst 2, 1) := by decide +kernel
theorem dX8_cheapestPurge_47 : decode cX8_cheapestPurge 47 = .ok (.iload 5, 2) := by decide +kernel
theorem dX8_cheapestPurge_49 : decode cX8_cheapestPurge 49 = .ok (.iastore, 1) := by decide +kernel
theorem dX8_cheapestPurge_50 : decode cX8_cheapestPurge 50 = .ok (.aload_n 0, 1) := by decide +kernel
theorem dX8_cheapestPurge_51 : decode cX8_cheapestPurge 51 = .ok (.getfield 23, 3) := by decide +kernel
theorem dX8_cheapestPurge_54 : decode cX8_cheapestPurge 54 = .ok (.iload_n 1, 1) := by decide +kernel
theorem dX8_cheapestPurge_55 : decode cX8_cheapestPurge 55 = .ok (.iload_n 2, 1) := by decide +kernel
theorem dX8_cheapestPurge_56 : decode cX8_cheapestPurge 56 = .ok (.invokevirtual 218, 3) := by decide +kernel
theorem dX8_cheapestPurge_59 : decode cX8_cheapestPurge 59 = .ok (.aload_n 0, 1) := by decide +kernel
theorem dX8_cheapestPurge_60 : decode cX8_cheapestPurge 60 = .ok (.getfield 23, 3) := by decide +kernel
theorem dX8_cheapestPurge_63 : decode cX8_cheapestPurge 63 = .ok (.invokevirtual 205, 3) := by decide +kernel
theorem dX8_cheapestPurge_66 : decode cX8_cheapestPurge 66 = .ok (.istore 6, 2) := by decide +kernel
theorem dX8_cheapestPurge_68 : decode cX8_cheapestPurge 68 = .ok (.iload_n 3, 1) := by decide +kernel
theorem dX8_cheapestPurge_69 : decode cX8_cheapestPurge 69 = .ok (.bipush (-9), 2) := by decide +kernel
theorem dX8_cheapestPurge_71 : decode cX8_cheapestPurge 71 = .ok (.if_icmp .eq 10, 3) := by decide +kernel
theorem dX8_cheapestPurge_74 : decode cX8_cheapestPurge 74 = .ok (.iload 6, 2) := by decide +kernel
theorem dX8_cheapestPurge_76 : decode cX8_cheapestPurge 76 = .ok (.iload 4, 2) := by decide +kernel
theorem dX8_cheapestPurge_78 : decode cX8_cheapestPurge 78 = .ok (.if_icmp .ge 10, 3) := by decide +kernel
theorem dX8_cheapestPurge_81 : decode cX8_cheapestPurge 81 = .ok (.iload 6, 2) := by decide +kernel
theorem dX8_cheapestPurge_83 : decode cX8_cheapestPurge 83 = .ok (.istore 4, 2) := by decide +kernel
theorem dX8_cheapestPurge_85 : decode cX8_cheapestPurge 85 = .ok (.iload 5, 2) := by decide +kernel
theorem dX8_cheapestPurge_87 : decode cX8_cheapestPurge 87 = .ok (.istore_n 3, 1) := by decide +kernel
theorem dX8_cheapestPurge_88 : decode cX8_cheapestPurge 88 = .ok (.iinc 5 1, 3) := by decide +kernel
theorem dX8_cheapestPurge_91 : decode cX8_cheapestPurge 91 = .ok (.goto (-73), 3) := by decide +kernel
theorem dX8_cheapestPurge_94 : decode cX8_cheapestPurge 94 = .ok (.iload_n 3, 1) := by decide +kernel
theorem dX8_cheapestPurge_95 : decode cX8_cheapestPurge 95 = .ok (.ireturn, 1) := by decide +kernel
theorem dX8_runScript_0 : decode cX8_runScript 0 = .ok (.iload_n 1, 1) := by decide +kernel
theorem dX8_runScript_1 : decode cX8_runScript 1 = .ok (.iconst 1, 1) := by decide +kernel
theorem dX8_runScript_2 : decode cX8_runScript 2 = .ok (.iconst 3, 1) := by decide +kernel
theorem dX8_runScript_3 : decode cX8_runScript 3 = .ok (.invokestatic 47, 3) := by decide +kernel
theorem dX8_runScript_6 : decode cX8_runScript 6 = .ok (.lconst 1, 1) := by decide +kernel
theorem dX8_runScript_7 : decode cX8_runScript 7 = .ok (.lstore 4, 2) := by decide +kernel
theorem dX8_runScript_9 : decode cX8_runScript 9 = .ok (.iconst 1, 1) := by decide +kernel
theorem dX8_runScript_10 : decode cX8_runScript 10 = .ok (.istore 6, 2) := by decide +kernel
theorem dX8_runScript_12 : decode cX8_runScript 12 = .ok (.iload 6, 2) := by decide +kernel
theorem dX8_runScript_14 : decode cX8_runScript 14 = .ok (.iload_n 1, 1) := by decide +kernel
theorem dX8_runScript_15 : decode cX8_runScript 15 = .ok (.if_icmp .ge 17, 3) := by decide +kernel
theorem dX8_runScript_18 : decode cX8_runScript 18 = .ok (.lload 4, 2) := by decide +kernel
theorem dX8_runScript_20 : decode cX8_runScript 20 = .ok (.ldc2_w 293, 3) := by decide +kernel
theorem dX8_runScript_23 : decode cX8_runScript 23 = .ok (.lmul, 1) := by decide +kernel
theorem dX8_runScript_24 : decode cX8_runScript 24 = .ok (.lstore 4, 2) := by decide +kernel
theorem dX8_runScript_26 : decode cX8_runScript 26 = .ok (.iinc 6 1, 3) := by decide +kernel
theorem dX8_runScript_29 : decode cX8_runScript 29 = .ok (.goto (-17), 3) := by decide +kernel
theorem dX8_runScript_32 : decode cX8_runScript 32 = .ok (.lload_n 2, 1) := by decide +kernel
theorem dX8_runScript_33 : decode cX8_runScript 33 = .ok (.lconst 0, 1) := by decide +kernel
theorem dX8_runScript_34 : decode cX8_runScript 34 = .ok (.lcmp, 1) := by decide +kernel
theorem dX8_runScript_35 : decode cX8_runScript 35 = .ok (.ifCond .lt 14, 3) := by decide +kernel
theorem dX8_runScript_38 : decode cX8_runScript 38 = .ok (.lload_n 2, 1) := by decide +kernel
theorem dX8_runScript_39 : decode cX8_runScript 39 = .ok (.lload 4, 2) := by decide +kernel
theorem dX8_runScript_41 : decode cX8_runScript 41 = .ok (.ldc2_w 293, 3) := by decide +kernel
theorem dX8_runScript_44 : decode cX8_runScript 44 = .ok (.lmul, 1) := by decide +kernel
theorem dX8_runScript_45 : decode cX8_runScript 45 = .ok (.lcmp, 1) := by decide +kernel
theorem dX8_runScript_46 : decode cX8_runScript 46 = .ok (.ifCond .lt 14, 3) := by decide +kernel
theorem dX8_runScript_49 : decode cX8_runScript 49 = .ok (.new 228, 3) := by decide +kernel
theorem dX8_runScript_52 : decode cX8_runScript 52 = .ok (.dup, 1) := by decide +kernel
theorem dX8_runScript_53 : decode cX8_runScript 53 = .ok (.ldc_w 295, 3) := by decide +kernel
theorem dX8_runScript_56 : decode cX8_runScript 56 = .ok (.invokespecial 232, 3) := by decide +kernel
theorem dX8_runScript_59 : decode cX8_runScript 59 = .ok (.athrow, 1) := by decide +kernel
theorem dX8_runScript_60 : decode cX8_runScript 60 = .ok (.aload_n 0, 1) := by decide +kernel
theorem dX8_runScript_61 : decode cX8_runScript 61 = .ok (.getfield 23, 3) := by decide +kernel
theorem dX8_runScript_64 : decode cX8_runScript 64 = .ok (.aload_n 0, 1) := by decide +kernel
theorem dX8_runScript_65 : decode cX8_runScript 65 = .ok (.getfield 19, 3) := by decide +kernel
theorem dX8_runScript_68 : decode cX8_runScript 68 = .ok (.invokevirtual 269, 3) := by decide +kernel
theorem dX8_runScript_71 : decode cX8_runScript 71 = .ok (.iconst 0, 1) := by decide +kernel
theorem dX8_runScript_72 : decode cX8_runScript 72 = .ok (.istore 6, 2) := by decide +kernel
theorem dX8_runScript_74 : decode cX8_runScript 74 = .ok (.iload 6, 2) := by decide +kernel
theorem dX8_runScript_76 : decode cX8_runScript 76 = .ok (.iload_n 1, 1) := by decide +kernel
theorem dX8_runScript_77 : decode cX8_runScript 77 = .ok (.if_icmp .ge 88, 3) := by decide +kernel
theorem dX8_runScript_80 : decode cX8_runScript 80 = .ok (.lload 4, 2) := by decide +kernel
theorem dX8_runScript_82 : decode cX8_runScript 82 = .ok (.lconst 0, 1) := by decide +kernel
theorem dX8_runScript_83 : decode cX8_runScript 83 = .ok (.lcmp, 1) := by decide +kernel
theorem dX8_runScript_84 : decode cX8_runScript 84 = .ok (.ifCond .le 81, 3) := by decide +kernel
theorem dX8_runScript_87 : decode cX8_runScript 87 = .ok (.lload_n 2, 1) := by decide +kernel
theorem dX8_runScript_88 : decode cX8_runScript 88 = .ok (.lload 4, 2) := by decide +kernel
theorem dX8_runScript_90 : decode cX8_runScript 90 = .ok (.ldiv, 1) := by decide +kernel
theorem dX8_runScript_91 : decode cX8_runScript 91 = .ok (.ldc2_w 293, 3) := by decide +kernel
theorem dX8_runScript_94 : decode cX8_runScript 94 = .ok (.lrem, 1) := by decide +kernel
theorem dX8_runScript_95 : decode cX8_runScript 95 = .ok (.l2i, 1) := by decide +kernel
theorem dX8_runScript_96 : decode cX8_runScript 96 = .ok (.istore 7, 2) := by decide +kernel
theorem dX8_runScript_98 : decode cX8_runScript 98 = .ok (.iload 7, 2) := by decide +kernel
theorem dX8_runScript_100 : decode cX8_runScript 100 = .ok (.sipush 10000, 3) := by decide +kernel
theorem dX8_runScript_103 : decode cX8_runScript 103 = .ok (.idiv, 1) := by decide +kernel
theorem dX8_runScript_104 : decode cX8_runScript 104 = .ok (.istore 8, 2) := by decide +kernel
theorem dX8_runScript_106 : decode cX8_runScript 106 = .ok (.iload 7, 2) := by decide +kernel
theorem dX8_runScript_108 : decode cX8_runScript 108 = .ok (.sipush 1000, 3) := by decide +kernel
theorem dX8_runScript_111 : decode cX8_runScript 111 = .ok (.idiv, 1) := by decide +kernel
theorem dX8_runScript_112 : decode cX8_runScript 112 = .ok (.bipush 10, 2) := by decide +kernel
theorem dX8_runScript_114 : decode cX8_runScript 114 = .ok (.irem, 1) := by decide +kernel
theorem dX8_runScript_115 : decode cX8_runScript 115 = .ok (.istore 9, 2) := by decide +kernel
theorem dX8_runScript_117 : decode cX8_runScript 117 = .ok (.iload 7, 2) := by decide +kernel
theorem dX8_runScript_119 : decode cX8_runScript 119 = .ok (.sipush 1000, 3) := by decide +kernel
theorem dX8_runScript_122 : decode cX8_runScript 122 = .ok (.irem, 1) := by decide +kernel
theorem dX8_runScript_123 : decode cX8_runScript 123 = .ok (.istore 10, 2) := by decide +kernel
theorem dX8_runScript_125 : decode cX8_runScript 125 = .ok (.aload_n 0, 1) := by decide +kernel
theorem dX8_runScript_126 : decode cX8_runScript 126 = .ok (.iload 8, 2) := by decide +kernel
theorem dX8_runScript_128 : decode cX8_runScript 128 = .ok (.iload 9, 2) := by decide +kernel
theorem dX8_runScript_130 : decode cX8_runScript 130 = .ok (.iload 10, 2) := by decide +kernel
theorem dX8_runScript_132 : decode cX8_runScript 132 = .ok (.invokevirtual 297, 3) := by decide +kernel
theorem dX8_runScript_135 : decode cX8_runScript 135 = .ok (.ifCond .ne 6, 3) := by decide +kernel
theorem dX8_runScript_138 : decode cX8_runScript 138 = .ok (.iload 6, 2) := by decide +kernel
theorem dX8_runScript_140 : decode cX8_runScript 140 = .ok (.ireturn, 1) := by decide +kernel
theorem dX8_runScript_141 : decode cX8_runScript 141 = .ok (.aload_n 0, 1) := by decide +kernel
theorem dX8_runScript_142 : decode cX8_runScript 142 = .ok (.iload 8, 2) := by decide +kernel
theorem dX8_runScript_144 : decode cX8_runScript 144 = .ok (.iload 9, 2) := by decide +kernel
theorem dX8_runScript_146 : decode cX8_runScript 146 = .ok (.iload 10, 2) := by decide +kernel
theorem dX8_runScript_148 : decode cX8_runScript 148 = .ok (.invokevirtual 300, 3) := by decide +kernel
theorem dX8_runScript_151 : decode cX8_runScript 151 = .ok (.lload 4, 2) := by decide +kernel
theorem dX8_runScript_153 : decode cX8_runScript 153 = .ok (.ldc2_w 293, 3) := by decide +kernel
theorem dX8_runScript_156 : decode cX8_runScript 156 = .ok (.ldiv, 1) := by decide +kernel
theorem dX8_runScript_157 : decode cX8_runScript 157 = .ok (.lstore 4, 2) := by decide +kernel
theorem dX8_runScript_159 : decode cX8_runScript 159 = .ok (.iinc 6 1, 3) := by decide +kernel
theorem dX8_runScript_162 : decode cX8_runScript 162 = .ok (.goto (-88), 3) := by decide +kernel
theorem dX8_runScript_165 : decode cX8_runScript 165 = .ok (.bipush (-9), 2) := by decide +kernel
theorem dX8_runScript_167 : decode cX8_runScript 167 = .ok (.ireturn, 1) := by decide +kernel
theorem dX8_simulate_0 : decode cX8_simulate 0 = .ok (.iload_n 3, 1) := by decide +kernel
theorem dX8_simulate_1 : decode cX8_simulate 1 = .ok (.iconst 1, 1) := by decide +kernel
theorem dX8_simulate_2 : decode cX8_simulate 2 = .ok (.bipush 96, 2) := by decide +kernel
theorem dX8_simulate_4 : decode cX8_simulate 4 = .ok (.invokestatic 47, 3) := by decide +kernel
theorem dX8_simulate_7 : decode cX8_simulate 7 = .ok (.aload_n 0, 1) := by decide +kernel
theorem dX8_simulate_8 : decode cX8_simulate 8 = .ok (.getfield 23, 3) := by decide +kernel
theorem dX8_simulate_11 : decode cX8_simulate 11 = .ok (.aload_n 0, 1) := by decide +kernel
theorem dX8_simulate_12 : decode cX8_simulate 12 = .ok (.getfield 19, 3) := by decide +kernel
theorem dX8_simulate_15 : decode cX8_simulate 15 = .ok (.invokevirtual 269, 3) := by decide +kernel
theorem dX8_simulate_18 : decode cX8_simulate 18 = .ok (.lload_n 1, 1) := by decide +kernel
theorem dX8_simulate_19 : decode cX8_simulate 19 = .ok (.lstore 4, 2) := by decide +kernel
theorem dX8_simulate_21 : decode cX8_simulate 21 = .ok (.iconst 0, 1) := by decide +kernel
theorem dX8_simulate_22 : decode cX8_simulate 22 = .ok (.istore 6, 2) := by decide +kernel
theorem dX8_simulate_24 : decode cX8_simulate 24 = .ok (.iload 6, 2) := by decide +kernel
theorem dX8_simulate_26 : decode cX8_simulate 26 = .ok (.iload_n 3, 1) := by decide +kernel
theorem dX8_simulate_27 : decode cX8_simulate 27 = .ok (.if_icmp .ge 91, 3) := by decide +kernel
theorem dX8_simulate_30 : decode cX8_simulate 30 = .ok (.lload 4, 2) := by decide +kernel
theorem dX8_simulate_32 : decode cX8_simulate 32 = .ok (.ldc2_w 303, 3) := by decide +kernel
theorem dX8_simulate_35 : decode cX8_simulate 35 = .ok (.lmul, 1) := by decide +kernel
theorem dX8_simulate_36 : decode cX8_simulate 36 = .ok (.ldc2_w 305, 3) := by decide +kernel
theorem dX8_simulate_39 : decode cX8_simulate 39 = .ok (.ladd, 1) := by decide +kernel
theorem dX8_simulate_40 : decode cX8_simulate 40 = .ok (.lstore 4, 2) := by decide +kernel
theorem dX8_simulate_42 : decode cX8_simulate 42 = .ok (.lload 4, 2) := by decide +kernel
theorem dX8_simulate_44 : decode cX8_simulate 44 = .ok (.bipush 33, 2) := by decide +kernel
theorem dX8_simulate_46 : decode cX8_simulate 46 = .ok (.lushr, 1) := by decide +kernel
theorem dX8_simulate_47 : decode cX8_simulate 47 = .ok (.l2i, 1) := by decide +kernel
theorem dX8_simulate_48 : decode cX8_simulate 48 = .ok (.istore 7, 2) := by decide +kernel
theorem dX8_simulate_50 : decode cX8_simulate 50 = .ok (.iload 7, 2) := by decide +kernel
theorem dX8_simulate_52 : decode cX8_simulate 52 = .ok (.bipush 16, 2) := by decide +kernel
theorem dX8_simulate_54 : decode cX8_simulate 54 = .ok (.irem, 1) := by decide +kernel
theorem dX8_simulate_55 : decode cX8_simulate 55 = .ok (.ifCond .ne 42, 3) := by decide +kernel
theorem dX8_simulate_58 : decode cX8_simulate 58 = .ok (.iload 7, 2) := by decide +kernel
theorem dX8_simulate_60 : decode cX8_simulate 60 = .ok (.bipush 16, 2) := by decide +kernel
theorem dX8_simulate_62 : decode cX8_simulate 62 = .ok (.idiv, 1) := by decide +kernel
theorem dX8_simulate_63 : decode cX8_simulate 63 = .ok (.iconst 2, 1) := by decide +kernel
theorem dX8_simulate_64 : decode cX8_simulate 64 = .ok (.irem, 1) := by decide +kernel
theorem dX8_simulate_65 : decode cX8_simulate 65 = .ok (.istore 8, 2) := by decide +kernel
theorem dX8_simulate_67 : decode cX8_simulate 67 = .ok (.aload_n 0, 1) := by decide +kernel
theorem dX8_simulate_68 : decode cX8_simulate 68 = .ok (.getfield 23, 3) := by decide +kernel
theorem dX8_simulate_71 : decode cX8_simulate 71 = .ok (.iload 8, 2) := by decide +kernel
theorem dX8_simulate_73 : decode cX8_simulate 73 = .ok (.aload_n 0, 1) := by decide +kernel
theorem dX8_simulate_74 : decode cX8_simulate 74 = .ok (.getfield 23, 3) := by decide +kernel
theorem dX8_simulate_77 : decode cX8_simulate 77 = .ok (.iload 8, 2) := by decide +kernel
theorem dX8_simulate_79 : decode cX8_simulate 79 = .ok (.invokevirtual 167, 3) := by decide +kernel
theorem dX8_simulate_82 : decode cX8_simulate 82 = .ok (.getfield 179, 3) := by decide +kernel
theorem dX8_simulate_85 : decode cX8_simulate 85 = .ok (.ifCond .ne 7, 3) := by decide +kernel
theorem dX8_simulate_88 : decode cX8_simulate 88 = .ok (.iconst 1, 1) := by decide +kernel
theorem dX8_simulate_89 : decode cX8_simulate 89 = .ok (.goto 4, 3) := by decide +kernel
theorem dX8_simulate_92 : decode cX8_simulate 92 = .ok (.iconst 0, 1) := by decide +kernel
theorem dX8_simulate_93 : decode cX8_simulate 93 = .ok (.invokevirtual 233, 3) := by decide +kernel
theorem dX8_simulate_96 : decode cX8_simulate 96 = .ok (.pop, 1) := by decide +kernel
theorem dX8_simulate_97 : decode cX8_simulate 97 = .ok (.aload_n 0, 1) := by decide +kernel
theorem dX8_simulate_98 : decode cX8_simulate 98 = .ok (.getfield 23, 3) := by decide +kernel
theorem dX8_simulate_101 : decode cX8_simulate 101 = .ok (.iconst 1, 1) := by decide +kernel
theorem dX8_simulate_102 : decode cX8_simulate 102 = .ok (.iload 7, 2) := by decide +kernel
theorem dX8_simulate_104 : decode cX8_simulate 104 = .ok (.bipush 64, 2) := by decide +kernel
theorem dX8_simulate_106 : decode cX8_simulate 106 = .ok (.idiv, 1) := by decide +kernel
theorem dX8_simulate_107 : decode cX8_simulate 107 = .ok (.iconst 4, 1) := by decide +kernel
theorem dX8_simulate_108 : decode cX8_simulate 108 = .ok (.irem, 1) := by decide +kernel
theorem dX8_simulate_109 : decode cX8_simulate 109 = .ok (.invokevirtual 218, 3) := by decide +kernel
theorem dX8_simulate_112 : decode cX8_simulate 112 = .ok (.iinc 6 1, 3) := by decide +kernel
theorem dX8_simulate_115 : decode cX8_simulate 115 = .ok (.goto (-91), 3) := by decide +kernel
theorem dX8_simulate_118 : decode cX8_simulate 118 = .ok (.sipush 1000, 3) := by decide +kernel
theorem dX8_simulate_121 : decode cX8_simulate 121 = .ok (.aload_n 0, 1) := by decide +kernel
theorem dX8_simulate_122 : decode cX8_simulate 122 = .ok (.getfield 23, 3) := by decide +kernel
theorem dX8_simulate_125 : decode cX8_simulate 125 = .ok (.invokevirtual 205, 3) := by decide +kernel
theorem dX8_simulate_128 : decode cX8_simulate 128 = .ok (.aload_n 0, 1) := by decide +kernel
theorem dX8_simulate_129 : decode cX8_simulate 129 = .ok (.getfield 19, 3) := by decide +kernel
theorem dX8_simulate_132 : decode cX8_simulate 132 = .ok (.invokevirtual 205, 3) := by decide +kernel
theorem dX8_simulate_135 : decode cX8_simulate 135 = .ok (.isub, 1) := by decide +kernel
theorem dX8_simulate_136 : decode cX8_simulate 136 = .ok (.imul, 1) := by decide +kernel
theorem dX8_simulate_137 : decode cX8_simulate 137 = .ok (.aload_n 0, 1) := by decide +kernel
theorem dX8_simulate_138 : decode cX8_simulate 138 = .ok (.getfield 23, 3) := by decide +kernel
theorem dX8_simulate_141 : decode cX8_simulate 141 = .ok (.getfield 86, 3) := by decide +kernel
theorem dX8_simulate_144 : decode cX8_simulate 144 = .ok (.invokevirtual 98, 3) := by decide +kernel
theorem dX8_simulate_147 : decode cX8_simulate 147 = .ok (.iadd, 1) := by decide +kernel
theorem dX8_simulate_148 : decode cX8_simulate 148 = .ok (.ireturn, 1) := by decide +kernel
theorem dX8_save_0 : decode cX8_save 0 = .ok (.iload_n 1, 1) := by decide +kernel
theorem dX8_save_1 : decode cX8_save 1 = .ok (.invokestatic 307, 3) := by decide +kernel
theorem dX8_save_4 : decode cX8_save 4 = .ok (.iload_n 1, 1) := by decide +kernel
theorem dX8_save_5 : decode cX8_save 5 = .ok (.ifCond .ne 10, 3) := by decide +kernel
theorem dX8_save_8 : decode cX8_save 8 = .ok (.aload_n 0, 1) := by decide +kernel
theorem dX8_save_9 : decode cX8_save 9 = .ok (.getfield 36, 3) := by decide +kernel
theorem dX8_save_12 : decode cX8_save 12 = .ok (.goto 7, 3) := by decide +kernel
theorem dX8_save_15 : decode cX8_save 15 = .ok (.aload_n 0, 1) := by decide +kernel
theorem dX8_save_16 : decode cX8_save 16 = .ok (.getfield 40, 3) := by decide +kernel
theorem dX8_save_19 : decode cX8_save 19 = .ok (.astore_n 2, 1) := by decide +kernel
theorem dX8_save_20 : decode cX8_save 20 = .ok (.aload_n 2, 1) := by decide +kernel
theorem dX8_save_21 : decode cX8_save 21 = .ok (.getfield 310, 3) := by decide +kernel
theorem dX8_save_24 : decode cX8_save 24 = .ok (.aload_n 0, 1) := by decide +kernel
theorem dX8_save_25 : decode cX8_save 25 = .ok (.getfield 19, 3) := by decide +kernel
theorem dX8_save_28 : decode cX8_save 28 = .ok (.invokevirtual 269, 3) := by decide +kernel
theorem dX8_save_31 : decode cX8_save 31 = .ok (.aload_n 2, 1) := by decide +kernel
theorem dX8_save_32 : decode cX8_save 32 = .ok (.iconst 1, 1) := by decide +kernel
theorem dX8_save_33 : decode cX8_save 33 = .ok (.putfield 75, 3) := by decide +kernel
theorem dX8_save_36 : decode cX8_save 36 = .ok (.aload_n 0, 1) := by decide +kernel
theorem dX8_save_37 : decode cX8_save 37 = .ok (.getfield 19, 3) := by decide +kernel
theorem dX8_save_40 : decode cX8_save 40 = .ok (.getfield 95, 3) := by decide +kernel
theorem dX8_save_43 : decode cX8_save 43 = .ok (.ireturn, 1) := by decide +kernel
theorem dX8_restore_0 : decode cX8_restore 0 = .ok (.iload_n 1, 1) := by decide +kernel
theorem dX8_restore_1 : decode cX8_restore 1 = .ok (.invokestatic 307, 3) := by decide +kernel
theorem dX8_restore_4 : decode cX8_restore 4 = .ok (.iload_n 1, 1) := by decide +kernel
theorem dX8_restore_5 : decode cX8_restore 5 = .ok (.ifCond .ne 10, 3) := by decide +kernel
theorem dX8_restore_8 : decode cX8_restore 8 = .ok (.aload_n 0, 1) := by decide +kernel
theorem dX8_restore_9 : decode cX8_restore 9 = .ok (.getfield 36, 3) := by decide +kernel
theorem dX8_restore_12 : decode cX8_restore 12 = .ok (.goto 7, 3) := by decide +kernel
theorem dX8_restore_15 : decode cX8_restore 15 = .ok (.aload_n 0, 1) := by decide +kernel
theorem dX8_restore_16 : decode cX8_restore 16 = .ok (.getfield 40, 3) := by decide +kernel
theorem dX8_restore_19 : decode cX8_restore 19 = .ok (.astore_n 2, 1) := by decide +kernel
theorem dX8_restore_20 : decode cX8_restore 20 = .ok (.aload_n 2, 1) := by decide +kernel
theorem dX8_restore_21 : decode cX8_restore 21 = .ok (.getfield 75, 3) := by decide +kernel
theorem dX8_restore_24 : decode cX8_restore 24 = .ok (.ifCond .ne 14, 3) := by decide +kernel
theorem dX8_restore_27 : decode cX8_restore 27 = .ok (.new 55, 3) := by decide +kernel
theorem dX8_restore_30 : decode cX8_restore 30 = .ok (.dup, 1) := by decide +kernel
theorem dX8_restore_31 : decode cX8_restore 31 = .ok (.ldc_w 313, 3) := by decide +kernel
theorem dX8_restore_34 : decode cX8_restore 34 = .ok (.invokespecial 59, 3) := by decide +kernel
theorem dX8_restore_37 : decode cX8_restore 37 = .ok (.athrow, 1) := by decide +kernel
theorem dX8_restore_38 : decode cX8_restore 38 = .ok (.aload_n 0, 1) := by decide +kernel
theorem dX8_restore_39 : decode cX8_restore 39 = .ok (.getfield 19, 3) := by decide +kernel
theorem dX8_restore_42 : decode cX8_restore 42 = .ok (.aload_n 2, 1) := by decide +kernel
theorem dX8_restore_43 : decode cX8_restore 43 = .ok (.getfield 310, 3) := by decide +kernel
theorem dX8_restore_46 : decode cX8_restore 46 = .ok (.invokevirtual 269, 3) := by decide +kernel
theorem dX8_restore_49 : decode cX8_restore 49 = .ok (.aload_n 0, 1) := by decide +kernel
theorem dX8_restore_50 : decode cX8_restore 50 = .ok (.getfield 29, 3) := by decide +kernel
theorem dX8_restore_53 : decode cX8_restore 53 = .ok (.invokevirtual 72, 3) := by decide +kernel
theorem dX8_restore_56 : decode cX8_restore 56 = .ok (.aload_n 0, 1) := by decide +kernel
theorem dX8_restore_57 : decode cX8_restore 57 = .ok (.getfield 19, 3) := by decide +kernel
theorem dX8_restore_60 : decode cX8_restore 60 = .ok (.getfield 95, 3) := by decide +kernel
theorem dX8_restore_63 : decode cX8_restore 63 = .ok (.ireturn, 1) := by decide +kernel
theorem dX8_requireWithin_0 : decode cX8_requireWithin 0 = .ok (.iload_n 0, 1) := by decide +kernel
theorem dX8_requireWithin_1 : decode cX8_requireWithin 1 = .ok (.iload_n 1, 1) := by decide +kernel
theorem dX8_requireWithin_2 : decode cX8_requireWithin 2 = .ok (.if_icmp .lt 8, 3) := by decide +kernel
theorem dX8_requireWithin_5 : decode cX8_requireWithin 5 = .ok (.iload_n 0, 1) := by decide +kernel
theorem dX8_requireWithin_6 : decode cX8_requireWithin 6 = .ok (.iload_n 2, 1) := by decide +kernel
theorem dX8_requireWithin_7 : decode cX8_requireWithin 7 = .ok (.if_icmp .le 14, 3) := by decide +kernel
theorem dX8_requireWithin_10 : decode cX8_requireWithin 10 = .ok (.new 228, 3) := by decide +kernel
theorem dX8_requireWithin_13 : decode cX8_requireWithin 13 = .ok (.dup, 1) := by decide +kernel
theorem dX8_requireWithin_14 : decode cX8_requireWithin 14 = .ok (.ldc_w 315, 3) := by decide +kernel
theorem dX8_requireWithin_17 : decode cX8_requireWithin 17 = .ok (.invokespecial 232, 3) := by decide +kernel
theorem dX8_requireWithin_20 : decode cX8_requireWithin 20 = .ok (.athrow, 1) := by decide +kernel
theorem dX8_requireWithin_21 : decode cX8_requireWithin 21 = .ok (.return_, 1) := by decide +kernel
theorem dX8_requireTicks_0 : decode cX8_requireTicks 0 = .ok (.iload_n 0, 1) := by decide +kernel
theorem dX8_requireTicks_1 : decode cX8_requireTicks 1 = .ok (.iconst 1, 1) := by decide +kernel
theorem dX8_requireTicks_2 : decode cX8_requireTicks 2 = .ok (.bipush 96, 2) := by decide +kernel
theorem dX8_requireTicks_4 : decode cX8_requireTicks 4 = .ok (.invokestatic 47, 3) := by decide +kernel
theorem dX8_requireTicks_7 : decode cX8_requireTicks 7 = .ok (.iload_n 1, 1) := by decide +kernel
theorem dX8_requireTicks_8 : decode cX8_requireTicks 8 = .ok (.iconst 0, 1) := by decide +kernel
theorem dX8_requireTicks_9 : decode cX8_requireTicks 9 = .ok (.iconst 5, 1) := by decide +kernel
theorem dX8_requireTicks_10 : decode cX8_requireTicks 10 = .ok (.invokestatic 47, 3) := by decide +kernel
theorem dX8_requireTicks_13 : decode cX8_requireTicks 13 = .ok (.return_, 1) := by decide +kernel
theorem dX8_requireFlue_0 : decode cX8_requireFlue 0 = .ok (.iload_n 0, 1) := by decide +kernel
theorem dX8_requireFlue_1 : decode cX8_requireFlue 1 = .ok (.ifCond .lt 8, 3) := by decide +kernel
theorem dX8_requireFlue_4 : decode cX8_requireFlue 4 = .ok (.iload_n 0, 1) := by decide +kernel
theorem dX8_requireFlue_5 : decode cX8_requireFlue 5 = .ok (.iconst 2, 1) := by decide +kernel
theorem dX8_requireFlue_6 : decode cX8_requireFlue 6 = .ok (.if_icmp .lt 14, 3) := by decide +kernel
theorem dX8_requireFlue_9 : decode cX8_requireFlue 9 = .ok (.new 185, 3) := by decide +kernel
theorem dX8_requireFlue_12 : decode cX8_requireFlue 12 = .ok (.dup, 1) := by decide +kernel
theorem dX8_requireFlue_13 : decode cX8_requireFlue 13 = .ok (.ldc_w 317, 3) := by decide +kernel
theorem dX8_requireFlue_16 : decode cX8_requireFlue 16 = .ok (.invokespecial 189, 3) := by decide +kernel
theorem dX8_requireFlue_19 : decode cX8_requireFlue 19 = .ok (.athrow, 1) := by decide +kernel
theorem dX8_requireFlue_20 : decode cX8_requireFlue 20 = .ok (.return_, 1) := by decide +kernel
theorem dX8_requireSlot_0 : decode cX8_requireSlot 0 = .ok (.iload_n 0, 1) := by decide +kernel
theorem dX8_requireSlot_1 : decode cX8_requireSlot 1 = .ok (.ifCond .eq 19, 3) := by decide +kernel
theorem dX8_requireSlot_4 : decode cX8_requireSlot 4 = .ok (.iload_n 0, 1) := by decide +kernel
theorem dX8_requireSlot_5 : decode cX8_requireSlot 5 = .ok (.iconst 1, 1) := by decide +kernel
theorem dX8_requireSlot_6 : decode cX8_requireSlot 6 = .ok (.if_icmp .eq 14, 3) := by decide +kernel
theorem dX8_requireSlot_9 : decode cX8_requireSlot 9 = .ok (.new 185, 3) := by decide +kernel
theorem dX8_requireSlot_12 : decode cX8_requireSlot 12 = .ok (.dup, 1) := by decide +kernel
theorem dX8_requireSlot_13 : decode cX8_requireSlot 13 = .ok (.ldc_w 319, 3) := by decide +kernel
theorem dX8_requireSlot_16 : decode cX8_requireSlot 16 = .ok (.invokespecial 189, 3) := by decide +kernel
theorem dX8_requireSlot_19 : decode cX8_requireSlot 19 = .ok (.athrow, 1) := by decide +kernel
theorem dX8_requireSlot_20 : decode cX8_requireSlot 20 = .ok (.return_, 1) := by decide +kernel
theorem dX8_requireBoiler_0 : decode cX8_requireBoiler 0 = .ok (.aload_n 0, 1) := by decide +kernel
theorem dX8_requireBoiler_1 : decode cX8_requireBoiler 1 = .ok (.getfield 19, 3) := by decide +kernel
theorem dX8_requireBoiler_4 : decode cX8_requireBoiler 4 = .ok (.iload_n 1, 1) := by decide +kernel
theorem dX8_requireBoiler_5 : decode cX8_requireBoiler 5 = .ok (.invokevirtual 321, 3) := by decide +kernel
theorem dX8_requireBoiler_8 : decode cX8_requireBoiler 8 = .ok (.ifCond .ne 14, 3) := by decide +kernel
theorem dX8_requireBoiler_11 : decode cX8_requireBoiler 11 = .ok (.new 185, 3) := by decide +kernel
theorem dX8_requireBoiler_14 : decode cX8_requireBoiler 14 = .ok (.dup, 1) := by decide +kernel
theorem dX8_requireBoiler_15 : decode cX8_requireBoiler 15 = .ok (.ldc_w 324, 3) := by decide +kernel
theorem dX8_requireBoiler_18 : decode cX8_requireBoiler 18 = .ok (.invokespecial 189, 3) := by decide +kernel
theorem dX8_requireBoiler_21 : decode cX8_requireBoiler 21 = .ok (.athrow, 1) := by decide +kernel
theorem dX8_requireBoiler_22 : decode cX8_requireBoiler 22 = .ok (.return_, 1) := by decide +kernel
theorem dX8_isSetting_0 : decode cX8_isSetting 0 = .ok (.iload_n 0, 1) := by decide +kernel
theorem dX8_isSetting_1 : decode cX8_isSetting 1 = .ok (.ifCond .lt 31, 3) := by decide +kernel
theorem dX8_isSetting_4 : decode cX8_isSetting 4 = .ok (.iload_n 0, 1) := by decide +kernel
theorem dX8_isSetting_5 : decode cX8_isSetting 5 = .ok (.bipush 6, 2) := by decide +kernel
theorem dX8_isSetting_7 : decode cX8_isSetting 7 = .ok (.if_icmp .ge 25, 3) := by decide +kernel
theorem dX8_isSetting_10 : decode cX8_isSetting 10 = .ok (.iload_n 1, 1) := by decide +kernel
theorem dX8_isSetting_11 : decode cX8_isSetting 11 = .ok (.getstatic 287, 3) := by decide +kernel
theorem dX8_isSetting_14 : decode cX8_isSetting 14 = .ok (.iload_n 0, 1) := by decide +kernel
theorem dX8_isSetting_15 : decode cX8_isSetting 15 = .ok (.iaload, 1) := by decide +kernel
theorem dX8_isSetting_16 : decode cX8_isSetting 16 = .ok (.if_icmp .lt 16, 3) := by decide +kernel
theorem dX8_isSetting_19 : decode cX8_isSetting 19 = .ok (.iload_n 1, 1) := by decide +kernel
theorem dX8_isSetting_20 : decode cX8_isSetting 20 = .ok (.getstatic 290, 3) := by decide +kernel
theorem dX8_isSetting_23 : decode cX8_isSetting 23 = .ok (.iload_n 0, 1) := by decide +kernel
theorem dX8_isSetting_24 : decode cX8_isSetting 24 = .ok (.iaload, 1) := by decide +kernel
theorem dX8_isSetting_25 : decode cX8_isSetting 25 = .ok (.if_icmp .gt 7, 3) := by decide +kernel
theorem dX8_isSetting_28 : decode cX8_isSetting 28 = .ok (.iconst 1, 1) := by decide +kernel
theorem dX8_isSetting_29 : decode cX8_isSetting 29 = .ok (.goto 4, 3) := by decide +kernel
theorem dX8_isSetting_32 : decode cX8_isSetting 32 = .ok (.iconst 0, 1) := by decide +kernel
theorem dX8_isSetting_33 : decode cX8_isSetting 33 = .ok (.ireturn, 1) := by decide +kernel
theorem dX8_staysHot_0 : decode cX8_staysHot 0 = .ok (.aload_n 0, 1) := by decide +kernel
theorem dX8_staysHot_1 : decode cX8_staysHot 1 = .ok (.getfield 23, 3) := by decide +kernel
theorem dX8_staysHot_4 : decode cX8_staysHot 4 = .ok (.aload_n 0, 1) := by decide +kernel
theorem dX8_staysHot_5 : decode cX8_staysHot 5 = .ok (.getfield 19, 3) := by decide +kernel
theorem dX8_staysHot_8 : decode cX8_staysHot 8 = .ok (.invokevirtual 269, 3) := by decide +kernel
theorem dX8_staysHot_11 : decode cX8_staysHot 11 = .ok (.iconst 0, 1) := by decide +kernel
theorem dX8_staysHot_12 : decode cX8_staysHot 12 = .ok (.istore 4, 2) := by decide +kernel
theorem dX8_staysHot_14 : decode cX8_staysHot 14 = .ok (.iload 4, 2) := by decide +kernel
theorem dX8_staysHot_16 : decode cX8_staysHot 16 = .ok (.iload_n 1, 1) := by decide +kernel
theorem dX8_staysHot_17 : decode cX8_staysHot 17 = .ok (.if_icmp .ge 34, 3) := by decide +kernel
theorem dX8_staysHot_20 : decode cX8_staysHot 20 = .ok (.aload_n 0, 1) := by decide +kernel
theorem dX8_staysHot_21 : decode cX8_staysHot 21 = .ok (.getfield 23, 3) := by decide +kernel
theorem dX8_staysHot_24 : decode cX8_staysHot 24 = .ok (.iconst 1, 1) := by decide +kernel
theorem dX8_staysHot_25 : decode cX8_staysHot 25 = .ok (.iload_n 2, 1) := by decide +kernel
theorem dX8_staysHot_26 : decode cX8_staysHot 26 = .ok (.invokevirtual 218, 3) := by decide +kernel
theorem dX8_staysHot_29 : decode cX8_staysHot 29 = .ok (.aload_n 0, 1) := by decide +kernel
theorem dX8_staysHot_30 : decode cX8_staysHot 30 = .ok (.getfield 23, 3) := by decide +kernel
theorem dX8_staysHot_33 : decode cX8_staysHot 33 = .ok (.getfield 86, 3) := by decide +kernel
theorem dX8_staysHot_36 : decode cX8_staysHot 36 = .ok (.invokevirtual 278, 3) := by decide +kernel
theorem dX8_staysHot_39 : decode cX8_staysHot 39 = .ok (.iload_n 3, 1) := by decide +kernel
theorem dX8_staysHot_40 : decode cX8_staysHot 40 = .ok (.if_icmp .ge 5, 3) := by decide +kernel
theorem dX8_staysHot_43 : decode cX8_staysHot 43 = .ok (.iconst 0, 1) := by decide +kernel
theorem dX8_staysHot_44 : decode cX8_staysHot 44 = .ok (.ireturn, 1) := by decide +kernel
theorem dX8_staysHot_45 : decode cX8_staysHot 45 = .ok (.iinc 4 1, 3) := by decide +kernel
theorem dX8_staysHot_48 : decode cX8_staysHot 48 = .ok (.goto (-34), 3) := by decide +kernel
theorem dX8_staysHot_51 : decode cX8_staysHot 51 = .ok (.iconst 1, 1) := by decide +kernel
theorem dX8_staysHot_52 : decode cX8_staysHot 52 = .ok (.ireturn, 1) := by decide +kernel
theorem dX8_isAllowed_0 : decode cX8_isAllowed 0 = .ok (.iload_n 1, 1) := by decide +kernel
theorem dX8_isAllowed_1 : decode cX8_isAllowed 1 = .ok (.tableswitch 283 1 9 #[51, 73, 94, 100, 116, 153, 190, 220, 253], 51) := by decide +kernel
theorem dX8_isAllowed_52 : decode cX8_isAllowed 52 = .ok (.iload_n 2, 1) := by decide +kernel
theorem dX8_isAllowed_53 : decode cX8_isAllowed 53 = .ok (.iconst 5, 1) := by decide +kernel
theorem dX8_isAllowed_54 : decode cX8_isAllowed 54 = .ok (.if_icmp .gt 18, 3) := by decide +kernel
theorem dX8_isAllowed_57 : decode cX8_isAllowed 57 = .ok (.iload_n 3, 1) := by decide +kernel
theorem dX8_isAllowed_58 : decode cX8_isAllowed 58 = .ok (.iconst 1, 1) := by decide +kernel
theorem dX8_isAllowed_59 : decode cX8_isAllowed 59 = .ok (.if_icmp .lt 13, 3) := by decide +kernel
theorem dX8_isAllowed_62 : decode cX8_isAllowed 62 = .ok (.iload_n 3, 1) := by decide +kernel
theorem dX8_isAllowed_63 : decode cX8_isAllowed 63 = .ok (.bipush 96, 2) := by decide +kernel
theorem dX8_isAllowed_65 : decode cX8_isAllowed 65 = .ok (.if_icmp .gt 7, 3) := by decide +kernel
theorem dX8_isAllowed_68 : decode cX8_isAllowed 68 = .ok (.iconst 1, 1) := by decide +kernel
theorem dX8_isAllowed_69 : decode cX8_isAllowed 69 = .ok (.goto 4, 3) := by decide +kernel
theorem dX8_isAllowed_72 : decode cX8_isAllowed 72 = .ok (.iconst 0, 1) := by decide +kernel
theorem dX8_isAllowed_73 : decode cX8_isAllowed 73 = .ok (.ireturn, 1) := by decide +kernel
theorem dX8_isAllowed_74 : decode cX8_isAllowed 74 = .ok (.iload_n 2, 1) := by decide +kernel
theorem dX8_isAllowed_75 : decode cX8_isAllowed 75 = .ok (.ifCond .ne 18, 3) := by decide +kernel
theorem dX8_isAllowed_78 : decode cX8_isAllowed 78 = .ok (.iload_n 3, 1) := by decide +kernel
theorem dX8_isAllowed_79 : decode cX8_isAllowed 79 = .ok (.iconst 1, 1) := by decide +kernel
theorem dX8_isAllowed_80 : decode cX8_isAllowed 80 = .ok (.if_icmp .lt 13, 3) := by decide +kernel
theorem dX8_isAllowed_83 : decode cX8_isAllowed 83 = .ok (.iload_n 3, 1) := by decide +kernel
theorem dX8_isAllowed_84 : decode cX8_isAllowed 84 = .ok (.bipush 20, 2) := by decide +kernel
theorem dX8_isAllowed_86 : decode cX8_isAllowed 86 = .ok (.if_icmp .gt 7, 3) := by decide +kernel
theorem dX8_isAllowed_89 : decode cX8_isAllowed 89 = .ok (.iconst 1, 1) := by decide +kernel
theorem dX8_isAllowed_90 : decode cX8_isAllowed 90 = .ok (.goto 4, 3) := by decide +kernel
theorem dX8_isAllowed_93 : decode cX8_isAllowed 93 = .ok (.iconst 0, 1) := by decide +kernel
theorem dX8_isAllowed_94 : decode cX8_isAllowed 94 = .ok (.ireturn, 1) := by decide +kernel
theorem dX8_isAllowed_95 : decode cX8_isAllowed 95 = .ok (.iload_n 2, 1) := by decide +kernel
theorem dX8_isAllowed_96 : decode cX8_isAllowed 96 = .ok (.iload_n 3, 1) := by decide +kernel
theorem dX8_isAllowed_97 : decode cX8_isAllowed 97 = .ok (.invokestatic 224, 3) := by decide +kernel
theorem dX8_isAllowed_100 : decode cX8_isAllowed 100 = .ok (.ireturn, 1) := by decide +kernel
theorem dX8_isAllowed_101 : decode cX8_isAllowed 101 = .ok (.iload_n 2, 1) := by decide +kernel
theorem dX8_isAllowed_102 : decode cX8_isAllowed 102 = .ok (.iconst 2, 1) := by decide +kernel
theorem dX8_isAllowed_103 : decode cX8_isAllowed 103 = .ok (.if_icmp .ge 12, 3) := by decide +kernel
theorem dX8_isAllowed_106 : decode cX8_isAllowed 106 = .ok (.iload_n 3, 1) := by decide +kernel
theorem dX8_isAllowed_107 : decode cX8_isAllowed 107 = .ok (.iconst 1, 1) := by decide +kernel
theorem dX8_isAllowed_108 : decode cX8_isAllowed 108 = .ok (.if_icmp .gt 7, 3) := by decide +kernel
theorem dX8_isAllowed_111 : decode cX8_isAllowed 111 = .ok (.iconst 1, 1) := by decide +kernel
theorem dX8_isAllowed_112 : decode cX8_isAllowed 112 = .ok (.goto 4, 3) := by decide +kernel
theorem dX8_isAllowed_115 : decode cX8_isAllowed 115 = .ok (.iconst 0, 1) := by decide +kernel
theorem dX8_isAllowed_116 : decode cX8_isAllowed 116 = .ok (.ireturn, 1) := by decide +kernel
theorem dX8_isAllowed_117 : decode cX8_isAllowed 117 = .ok (.iload_n 3, 1) := by decide +kernel
theorem dX8_isAllowed_118 : decode cX8_isAllowed 118 = .ok (.ifCond .ne 34, 3) := by decide +kernel
theorem dX8_isAllowed_121 : decode cX8_isAllowed 121 = .ok (.aload_n 0, 1) := by decide +kernel
theorem dX8_isAllowed_122 : decode cX8_isAllowed 122 = .ok (.getfield 23, 3) := by decide +kernel
theorem dX8_isAllowed_125 : decode cX8_isAllowed 125 = .ok (.iload_n 2, 1) := by decide +kernel
theorem dX8_isAllowed_126 : decode cX8_isAllowed 126 = .ok (.invokevirtual 321, 3) := by decide +kernel
theorem dX8_isAllowed_129 : decode cX8_isAllowed 129 = .ok (.ifCond .eq 23, 3) := by decide +kernel
theorem dX8_isAllowed_132 : decode cX8_isAllowed 132 = .ok (.aload_n 0, 1) := by decide +kernel
theorem dX8_isAllowed_133 : decode cX8_isAllowed 133 = .ok (.getfield 23, 3) := by decide +kernel
theorem dX8_isAllowed_136 : decode cX8_isAllowed 136 = .ok (.getfield 133, 3) := by decide +kernel
theorem dX8_isAllowed_139 : decode cX8_isAllowed 139 = .ok (.iload_n 2, 1) := by decide +kernel
theorem dX8_isAllowed_140 : decode cX8_isAllowed 140 = .ok (.aaload, 1) := by decide +kernel
theorem dX8_isAllowed_141 : decode cX8_isAllowed 141 = .ok (.getfield 145, 3) := by decide +kernel
theorem dX8_isAllowed_144 : decode cX8_isAllowed 144 = .ok (.iconst 4, 1) := by decide +kernel
theorem dX8_isAllowed_145 : decode cX8_isAllowed 145 = .ok (.if_icmp .eq 7, 3) := by decide +kernel
theorem dX8_isAllowed_148 : decode cX8_isAllowed 148 = .ok (.iconst 1, 1) := by decide +kernel
theorem dX8_isAllowed_149 : decode cX8_isAllowed 149 = .ok (.goto 4, 3) := by decide +kernel
theorem dX8_isAllowed_152 : decode cX8_isAllowed 152 = .ok (.iconst 0, 1) := by decide +kernel
theorem dX8_isAllowed_153 : decode cX8_isAllowed 153 = .ok (.ireturn, 1) := by decide +kernel
theorem dX8_isAllowed_154 : decode cX8_isAllowed 154 = .ok (.iload_n 3, 1) := by decide +kernel
theorem dX8_isAllowed_155 : decode cX8_isAllowed 155 = .ok (.ifCond .ne 34, 3) := by decide +kernel
theorem dX8_isAllowed_158 : decode cX8_isAllowed 158 = .ok (.aload_n 0, 1) := by decide +kernel
theorem dX8_isAllowed_159 : decode cX8_isAllowed 159 = .ok (.getfield 23, 3) := by decide +kernel
theorem dX8_isAllowed_162 : decode cX8_isAllowed 162 = .ok (.iload_n 2, 1) := by decide +kernel
theorem dX8_isAllowed_163 : decode cX8_isAllowed 163 = .ok (.invokevirtual 321, 3) := by decide +kernel
theorem dX8_isAllowed_166 : decode cX8_isAllowed 166 = .ok (.ifCond .eq 23, 3) := by decide +kernel
theorem dX8_isAllowed_169 : decode cX8_isAllowed 169 = .ok (.aload_n 0, 1) := by decide +kernel
theorem dX8_isAllowed_170 : decode cX8_isAllowed 170 = .ok (.getfield 23, 3) := by decide +kernel
theorem dX8_isAllowed_173 : decode cX8_isAllowed 173 = .ok (.getfield 133, 3) := by decide +kernel
theorem dX8_isAllowed_176 : decode cX8_isAllowed 176 = .ok (.iload_n 2, 1) := by decide +kernel
theorem dX8_isAllowed_177 : decode cX8_isAllowed 177 = .ok (.aaload, 1) := by decide +kernel
theorem dX8_isAllowed_178 : decode cX8_isAllowed 178 = .ok (.getfield 145, 3) := by decide +kernel
theorem dX8_isAllowed_181 : decode cX8_isAllowed 181 = .ok (.iconst 4, 1) := by decide +kernel
theorem dX8_isAllowed_182 : decode cX8_isAllowed 182 = .ok (.if_icmp .ne 7, 3) := by decide +kernel
theorem dX8_isAllowed_185 : decode cX8_isAllowed 185 = .ok (.iconst 1, 1) := by decide +kernel
theorem dX8_isAllowed_186 : decode cX8_isAllowed 186 = .ok (.goto 4, 3) := by decide +kernel
theorem dX8_isAllowed_189 : decode cX8_isAllowed 189 = .ok (.iconst 0, 1) := by decide +kernel
theorem dX8_isAllowed_190 : decode cX8_isAllowed 190 = .ok (.ireturn, 1) := by decide +kernel
theorem dX8_isAllowed_191 : decode cX8_isAllowed 191 = .ok (.iload_n 2, 1) := by decide +kernel
theorem dX8_isAllowed_192 : decode cX8_isAllowed 192 = .ok (.ifCond .ne 27, 3) := by decide +kernel
theorem dX8_isAllowed_195 : decode cX8_isAllowed 195 = .ok (.iload_n 3, 1) := by decide +kernel
theorem dX8_isAllowed_196 : decode cX8_isAllowed 196 = .ok (.bipush 99, 2) := by decide +kernel
theorem dX8_isAllowed_198 : decode cX8_isAllowed 198 = .ok (.if_icmp .gt 21, 3) := by decide +kernel
theorem dX8_isAllowed_201 : decode cX8_isAllowed 201 = .ok (.aload_n 0, 1) := by decide +kernel
theorem dX8_isAllowed_202 : decode cX8_isAllowed 202 = .ok (.getfield 23, 3) := by decide +kernel
theorem dX8_isAllowed_205 : decode cX8_isAllowed 205 = .ok (.getfield 86, 3) := by decide +kernel
theorem dX8_isAllowed_208 : decode cX8_isAllowed 208 = .ok (.invokevirtual 98, 3) := by decide +kernel
theorem dX8_isAllowed_211 : decode cX8_isAllowed 211 = .ok (.iload_n 3, 1) := by decide +kernel
theorem dX8_isAllowed_212 : decode cX8_isAllowed 212 = .ok (.if_icmp .lt 7, 3) := by decide +kernel
theorem dX8_isAllowed_215 : decode cX8_isAllowed 215 = .ok (.iconst 1, 1) := by decide +kernel
theorem dX8_isAllowed_216 : decode cX8_isAllowed 216 = .ok (.goto 4, 3) := by decide +kernel
theorem dX8_isAllowed_219 : decode cX8_isAllowed 219 = .ok (.iconst 0, 1) := by decide +kernel
theorem dX8_isAllowed_220 : decode cX8_isAllowed 220 = .ok (.ireturn, 1) := by decide +kernel
theorem dX8_isAllowed_221 : decode cX8_isAllowed 221 = .ok (.aload_n 0, 1) := by decide +kernel
theorem dX8_isAllowed_222 : decode cX8_isAllowed 222 = .ok (.getfield 23, 3) := by decide +kernel
theorem dX8_isAllowed_225 : decode cX8_isAllowed 225 = .ok (.iload_n 2, 1) := by decide +kernel
theorem dX8_isAllowed_226 : decode cX8_isAllowed 226 = .ok (.invokevirtual 321, 3) := by decide +kernel
theorem dX8_isAllowed_229 : decode cX8_isAllowed 229 = .ok (.ifCond .eq 23, 3) := by decide +kernel
theorem dX8_isAllowed_232 : decode cX8_isAllowed 232 = .ok (.aload_n 0, 1) := by decide +kernel
theorem dX8_isAllowed_233 : decode cX8_isAllowed 233 = .ok (.getfield 23, 3) := by decide +kernel
theorem dX8_isAllowed_236 : decode cX8_isAllowed 236 = .ok (.getfield 133, 3) := by decide +kernel
theorem dX8_isAllowed_239 : decode cX8_isAllowed 239 = .ok (.iload_n 2, 1) := by decide +kernel
