theorem dX9_work_54 : decode cX9_work 54 = .ok (.ifCond .ne 7, 3) := by decide +kernel
theorem dX9_work_57 : decode cX9_work 57 = .ok (.iconst 2, 1) := by decide +kernel
theorem dX9_work_58 : decode cX9_work 58 = .ok (.goto 4, 3) := by decide +kernel
theorem dX9_work_61 : decode cX9_work 61 = .ok (.iconst 1, 1) := by decide +kernel
theorem dX9_work_62 : decode cX9_work 62 = .ok (.iastore, 1) := by decide +kernel
theorem dX9_work_63 : decode cX9_work 63 = .ok (.goto 48, 3) := by decide +kernel
theorem dX9_work_66 : decode cX9_work 66 = .ok (.aload_n 1, 1) := by decide +kernel
theorem dX9_work_67 : decode cX9_work 67 = .ok (.iload_n 3, 1) := by decide +kernel
theorem dX9_work_68 : decode cX9_work 68 = .ok (.iconst 4, 1) := by decide +kernel
theorem dX9_work_69 : decode cX9_work 69 = .ok (.iadd, 1) := by decide +kernel
theorem dX9_work_70 : decode cX9_work 70 = .ok (.dup2, 1) := by decide +kernel
theorem dX9_work_71 : decode cX9_work 71 = .ok (.iaload, 1) := by decide +kernel
theorem dX9_work_72 : decode cX9_work 72 = .ok (.iconst 1, 1) := by decide +kernel
theorem dX9_work_73 : decode cX9_work 73 = .ok (.iadd, 1) := by decide +kernel
theorem dX9_work_74 : decode cX9_work 74 = .ok (.iastore, 1) := by decide +kernel
theorem dX9_work_75 : decode cX9_work 75 = .ok (.aload_n 1, 1) := by decide +kernel
theorem dX9_work_76 : decode cX9_work 76 = .ok (.iload_n 3, 1) := by decide +kernel
theorem dX9_work_77 : decode cX9_work 77 = .ok (.bipush 6, 2) := by decide +kernel
theorem dX9_work_79 : decode cX9_work 79 = .ok (.iadd, 1) := by decide +kernel
theorem dX9_work_80 : decode cX9_work 80 = .ok (.dup2, 1) := by decide +kernel
theorem dX9_work_81 : decode cX9_work 81 = .ok (.iaload, 1) := by decide +kernel
theorem dX9_work_82 : decode cX9_work 82 = .ok (.aload_n 1, 1) := by decide +kernel
theorem dX9_work_83 : decode cX9_work 83 = .ok (.iload_n 3, 1) := by decide +kernel
theorem dX9_work_84 : decode cX9_work 84 = .ok (.iaload, 1) := by decide +kernel
theorem dX9_work_85 : decode cX9_work 85 = .ok (.iadd, 1) := by decide +kernel
theorem dX9_work_86 : decode cX9_work 86 = .ok (.iastore, 1) := by decide +kernel
theorem dX9_work_87 : decode cX9_work 87 = .ok (.aload_n 0, 1) := by decide +kernel
theorem dX9_work_88 : decode cX9_work 88 = .ok (.aload_n 1, 1) := by decide +kernel
theorem dX9_work_89 : decode cX9_work 89 = .ok (.aload_n 1, 1) := by decide +kernel
theorem dX9_work_90 : decode cX9_work 90 = .ok (.iload_n 3, 1) := by decide +kernel
theorem dX9_work_91 : decode cX9_work 91 = .ok (.iaload, 1) := by decide +kernel
theorem dX9_work_92 : decode cX9_work 92 = .ok (.invokevirtual 101, 3) := by decide +kernel
theorem dX9_work_95 : decode cX9_work 95 = .ok (.goto 16, 3) := by decide +kernel
theorem dX9_work_98 : decode cX9_work 98 = .ok (.aload_n 1, 1) := by decide +kernel
theorem dX9_work_99 : decode cX9_work 99 = .ok (.iload_n 3, 1) := by decide +kernel
theorem dX9_work_100 : decode cX9_work 100 = .ok (.bipush 6, 2) := by decide +kernel
theorem dX9_work_102 : decode cX9_work 102 = .ok (.iadd, 1) := by decide +kernel
theorem dX9_work_103 : decode cX9_work 103 = .ok (.dup2, 1) := by decide +kernel
theorem dX9_work_104 : decode cX9_work 104 = .ok (.iaload, 1) := by decide +kernel
theorem dX9_work_105 : decode cX9_work 105 = .ok (.iconst 1, 1) := by decide +kernel
theorem dX9_work_106 : decode cX9_work 106 = .ok (.iadd, 1) := by decide +kernel
theorem dX9_work_107 : decode cX9_work 107 = .ok (.iastore, 1) := by decide +kernel
theorem dX9_work_108 : decode cX9_work 108 = .ok (.goto 3, 3) := by decide +kernel
theorem dX9_work_111 : decode cX9_work 111 = .ok (.return_, 1) := by decide +kernel
theorem dX9_settle_0 : decode cX9_settle 0 = .ok (.iconst 0, 1) := by decide +kernel
theorem dX9_settle_1 : decode cX9_settle 1 = .ok (.istore_n 2, 1) := by decide +kernel
theorem dX9_settle_2 : decode cX9_settle 2 = .ok (.iload_n 2, 1) := by decide +kernel
theorem dX9_settle_3 : decode cX9_settle 3 = .ok (.aload_n 0, 1) := by decide +kernel
theorem dX9_settle_4 : decode cX9_settle 4 = .ok (.getfield 17, 3) := by decide +kernel
theorem dX9_settle_7 : decode cX9_settle 7 = .ok (.if_icmp .ge 55, 3) := by decide +kernel
theorem dX9_settle_10 : decode cX9_settle 10 = .ok (.aload_n 1, 1) := by decide +kernel
theorem dX9_settle_11 : decode cX9_settle 11 = .ok (.bipush 22, 2) := by decide +kernel
theorem dX9_settle_13 : decode cX9_settle 13 = .ok (.iload_n 2, 1) := by decide +kernel
theorem dX9_settle_14 : decode cX9_settle 14 = .ok (.iadd, 1) := by decide +kernel
theorem dX9_settle_15 : decode cX9_settle 15 = .ok (.iaload, 1) := by decide +kernel
theorem dX9_settle_16 : decode cX9_settle 16 = .ok (.bipush 20, 2) := by decide +kernel
theorem dX9_settle_18 : decode cX9_settle 18 = .ok (.if_icmp .le 18, 3) := by decide +kernel
theorem dX9_settle_21 : decode cX9_settle 21 = .ok (.aload_n 1, 1) := by decide +kernel
theorem dX9_settle_22 : decode cX9_settle 22 = .ok (.bipush 22, 2) := by decide +kernel
theorem dX9_settle_24 : decode cX9_settle 24 = .ok (.iload_n 2, 1) := by decide +kernel
theorem dX9_settle_25 : decode cX9_settle 25 = .ok (.iadd, 1) := by decide +kernel
theorem dX9_settle_26 : decode cX9_settle 26 = .ok (.iaload, 1) := by decide +kernel
theorem dX9_settle_27 : decode cX9_settle 27 = .ok (.bipush 20, 2) := by decide +kernel
theorem dX9_settle_29 : decode cX9_settle 29 = .ok (.isub, 1) := by decide +kernel
theorem dX9_settle_30 : decode cX9_settle 30 = .ok (.bipush 20, 2) := by decide +kernel
theorem dX9_settle_32 : decode cX9_settle 32 = .ok (.idiv, 1) := by decide +kernel
theorem dX9_settle_33 : decode cX9_settle 33 = .ok (.goto 4, 3) := by decide +kernel
theorem dX9_settle_36 : decode cX9_settle 36 = .ok (.iconst 0, 1) := by decide +kernel
theorem dX9_settle_37 : decode cX9_settle 37 = .ok (.istore_n 3, 1) := by decide +kernel
theorem dX9_settle_38 : decode cX9_settle 38 = .ok (.aload_n 1, 1) := by decide +kernel
theorem dX9_settle_39 : decode cX9_settle 39 = .ok (.bipush 22, 2) := by decide +kernel
theorem dX9_settle_41 : decode cX9_settle 41 = .ok (.iload_n 2, 1) := by decide +kernel
theorem dX9_settle_42 : decode cX9_settle 42 = .ok (.iadd, 1) := by decide +kernel
theorem dX9_settle_43 : decode cX9_settle 43 = .ok (.dup2, 1) := by decide +kernel
theorem dX9_settle_44 : decode cX9_settle 44 = .ok (.iaload, 1) := by decide +kernel
theorem dX9_settle_45 : decode cX9_settle 45 = .ok (.iload_n 3, 1) := by decide +kernel
theorem dX9_settle_46 : decode cX9_settle 46 = .ok (.isub, 1) := by decide +kernel
theorem dX9_settle_47 : decode cX9_settle 47 = .ok (.iastore, 1) := by decide +kernel
theorem dX9_settle_48 : decode cX9_settle 48 = .ok (.aload_n 1, 1) := by decide +kernel
theorem dX9_settle_49 : decode cX9_settle 49 = .ok (.bipush 16, 2) := by decide +kernel
theorem dX9_settle_51 : decode cX9_settle 51 = .ok (.dup2, 1) := by decide +kernel
theorem dX9_settle_52 : decode cX9_settle 52 = .ok (.iaload, 1) := by decide +kernel
theorem dX9_settle_53 : decode cX9_settle 53 = .ok (.iload_n 3, 1) := by decide +kernel
theorem dX9_settle_54 : decode cX9_settle 54 = .ok (.iadd, 1) := by decide +kernel
theorem dX9_settle_55 : decode cX9_settle 55 = .ok (.iastore, 1) := by decide +kernel
theorem dX9_settle_56 : decode cX9_settle 56 = .ok (.iinc 2 1, 3) := by decide +kernel
theorem dX9_settle_59 : decode cX9_settle 59 = .ok (.goto (-57), 3) := by decide +kernel
theorem dX9_settle_62 : decode cX9_settle 62 = .ok (.iconst 1, 1) := by decide +kernel
theorem dX9_settle_63 : decode cX9_settle 63 = .ok (.istore_n 2, 1) := by decide +kernel
theorem dX9_settle_64 : decode cX9_settle 64 = .ok (.iload_n 2, 1) := by decide +kernel
theorem dX9_settle_65 : decode cX9_settle 65 = .ok (.aload_n 0, 1) := by decide +kernel
theorem dX9_settle_66 : decode cX9_settle 66 = .ok (.getfield 17, 3) := by decide +kernel
theorem dX9_settle_69 : decode cX9_settle 69 = .ok (.if_icmp .ge 67, 3) := by decide +kernel
theorem dX9_settle_72 : decode cX9_settle 72 = .ok (.aload_n 1, 1) := by decide +kernel
theorem dX9_settle_73 : decode cX9_settle 73 = .ok (.bipush 22, 2) := by decide +kernel
theorem dX9_settle_75 : decode cX9_settle 75 = .ok (.iload_n 2, 1) := by decide +kernel
theorem dX9_settle_76 : decode cX9_settle 76 = .ok (.iadd, 1) := by decide +kernel
theorem dX9_settle_77 : decode cX9_settle 77 = .ok (.iaload, 1) := by decide +kernel
theorem dX9_settle_78 : decode cX9_settle 78 = .ok (.istore_n 3, 1) := by decide +kernel
theorem dX9_settle_79 : decode cX9_settle 79 = .ok (.iload_n 2, 1) := by decide +kernel
theorem dX9_settle_80 : decode cX9_settle 80 = .ok (.istore 4, 2) := by decide +kernel
theorem dX9_settle_82 : decode cX9_settle 82 = .ok (.iload 4, 2) := by decide +kernel
theorem dX9_settle_84 : decode cX9_settle 84 = .ok (.ifCond .le 38, 3) := by decide +kernel
theorem dX9_settle_87 : decode cX9_settle 87 = .ok (.aload_n 1, 1) := by decide +kernel
theorem dX9_settle_88 : decode cX9_settle 88 = .ok (.bipush 22, 2) := by decide +kernel
theorem dX9_settle_90 : decode cX9_settle 90 = .ok (.iload 4, 2) := by decide +kernel
theorem dX9_settle_92 : decode cX9_settle 92 = .ok (.iadd, 1) := by decide +kernel
theorem dX9_settle_93 : decode cX9_settle 93 = .ok (.iconst 1, 1) := by decide +kernel
theorem dX9_settle_94 : decode cX9_settle 94 = .ok (.isub, 1) := by decide +kernel
theorem dX9_settle_95 : decode cX9_settle 95 = .ok (.iaload, 1) := by decide +kernel
theorem dX9_settle_96 : decode cX9_settle 96 = .ok (.iload_n 3, 1) := by decide +kernel
theorem dX9_settle_97 : decode cX9_settle 97 = .ok (.if_icmp .le 25, 3) := by decide +kernel
theorem dX9_settle_100 : decode cX9_settle 100 = .ok (.aload_n 1, 1) := by decide +kernel
theorem dX9_settle_101 : decode cX9_settle 101 = .ok (.bipush 22, 2) := by decide +kernel
theorem dX9_settle_103 : decode cX9_settle 103 = .ok (.iload 4, 2) := by decide +kernel
theorem dX9_settle_105 : decode cX9_settle 105 = .ok (.iadd, 1) := by decide +kernel
theorem dX9_settle_106 : decode cX9_settle 106 = .ok (.aload_n 1, 1) := by decide +kernel
theorem dX9_settle_107 : decode cX9_settle 107 = .ok (.bipush 22, 2) := by decide +kernel
theorem dX9_settle_109 : decode cX9_settle 109 = .ok (.iload 4, 2) := by decide +kernel
theorem dX9_settle_111 : decode cX9_settle 111 = .ok (.iadd, 1) := by decide +kernel
theorem dX9_settle_112 : decode cX9_settle 112 = .ok (.iconst 1, 1) := by decide +kernel
theorem dX9_settle_113 : decode cX9_settle 113 = .ok (.isub, 1) := by decide +kernel
theorem dX9_settle_114 : decode cX9_settle 114 = .ok (.iaload, 1) := by decide +kernel
theorem dX9_settle_115 : decode cX9_settle 115 = .ok (.iastore, 1) := by decide +kernel
theorem dX9_settle_116 : decode cX9_settle 116 = .ok (.iinc 4 (-1), 3) := by decide +kernel
theorem dX9_settle_119 : decode cX9_settle 119 = .ok (.goto (-37), 3) := by decide +kernel
theorem dX9_settle_122 : decode cX9_settle 122 = .ok (.aload_n 1, 1) := by decide +kernel
theorem dX9_settle_123 : decode cX9_settle 123 = .ok (.bipush 22, 2) := by decide +kernel
theorem dX9_settle_125 : decode cX9_settle 125 = .ok (.iload 4, 2) := by decide +kernel
theorem dX9_settle_127 : decode cX9_settle 127 = .ok (.iadd, 1) := by decide +kernel
theorem dX9_settle_128 : decode cX9_settle 128 = .ok (.iload_n 3, 1) := by decide +kernel
theorem dX9_settle_129 : decode cX9_settle 129 = .ok (.iastore, 1) := by decide +kernel
theorem dX9_settle_130 : decode cX9_settle 130 = .ok (.iinc 2 1, 3) := by decide +kernel
theorem dX9_settle_133 : decode cX9_settle 133 = .ok (.goto (-69), 3) := by decide +kernel
theorem dX9_settle_136 : decode cX9_settle 136 = .ok (.return_, 1) := by decide +kernel
theorem dX9_watch_0 : decode cX9_watch 0 = .ok (.aload_n 1, 1) := by decide +kernel
theorem dX9_watch_1 : decode cX9_watch 1 = .ok (.bipush 8, 2) := by decide +kernel
theorem dX9_watch_3 : decode cX9_watch 3 = .ok (.iaload, 1) := by decide +kernel
theorem dX9_watch_4 : decode cX9_watch 4 = .ok (.ifCond .ne 4, 3) := by decide +kernel
theorem dX9_watch_7 : decode cX9_watch 7 = .ok (.return_, 1) := by decide +kernel
theorem dX9_watch_8 : decode cX9_watch 8 = .ok (.aload_n 1, 1) := by decide +kernel
theorem dX9_watch_9 : decode cX9_watch 9 = .ok (.bipush 10, 2) := by decide +kernel
theorem dX9_watch_11 : decode cX9_watch 11 = .ok (.dup2, 1) := by decide +kernel
theorem dX9_watch_12 : decode cX9_watch 12 = .ok (.iaload, 1) := by decide +kernel
theorem dX9_watch_13 : decode cX9_watch 13 = .ok (.iconst 1, 1) := by decide +kernel
theorem dX9_watch_14 : decode cX9_watch 14 = .ok (.iadd, 1) := by decide +kernel
theorem dX9_watch_15 : decode cX9_watch 15 = .ok (.iastore, 1) := by decide +kernel
theorem dX9_watch_16 : decode cX9_watch 16 = .ok (.aload_n 1, 1) := by decide +kernel
theorem dX9_watch_17 : decode cX9_watch 17 = .ok (.bipush 9, 2) := by decide +kernel
theorem dX9_watch_19 : decode cX9_watch 19 = .ok (.aload_n 1, 1) := by decide +kernel
theorem dX9_watch_20 : decode cX9_watch 20 = .ok (.bipush 22, 2) := by decide +kernel
theorem dX9_watch_22 : decode cX9_watch 22 = .ok (.iaload, 1) := by decide +kernel
theorem dX9_watch_23 : decode cX9_watch 23 = .ok (.aload_n 1, 1) := by decide +kernel
theorem dX9_watch_24 : decode cX9_watch 24 = .ok (.iconst 3, 1) := by decide +kernel
theorem dX9_watch_25 : decode cX9_watch 25 = .ok (.iaload, 1) := by decide +kernel
theorem dX9_watch_26 : decode cX9_watch 26 = .ok (.if_icmp .lt 12, 3) := by decide +kernel
theorem dX9_watch_29 : decode cX9_watch 29 = .ok (.aload_n 1, 1) := by decide +kernel
theorem dX9_watch_30 : decode cX9_watch 30 = .ok (.bipush 9, 2) := by decide +kernel
theorem dX9_watch_32 : decode cX9_watch 32 = .ok (.iaload, 1) := by decide +kernel
theorem dX9_watch_33 : decode cX9_watch 33 = .ok (.iconst 1, 1) := by decide +kernel
theorem dX9_watch_34 : decode cX9_watch 34 = .ok (.iadd, 1) := by decide +kernel
theorem dX9_watch_35 : decode cX9_watch 35 = .ok (.goto 4, 3) := by decide +kernel
theorem dX9_watch_38 : decode cX9_watch 38 = .ok (.iconst 0, 1) := by decide +kernel
theorem dX9_watch_39 : decode cX9_watch 39 = .ok (.iastore, 1) := by decide +kernel
theorem dX9_watch_40 : decode cX9_watch 40 = .ok (.aload_n 1, 1) := by decide +kernel
theorem dX9_watch_41 : decode cX9_watch 41 = .ok (.bipush 9, 2) := by decide +kernel
theorem dX9_watch_43 : decode cX9_watch 43 = .ok (.iaload, 1) := by decide +kernel
theorem dX9_watch_44 : decode cX9_watch 44 = .ok (.aload_n 1, 1) := by decide +kernel
theorem dX9_watch_45 : decode cX9_watch 45 = .ok (.iconst 4, 1) := by decide +kernel
theorem dX9_watch_46 : decode cX9_watch 46 = .ok (.iaload, 1) := by decide +kernel
theorem dX9_watch_47 : decode cX9_watch 47 = .ok (.if_icmp .lt 7, 3) := by decide +kernel
theorem dX9_watch_50 : decode cX9_watch 50 = .ok (.iconst 1, 1) := by decide +kernel
theorem dX9_watch_51 : decode cX9_watch 51 = .ok (.goto 4, 3) := by decide +kernel
theorem dX9_watch_54 : decode cX9_watch 54 = .ok (.iconst 0, 1) := by decide +kernel
theorem dX9_watch_55 : decode cX9_watch 55 = .ok (.istore_n 2, 1) := by decide +kernel
theorem dX9_watch_56 : decode cX9_watch 56 = .ok (.iload_n 2, 1) := by decide +kernel
theorem dX9_watch_57 : decode cX9_watch 57 = .ok (.ifCond .ne 16, 3) := by decide +kernel
theorem dX9_watch_60 : decode cX9_watch 60 = .ok (.aload_n 1, 1) := by decide +kernel
theorem dX9_watch_61 : decode cX9_watch 61 = .ok (.bipush 10, 2) := by decide +kernel
theorem dX9_watch_63 : decode cX9_watch 63 = .ok (.iaload, 1) := by decide +kernel
theorem dX9_watch_64 : decode cX9_watch 64 = .ok (.bipush 12, 2) := by decide +kernel
theorem dX9_watch_66 : decode cX9_watch 66 = .ok (.if_icmp .ne 7, 3) := by decide +kernel
theorem dX9_watch_69 : decode cX9_watch 69 = .ok (.iconst 1, 1) := by decide +kernel
theorem dX9_watch_70 : decode cX9_watch 70 = .ok (.goto 4, 3) := by decide +kernel
theorem dX9_watch_73 : decode cX9_watch 73 = .ok (.iconst 0, 1) := by decide +kernel
theorem dX9_watch_74 : decode cX9_watch 74 = .ok (.istore_n 3, 1) := by decide +kernel
theorem dX9_watch_75 : decode cX9_watch 75 = .ok (.aload_n 1, 1) := by decide +kernel
theorem dX9_watch_76 : decode cX9_watch 76 = .ok (.bipush 11, 2) := by decide +kernel
theorem dX9_watch_78 : decode cX9_watch 78 = .ok (.dup2, 1) := by decide +kernel
theorem dX9_watch_79 : decode cX9_watch 79 = .ok (.iaload, 1) := by decide +kernel
theorem dX9_watch_80 : decode cX9_watch 80 = .ok (.iload_n 2, 1) := by decide +kernel
theorem dX9_watch_81 : decode cX9_watch 81 = .ok (.ifCond .eq 7, 3) := by decide +kernel
theorem dX9_watch_84 : decode cX9_watch 84 = .ok (.iconst 1, 1) := by decide +kernel
theorem dX9_watch_85 : decode cX9_watch 85 = .ok (.goto 4, 3) := by decide +kernel
theorem dX9_watch_88 : decode cX9_watch 88 = .ok (.iconst 0, 1) := by decide +kernel
theorem dX9_watch_89 : decode cX9_watch 89 = .ok (.iadd, 1) := by decide +kernel
theorem dX9_watch_90 : decode cX9_watch 90 = .ok (.iastore, 1) := by decide +kernel
theorem dX9_watch_91 : decode cX9_watch 91 = .ok (.aload_n 1, 1) := by decide +kernel
theorem dX9_watch_92 : decode cX9_watch 92 = .ok (.bipush 12, 2) := by decide +kernel
theorem dX9_watch_94 : decode cX9_watch 94 = .ok (.dup2, 1) := by decide +kernel
theorem dX9_watch_95 : decode cX9_watch 95 = .ok (.iaload, 1) := by decide +kernel
theorem dX9_watch_96 : decode cX9_watch 96 = .ok (.iload_n 3, 1) := by decide +kernel
theorem dX9_watch_97 : decode cX9_watch 97 = .ok (.ifCond .eq 7, 3) := by decide +kernel
theorem dX9_watch_100 : decode cX9_watch 100 = .ok (.iconst 1, 1) := by decide +kernel
theorem dX9_watch_101 : decode cX9_watch 101 = .ok (.goto 4, 3) := by decide +kernel
theorem dX9_watch_104 : decode cX9_watch 104 = .ok (.iconst 0, 1) := by decide +kernel
theorem dX9_watch_105 : decode cX9_watch 105 = .ok (.iadd, 1) := by decide +kernel
theorem dX9_watch_106 : decode cX9_watch 106 = .ok (.iastore, 1) := by decide +kernel
theorem dX9_watch_107 : decode cX9_watch 107 = .ok (.iload_n 2, 1) := by decide +kernel
theorem dX9_watch_108 : decode cX9_watch 108 = .ok (.ifCond .ne 7, 3) := by decide +kernel
theorem dX9_watch_111 : decode cX9_watch 111 = .ok (.iload_n 3, 1) := by decide +kernel
theorem dX9_watch_112 : decode cX9_watch 112 = .ok (.ifCond .eq 18, 3) := by decide +kernel
theorem dX9_watch_115 : decode cX9_watch 115 = .ok (.aload_n 1, 1) := by decide +kernel
theorem dX9_watch_116 : decode cX9_watch 116 = .ok (.bipush 8, 2) := by decide +kernel
theorem dX9_watch_118 : decode cX9_watch 118 = .ok (.iconst 0, 1) := by decide +kernel
theorem dX9_watch_119 : decode cX9_watch 119 = .ok (.iastore, 1) := by decide +kernel
theorem dX9_watch_120 : decode cX9_watch 120 = .ok (.aload_n 1, 1) := by decide +kernel
theorem dX9_watch_121 : decode cX9_watch 121 = .ok (.bipush 9, 2) := by decide +kernel
theorem dX9_watch_123 : decode cX9_watch 123 = .ok (.iconst 0, 1) := by decide +kernel
theorem dX9_watch_124 : decode cX9_watch 124 = .ok (.iastore, 1) := by decide +kernel
theorem dX9_watch_125 : decode cX9_watch 125 = .ok (.aload_n 1, 1) := by decide +kernel
theorem dX9_watch_126 : decode cX9_watch 126 = .ok (.bipush 10, 2) := by decide +kernel
theorem dX9_watch_128 : decode cX9_watch 128 = .ok (.iconst 0, 1) := by decide +kernel
theorem dX9_watch_129 : decode cX9_watch 129 = .ok (.iastore, 1) := by decide +kernel
theorem dX9_watch_130 : decode cX9_watch 130 = .ok (.return_, 1) := by decide +kernel
theorem dX9_tickOn_0 : decode cX9_tickOn 0 = .ok (.aload_n 0, 1) := by decide +kernel
theorem dX9_tickOn_1 : decode cX9_tickOn 1 = .ok (.aload_n 1, 1) := by decide +kernel
theorem dX9_tickOn_2 : decode cX9_tickOn 2 = .ok (.iload_n 2, 1) := by decide +kernel
theorem dX9_tickOn_3 : decode cX9_tickOn 3 = .ok (.invokevirtual 104, 3) := by decide +kernel
theorem dX9_tickOn_6 : decode cX9_tickOn 6 = .ok (.pop, 1) := by decide +kernel
theorem dX9_tickOn_7 : decode cX9_tickOn 7 = .ok (.aload_n 1, 1) := by decide +kernel
theorem dX9_tickOn_8 : decode cX9_tickOn 8 = .ok (.bipush 6, 2) := by decide +kernel
theorem dX9_tickOn_10 : decode cX9_tickOn 10 = .ok (.iaload, 1) := by decide +kernel
theorem dX9_tickOn_11 : decode cX9_tickOn 11 = .ok (.bipush 24, 2) := by decide +kernel
theorem dX9_tickOn_13 : decode cX9_tickOn 13 = .ok (.irem, 1) := by decide +kernel
theorem dX9_tickOn_14 : decode cX9_tickOn 14 = .ok (.aload_n 1, 1) := by decide +kernel
theorem dX9_tickOn_15 : decode cX9_tickOn 15 = .ok (.iconst 5, 1) := by decide +kernel
theorem dX9_tickOn_16 : decode cX9_tickOn 16 = .ok (.iaload, 1) := by decide +kernel
theorem dX9_tickOn_17 : decode cX9_tickOn 17 = .ok (.if_icmp .ne 8, 3) := by decide +kernel
theorem dX9_tickOn_20 : decode cX9_tickOn 20 = .ok (.aload_n 1, 1) := by decide +kernel
theorem dX9_tickOn_21 : decode cX9_tickOn 21 = .ok (.bipush 8, 2) := by decide +kernel
theorem dX9_tickOn_23 : decode cX9_tickOn 23 = .ok (.iconst 1, 1) := by decide +kernel
theorem dX9_tickOn_24 : decode cX9_tickOn 24 = .ok (.iastore, 1) := by decide +kernel
theorem dX9_tickOn_25 : decode cX9_tickOn 25 = .ok (.aload_n 0, 1) := by decide +kernel
theorem dX9_tickOn_26 : decode cX9_tickOn 26 = .ok (.aload_n 1, 1) := by decide +kernel
theorem dX9_tickOn_27 : decode cX9_tickOn 27 = .ok (.invokevirtual 107, 3) := by decide +kernel
theorem dX9_tickOn_30 : decode cX9_tickOn 30 = .ok (.iconst 0, 1) := by decide +kernel
theorem dX9_tickOn_31 : decode cX9_tickOn 31 = .ok (.istore_n 3, 1) := by decide +kernel
theorem dX9_tickOn_32 : decode cX9_tickOn 32 = .ok (.iload_n 3, 1) := by decide +kernel
theorem dX9_tickOn_33 : decode cX9_tickOn 33 = .ok (.aload_n 0, 1) := by decide +kernel
theorem dX9_tickOn_34 : decode cX9_tickOn 34 = .ok (.getfield 13, 3) := by decide +kernel
theorem dX9_tickOn_37 : decode cX9_tickOn 37 = .ok (.if_icmp .ge 15, 3) := by decide +kernel
theorem dX9_tickOn_40 : decode cX9_tickOn 40 = .ok (.aload_n 0, 1) := by decide +kernel
theorem dX9_tickOn_41 : decode cX9_tickOn 41 = .ok (.aload_n 1, 1) := by decide +kernel
theorem dX9_tickOn_42 : decode cX9_tickOn 42 = .ok (.iload_n 3, 1) := by decide +kernel
theorem dX9_tickOn_43 : decode cX9_tickOn 43 = .ok (.invokevirtual 110, 3) := by decide +kernel
theorem dX9_tickOn_46 : decode cX9_tickOn 46 = .ok (.iinc 3 1, 3) := by decide +kernel
theorem dX9_tickOn_49 : decode cX9_tickOn 49 = .ok (.goto (-17), 3) := by decide +kernel
theorem dX9_tickOn_52 : decode cX9_tickOn 52 = .ok (.aload_n 0, 1) := by decide +kernel
theorem dX9_tickOn_53 : decode cX9_tickOn 53 = .ok (.aload_n 1, 1) := by decide +kernel
theorem dX9_tickOn_54 : decode cX9_tickOn 54 = .ok (.invokevirtual 113, 3) := by decide +kernel
theorem dX9_tickOn_57 : decode cX9_tickOn 57 = .ok (.aload_n 0, 1) := by decide +kernel
theorem dX9_tickOn_58 : decode cX9_tickOn 58 = .ok (.aload_n 1, 1) := by decide +kernel
theorem dX9_tickOn_59 : decode cX9_tickOn 59 = .ok (.invokevirtual 116, 3) := by decide +kernel
theorem dX9_tickOn_62 : decode cX9_tickOn 62 = .ok (.aload_n 1, 1) := by decide +kernel
theorem dX9_tickOn_63 : decode cX9_tickOn 63 = .ok (.bipush 6, 2) := by decide +kernel
theorem dX9_tickOn_65 : decode cX9_tickOn 65 = .ok (.dup2, 1) := by decide +kernel
theorem dX9_tickOn_66 : decode cX9_tickOn 66 = .ok (.iaload, 1) := by decide +kernel
theorem dX9_tickOn_67 : decode cX9_tickOn 67 = .ok (.iconst 1, 1) := by decide +kernel
theorem dX9_tickOn_68 : decode cX9_tickOn 68 = .ok (.iadd, 1) := by decide +kernel
theorem dX9_tickOn_69 : decode cX9_tickOn 69 = .ok (.iastore, 1) := by decide +kernel
theorem dX9_tickOn_70 : decode cX9_tickOn 70 = .ok (.return_, 1) := by decide +kernel
theorem dX9_ticksOn_0 : decode cX9_ticksOn 0 = .ok (.iconst 0, 1) := by decide +kernel
theorem dX9_ticksOn_1 : decode cX9_ticksOn 1 = .ok (.istore 4, 2) := by decide +kernel
theorem dX9_ticksOn_3 : decode cX9_ticksOn 3 = .ok (.iload 4, 2) := by decide +kernel
theorem dX9_ticksOn_5 : decode cX9_ticksOn 5 = .ok (.iload_n 2, 1) := by decide +kernel
theorem dX9_ticksOn_6 : decode cX9_ticksOn 6 = .ok (.if_icmp .ge 15, 3) := by decide +kernel
theorem dX9_ticksOn_9 : decode cX9_ticksOn 9 = .ok (.aload_n 0, 1) := by decide +kernel
theorem dX9_ticksOn_10 : decode cX9_ticksOn 10 = .ok (.aload_n 1, 1) := by decide +kernel
theorem dX9_ticksOn_11 : decode cX9_ticksOn 11 = .ok (.iload_n 3, 1) := by decide +kernel
theorem dX9_ticksOn_12 : decode cX9_ticksOn 12 = .ok (.invokevirtual 119, 3) := by decide +kernel
theorem dX9_ticksOn_15 : decode cX9_ticksOn 15 = .ok (.iinc 4 1, 3) := by decide +kernel
theorem dX9_ticksOn_18 : decode cX9_ticksOn 18 = .ok (.goto (-15), 3) := by decide +kernel
theorem dX9_ticksOn_21 : decode cX9_ticksOn 21 = .ok (.return_, 1) := by decide +kernel
theorem dX9_flueOn_0 : decode cX9_flueOn 0 = .ok (.aload_n 1, 1) := by decide +kernel
theorem dX9_flueOn_1 : decode cX9_flueOn 1 = .ok (.bipush 20, 2) := by decide +kernel
theorem dX9_flueOn_3 : decode cX9_flueOn 3 = .ok (.iload_n 2, 1) := by decide +kernel
theorem dX9_flueOn_4 : decode cX9_flueOn 4 = .ok (.iadd, 1) := by decide +kernel
theorem dX9_flueOn_5 : decode cX9_flueOn 5 = .ok (.iload_n 3, 1) := by decide +kernel
theorem dX9_flueOn_6 : decode cX9_flueOn 6 = .ok (.ifCond .eq 7, 3) := by decide +kernel
theorem dX9_flueOn_9 : decode cX9_flueOn 9 = .ok (.iconst 1, 1) := by decide +kernel
theorem dX9_flueOn_10 : decode cX9_flueOn 10 = .ok (.goto 4, 3) := by decide +kernel
theorem dX9_flueOn_13 : decode cX9_flueOn 13 = .ok (.iconst 0, 1) := by decide +kernel
theorem dX9_flueOn_14 : decode cX9_flueOn 14 = .ok (.iastore, 1) := by decide +kernel
theorem dX9_flueOn_15 : decode cX9_flueOn 15 = .ok (.iconst 0, 1) := by decide +kernel
theorem dX9_flueOn_16 : decode cX9_flueOn 16 = .ok (.istore 4, 2) := by decide +kernel
theorem dX9_flueOn_18 : decode cX9_flueOn 18 = .ok (.iconst 0, 1) := by decide +kernel
theorem dX9_flueOn_19 : decode cX9_flueOn 19 = .ok (.istore 5, 2) := by decide +kernel
theorem dX9_flueOn_21 : decode cX9_flueOn 21 = .ok (.iload 5, 2) := by decide +kernel
theorem dX9_flueOn_23 : decode cX9_flueOn 23 = .ok (.aload_n 0, 1) := by decide +kernel
theorem dX9_flueOn_24 : decode cX9_flueOn 24 = .ok (.getfield 13, 3) := by decide +kernel
theorem dX9_flueOn_27 : decode cX9_flueOn 27 = .ok (.if_icmp .ge 74, 3) := by decide +kernel
theorem dX9_flueOn_30 : decode cX9_flueOn 30 = .ok (.iload_n 3, 1) := by decide +kernel
theorem dX9_flueOn_31 : decode cX9_flueOn 31 = .ok (.ifCond .ne 70, 3) := by decide +kernel
theorem dX9_flueOn_34 : decode cX9_flueOn 34 = .ok (.aload_n 1, 1) := by decide +kernel
theorem dX9_flueOn_35 : decode cX9_flueOn 35 = .ok (.iload 5, 2) := by decide +kernel
theorem dX9_flueOn_37 : decode cX9_flueOn 37 = .ok (.invokestatic 68, 3) := by decide +kernel
theorem dX9_flueOn_40 : decode cX9_flueOn 40 = .ok (.iconst 2, 1) := by decide +kernel
theorem dX9_flueOn_41 : decode cX9_flueOn 41 = .ok (.iadd, 1) := by decide +kernel
theorem dX9_flueOn_42 : decode cX9_flueOn 42 = .ok (.iaload, 1) := by decide +kernel
theorem dX9_flueOn_43 : decode cX9_flueOn 43 = .ok (.istore 6, 2) := by decide +kernel
theorem dX9_flueOn_45 : decode cX9_flueOn 45 = .ok (.aload_n 1, 1) := by decide +kernel
theorem dX9_flueOn_46 : decode cX9_flueOn 46 = .ok (.iload 5, 2) := by decide +kernel
theorem dX9_flueOn_48 : decode cX9_flueOn 48 = .ok (.invokestatic 68, 3) := by decide +kernel
theorem dX9_flueOn_51 : decode cX9_flueOn 51 = .ok (.iconst 1, 1) := by decide +kernel
theorem dX9_flueOn_52 : decode cX9_flueOn 52 = .ok (.iadd, 1) := by decide +kernel
theorem dX9_flueOn_53 : decode cX9_flueOn 53 = .ok (.iaload, 1) := by decide +kernel
theorem dX9_flueOn_54 : decode cX9_flueOn 54 = .ok (.iload_n 2, 1) := by decide +kernel
theorem dX9_flueOn_55 : decode cX9_flueOn 55 = .ok (.if_icmp .ne 40, 3) := by decide +kernel
theorem dX9_flueOn_58 : decode cX9_flueOn 58 = .ok (.iload 6, 2) := by decide +kernel
theorem dX9_flueOn_60 : decode cX9_flueOn 60 = .ok (.invokestatic 72, 3) := by decide +kernel
theorem dX9_flueOn_63 : decode cX9_flueOn 63 = .ok (.ifCond .ne 9, 3) := by decide +kernel
theorem dX9_flueOn_66 : decode cX9_flueOn 66 = .ok (.iload 6, 2) := by decide +kernel
theorem dX9_flueOn_68 : decode cX9_flueOn 68 = .ok (.iconst 3, 1) := by decide +kernel
theorem dX9_flueOn_69 : decode cX9_flueOn 69 = .ok (.if_icmp .ne 26, 3) := by decide +kernel
theorem dX9_flueOn_72 : decode cX9_flueOn 72 = .ok (.aload_n 1, 1) := by decide +kernel
theorem dX9_flueOn_73 : decode cX9_flueOn 73 = .ok (.iload 5, 2) := by decide +kernel
theorem dX9_flueOn_75 : decode cX9_flueOn 75 = .ok (.invokestatic 68, 3) := by decide +kernel
theorem dX9_flueOn_78 : decode cX9_flueOn 78 = .ok (.iconst 2, 1) := by decide +kernel
theorem dX9_flueOn_79 : decode cX9_flueOn 79 = .ok (.iadd, 1) := by decide +kernel
theorem dX9_flueOn_80 : decode cX9_flueOn 80 = .ok (.iconst 0, 1) := by decide +kernel
theorem dX9_flueOn_81 : decode cX9_flueOn 81 = .ok (.iastore, 1) := by decide +kernel
theorem dX9_flueOn_82 : decode cX9_flueOn 82 = .ok (.aload_n 1, 1) := by decide +kernel
theorem dX9_flueOn_83 : decode cX9_flueOn 83 = .ok (.iload 5, 2) := by decide +kernel
theorem dX9_flueOn_85 : decode cX9_flueOn 85 = .ok (.invokestatic 68, 3) := by decide +kernel
theorem dX9_flueOn_88 : decode cX9_flueOn 88 = .ok (.iconst 3, 1) := by decide +kernel
theorem dX9_flueOn_89 : decode cX9_flueOn 89 = .ok (.iadd, 1) := by decide +kernel
theorem dX9_flueOn_90 : decode cX9_flueOn 90 = .ok (.iconst 0, 1) := by decide +kernel
theorem dX9_flueOn_91 : decode cX9_flueOn 91 = .ok (.iastore, 1) := by decide +kernel
theorem dX9_flueOn_92 : decode cX9_flueOn 92 = .ok (.iinc 4 1, 3) := by decide +kernel
theorem dX9_flueOn_95 : decode cX9_flueOn 95 = .ok (.iinc 5 1, 3) := by decide +kernel
theorem dX9_flueOn_98 : decode cX9_flueOn 98 = .ok (.goto (-77), 3) := by decide +kernel
theorem dX9_flueOn_101 : decode cX9_flueOn 101 = .ok (.iload 4, 2) := by decide +kernel
theorem dX9_flueOn_103 : decode cX9_flueOn 103 = .ok (.ireturn, 1) := by decide +kernel
theorem dX9_put_0 : decode cX9_put 0 = .ok (.aload_n 0, 1) := by decide +kernel
theorem dX9_put_1 : decode cX9_put 1 = .ok (.iload_n 1, 1) := by decide +kernel
theorem dX9_put_2 : decode cX9_put 2 = .ok (.invokestatic 68, 3) := by decide +kernel
theorem dX9_put_5 : decode cX9_put 5 = .ok (.iconst 2, 1) := by decide +kernel
theorem dX9_put_6 : decode cX9_put 6 = .ok (.iadd, 1) := by decide +kernel
theorem dX9_put_7 : decode cX9_put 7 = .ok (.iload_n 2, 1) := by decide +kernel
theorem dX9_put_8 : decode cX9_put 8 = .ok (.iastore, 1) := by decide +kernel
theorem dX9_put_9 : decode cX9_put 9 = .ok (.aload_n 0, 1) := by decide +kernel
theorem dX9_put_10 : decode cX9_put 10 = .ok (.iload_n 1, 1) := by decide +kernel
theorem dX9_put_11 : decode cX9_put 11 = .ok (.invokestatic 68, 3) := by decide +kernel
theorem dX9_put_14 : decode cX9_put 14 = .ok (.iconst 3, 1) := by decide +kernel
theorem dX9_put_15 : decode cX9_put 15 = .ok (.iadd, 1) := by decide +kernel
theorem dX9_put_16 : decode cX9_put 16 = .ok (.iconst 0, 1) := by decide +kernel
theorem dX9_put_17 : decode cX9_put 17 = .ok (.iastore, 1) := by decide +kernel
theorem dX9_put_18 : decode cX9_put 18 = .ok (.return_, 1) := by decide +kernel
theorem dX9_append_0 : decode cX9_append 0 = .ok (.aload_n 0, 1) := by decide +kernel
theorem dX9_append_1 : decode cX9_append 1 = .ok (.iload_n 1, 1) := by decide +kernel
theorem dX9_append_2 : decode cX9_append 2 = .ok (.i2l, 1) := by decide +kernel
theorem dX9_append_3 : decode cX9_append 3 = .ok (.lconst 0, 1) := by decide +kernel
theorem dX9_append_4 : decode cX9_append 4 = .ok (.ldc2_w 122, 3) := by decide +kernel
theorem dX9_append_7 : decode cX9_append 7 = .ok (.invokestatic 50, 3) := by decide +kernel
theorem dX9_append_10 : decode cX9_append 10 = .ok (.ifCond .ne 7, 3) := by decide +kernel
theorem dX9_append_13 : decode cX9_append 13 = .ok (.iconst 1, 1) := by decide +kernel
theorem dX9_append_14 : decode cX9_append 14 = .ok (.goto 17, 3) := by decide +kernel
theorem dX9_append_17 : decode cX9_append 17 = .ok (.aload_n 0, 1) := by decide +kernel
theorem dX9_append_18 : decode cX9_append 18 = .ok (.getfield 124, 3) := by decide +kernel
theorem dX9_append_21 : decode cX9_append 21 = .ok (.bipush 60, 2) := by decide +kernel
theorem dX9_append_23 : decode cX9_append 23 = .ok (.if_icmp .ne 7, 3) := by decide +kernel
theorem dX9_append_26 : decode cX9_append 26 = .ok (.iconst 2, 1) := by decide +kernel
theorem dX9_append_27 : decode cX9_append 27 = .ok (.goto 4, 3) := by decide +kernel
theorem dX9_append_30 : decode cX9_append 30 = .ok (.iconst 0, 1) := by decide +kernel
theorem dX9_append_31 : decode cX9_append 31 = .ok (.invokevirtual 127, 3) := by decide +kernel
theorem dX9_append_34 : decode cX9_append 34 = .ok (.ifCond .eq 5, 3) := by decide +kernel
theorem dX9_append_37 : decode cX9_append 37 = .ok (.iconst 0, 1) := by decide +kernel
theorem dX9_append_38 : decode cX9_append 38 = .ok (.ireturn, 1) := by decide +kernel
theorem dX9_append_39 : decode cX9_append 39 = .ok (.aload_n 0, 1) := by decide +kernel
theorem dX9_append_40 : decode cX9_append 40 = .ok (.getfield 7, 3) := by decide +kernel
theorem dX9_append_43 : decode cX9_append 43 = .ok (.aload_n 0, 1) := by decide +kernel
theorem dX9_append_44 : decode cX9_append 44 = .ok (.getfield 124, 3) := by decide +kernel
theorem dX9_append_47 : decode cX9_append 47 = .ok (.iload_n 1, 1) := by decide +kernel
theorem dX9_append_48 : decode cX9_append 48 = .ok (.iastore, 1) := by decide +kernel
theorem dX9_append_49 : decode cX9_append 49 = .ok (.aload_n 0, 1) := by decide +kernel
theorem dX9_append_50 : decode cX9_append 50 = .ok (.dup, 1) := by decide +kernel
theorem dX9_append_51 : decode cX9_append 51 = .ok (.getfield 124, 3) := by decide +kernel
theorem dX9_append_54 : decode cX9_append 54 = .ok (.iconst 1, 1) := by decide +kernel
theorem dX9_append_55 : decode cX9_append 55 = .ok (.iadd, 1) := by decide +kernel
theorem dX9_append_56 : decode cX9_append 56 = .ok (.putfield 124, 3) := by decide +kernel
theorem dX9_append_59 : decode cX9_append 59 = .ok (.aload_n 0, 1) := by decide +kernel
theorem dX9_append_60 : decode cX9_append 60 = .ok (.getfield 124, 3) := by decide +kernel
theorem dX9_append_63 : decode cX9_append 63 = .ok (.ireturn, 1) := by decide +kernel
theorem dX9_clearText_0 : decode cX9_clearText 0 = .ok (.aload_n 0, 1) := by decide +kernel
theorem dX9_clearText_1 : decode cX9_clearText 1 = .ok (.iconst 0, 1) := by decide +kernel
theorem dX9_clearText_2 : decode cX9_clearText 2 = .ok (.putfield 43, 3) := by decide +kernel
theorem dX9_clearText_5 : decode cX9_clearText 5 = .ok (.aload_n 0, 1) := by decide +kernel
theorem dX9_clearText_6 : decode cX9_clearText 6 = .ok (.getfield 124, 3) := by decide +kernel
theorem dX9_clearText_9 : decode cX9_clearText 9 = .ok (.istore_n 1, 1) := by decide +kernel
theorem dX9_clearText_10 : decode cX9_clearText 10 = .ok (.aload_n 0, 1) := by decide +kernel
theorem dX9_clearText_11 : decode cX9_clearText 11 = .ok (.iconst 0, 1) := by decide +kernel
theorem dX9_clearText_12 : decode cX9_clearText 12 = .ok (.putfield 124, 3) := by decide +kernel
theorem dX9_clearText_15 : decode cX9_clearText 15 = .ok (.iload_n 1, 1) := by decide +kernel
theorem dX9_clearText_16 : decode cX9_clearText 16 = .ok (.ireturn, 1) := by decide +kernel
theorem dX9_eat_0 : decode cX9_eat 0 = .ok (.aload_n 0, 1) := by decide +kernel
theorem dX9_eat_1 : decode cX9_eat 1 = .ok (.getfield 130, 3) := by decide +kernel
theorem dX9_eat_4 : decode cX9_eat 4 = .ok (.aload_n 0, 1) := by decide +kernel
theorem dX9_eat_5 : decode cX9_eat 5 = .ok (.getfield 124, 3) := by decide +kernel
theorem dX9_eat_8 : decode cX9_eat 8 = .ok (.if_icmp .ge 20, 3) := by decide +kernel
theorem dX9_eat_11 : decode cX9_eat 11 = .ok (.aload_n 0, 1) := by decide +kernel
theorem dX9_eat_12 : decode cX9_eat 12 = .ok (.getfield 7, 3) := by decide +kernel
theorem dX9_eat_15 : decode cX9_eat 15 = .ok (.aload_n 0, 1) := by decide +kernel
theorem dX9_eat_16 : decode cX9_eat 16 = .ok (.getfield 130, 3) := by decide +kernel
theorem dX9_eat_19 : decode cX9_eat 19 = .ok (.iaload, 1) := by decide +kernel
theorem dX9_eat_20 : decode cX9_eat 20 = .ok (.iload_n 1, 1) := by decide +kernel
theorem dX9_eat_21 : decode cX9_eat 21 = .ok (.if_icmp .ne 7, 3) := by decide +kernel
theorem dX9_eat_24 : decode cX9_eat 24 = .ok (.iconst 1, 1) := by decide +kernel
theorem dX9_eat_25 : decode cX9_eat 25 = .ok (.goto 4, 3) := by decide +kernel
theorem dX9_eat_28 : decode cX9_eat 28 = .ok (.iconst 0, 1) := by decide +kernel
theorem dX9_eat_29 : decode cX9_eat 29 = .ok (.istore_n 2, 1) := by decide +kernel
theorem dX9_eat_30 : decode cX9_eat 30 = .ok (.aload_n 0, 1) := by decide +kernel
theorem dX9_eat_31 : decode cX9_eat 31 = .ok (.dup, 1) := by decide +kernel
theorem dX9_eat_32 : decode cX9_eat 32 = .ok (.getfield 130, 3) := by decide +kernel
theorem dX9_eat_35 : decode cX9_eat 35 = .ok (.iload_n 2, 1) := by decide +kernel
theorem dX9_eat_36 : decode cX9_eat 36 = .ok (.ifCond .eq 7, 3) := by decide +kernel
theorem dX9_eat_39 : decode cX9_eat 39 = .ok (.iconst 1, 1) := by decide +kernel
theorem dX9_eat_40 : decode cX9_eat 40 = .ok (.goto 4, 3) := by decide +kernel
theorem dX9_eat_43 : decode cX9_eat 43 = .ok (.iconst 0, 1) := by decide +kernel
theorem dX9_eat_44 : decode cX9_eat 44 = .ok (.iadd, 1) := by decide +kernel
theorem dX9_eat_45 : decode cX9_eat 45 = .ok (.putfield 130, 3) := by decide +kernel
theorem dX9_eat_48 : decode cX9_eat 48 = .ok (.iload_n 2, 1) := by decide +kernel
theorem dX9_eat_49 : decode cX9_eat 49 = .ok (.ireturn, 1) := by decide +kernel
theorem dX9_digit_0 : decode cX9_digit 0 = .ok (.aload_n 0, 1) := by decide +kernel
theorem dX9_digit_1 : decode cX9_digit 1 = .ok (.getfield 130, 3) := by decide +kernel
theorem dX9_digit_4 : decode cX9_digit 4 = .ok (.aload_n 0, 1) := by decide +kernel
theorem dX9_digit_5 : decode cX9_digit 5 = .ok (.getfield 124, 3) := by decide +kernel
theorem dX9_digit_8 : decode cX9_digit 8 = .ok (.if_icmp .ge 18, 3) := by decide +kernel
theorem dX9_digit_11 : decode cX9_digit 11 = .ok (.aload_n 0, 1) := by decide +kernel
theorem dX9_digit_12 : decode cX9_digit 12 = .ok (.getfield 7, 3) := by decide +kernel
theorem dX9_digit_15 : decode cX9_digit 15 = .ok (.aload_n 0, 1) := by decide +kernel
theorem dX9_digit_16 : decode cX9_digit 16 = .ok (.getfield 130, 3) := by decide +kernel
theorem dX9_digit_19 : decode cX9_digit 19 = .ok (.iaload, 1) := by decide +kernel
theorem dX9_digit_20 : decode cX9_digit 20 = .ok (.bipush 48, 2) := by decide +kernel
theorem dX9_digit_22 : decode cX9_digit 22 = .ok (.isub, 1) := by decide +kernel
theorem dX9_digit_23 : decode cX9_digit 23 = .ok (.goto 5, 3) := by decide +kernel
theorem dX9_digit_26 : decode cX9_digit 26 = .ok (.bipush (-9), 2) := by decide +kernel
theorem dX9_digit_28 : decode cX9_digit 28 = .ok (.istore_n 3, 1) := by decide +kernel
theorem dX9_digit_29 : decode cX9_digit 29 = .ok (.iload_n 3, 1) := by decide +kernel
theorem dX9_digit_30 : decode cX9_digit 30 = .ok (.i2l, 1) := by decide +kernel
theorem dX9_digit_31 : decode cX9_digit 31 = .ok (.iload_n 1, 1) := by decide +kernel
theorem dX9_digit_32 : decode cX9_digit 32 = .ok (.i2l, 1) := by decide +kernel
theorem dX9_digit_33 : decode cX9_digit 33 = .ok (.iload_n 2, 1) := by decide +kernel
theorem dX9_digit_34 : decode cX9_digit 34 = .ok (.i2l, 1) := by decide +kernel
theorem dX9_digit_35 : decode cX9_digit 35 = .ok (.invokestatic 50, 3) := by decide +kernel
theorem dX9_digit_38 : decode cX9_digit 38 = .ok (.istore 4, 2) := by decide +kernel
theorem dX9_digit_40 : decode cX9_digit 40 = .ok (.aload_n 0, 1) := by decide +kernel
theorem dX9_digit_41 : decode cX9_digit 41 = .ok (.dup, 1) := by decide +kernel
theorem dX9_digit_42 : decode cX9_digit 42 = .ok (.getfield 130, 3) := by decide +kernel
theorem dX9_digit_45 : decode cX9_digit 45 = .ok (.iload 4, 2) := by decide +kernel
theorem dX9_digit_47 : decode cX9_digit 47 = .ok (.ifCond .eq 7, 3) := by decide +kernel
theorem dX9_digit_50 : decode cX9_digit 50 = .ok (.iconst 1, 1) := by decide +kernel
theorem dX9_digit_51 : decode cX9_digit 51 = .ok (.goto 4, 3) := by decide +kernel
theorem dX9_digit_54 : decode cX9_digit 54 = .ok (.iconst 0, 1) := by decide +kernel
theorem dX9_digit_55 : decode cX9_digit 55 = .ok (.iadd, 1) := by decide +kernel
theorem dX9_digit_56 : decode cX9_digit 56 = .ok (.putfield 130, 3) := by decide +kernel
theorem dX9_digit_59 : decode cX9_digit 59 = .ok (.iload 4, 2) := by decide +kernel
theorem dX9_digit_61 : decode cX9_digit 61 = .ok (.ifCond .eq 7, 3) := by decide +kernel
theorem dX9_digit_64 : decode cX9_digit 64 = .ok (.iload_n 3, 1) := by decide +kernel
theorem dX9_digit_65 : decode cX9_digit 65 = .ok (.goto 5, 3) := by decide +kernel
theorem dX9_digit_68 : decode cX9_digit 68 = .ok (.bipush (-9), 2) := by decide +kernel
theorem dX9_digit_70 : decode cX9_digit 70 = .ok (.ireturn, 1) := by decide +kernel
theorem dX9_two_0 : decode cX9_two 0 = .ok (.aload_n 0, 1) := by decide +kernel
theorem dX9_two_1 : decode cX9_two 1 = .ok (.iload_n 1, 1) := by decide +kernel
theorem dX9_two_2 : decode cX9_two 2 = .ok (.bipush 10, 2) := by decide +kernel
theorem dX9_two_4 : decode cX9_two 4 = .ok (.idiv, 1) := by decide +kernel
theorem dX9_two_5 : decode cX9_two 5 = .ok (.iload_n 2, 1) := by decide +kernel
theorem dX9_two_6 : decode cX9_two 6 = .ok (.bipush 10, 2) := by decide +kernel
theorem dX9_two_8 : decode cX9_two 8 = .ok (.idiv, 1) := by decide +kernel
theorem dX9_two_9 : decode cX9_two 9 = .ok (.invokevirtual 133, 3) := by decide +kernel
theorem dX9_two_12 : decode cX9_two 12 = .ok (.istore_n 3, 1) := by decide +kernel
theorem dX9_two_13 : decode cX9_two 13 = .ok (.iload_n 3, 1) := by decide +kernel
theorem dX9_two_14 : decode cX9_two 14 = .ok (.bipush (-9), 2) := by decide +kernel
theorem dX9_two_16 : decode cX9_two 16 = .ok (.if_icmp .ne 6, 3) := by decide +kernel
theorem dX9_two_19 : decode cX9_two 19 = .ok (.bipush (-9), 2) := by decide +kernel
theorem dX9_two_21 : decode cX9_two 21 = .ok (.ireturn, 1) := by decide +kernel
theorem dX9_two_22 : decode cX9_two 22 = .ok (.aload_n 0, 1) := by decide +kernel
theorem dX9_two_23 : decode cX9_two 23 = .ok (.iload_n 3, 1) := by decide +kernel
theorem dX9_two_24 : decode cX9_two 24 = .ok (.iload_n 1, 1) := by decide +kernel
theorem dX9_two_25 : decode cX9_two 25 = .ok (.bipush 10, 2) := by decide +kernel
theorem dX9_two_27 : decode cX9_two 27 = .ok (.idiv, 1) := by decide +kernel
theorem dX9_two_28 : decode cX9_two 28 = .ok (.if_icmp .ne 10, 3) := by decide +kernel
theorem dX9_two_31 : decode cX9_two 31 = .ok (.iload_n 1, 1) := by decide +kernel
theorem dX9_two_32 : decode cX9_two 32 = .ok (.bipush 10, 2) := by decide +kernel
theorem dX9_two_34 : decode cX9_two 34 = .ok (.irem, 1) := by decide +kernel
theorem dX9_two_35 : decode cX9_two 35 = .ok (.goto 4, 3) := by decide +kernel
theorem dX9_two_38 : decode cX9_two 38 = .ok (.iconst 0, 1) := by decide +kernel
theorem dX9_two_39 : decode cX9_two 39 = .ok (.iload_n 3, 1) := by decide +kernel
theorem dX9_two_40 : decode cX9_two 40 = .ok (.iload_n 2, 1) := by decide +kernel
theorem dX9_two_41 : decode cX9_two 41 = .ok (.bipush 10, 2) := by decide +kernel
theorem dX9_two_43 : decode cX9_two 43 = .ok (.idiv, 1) := by decide +kernel
theorem dX9_two_44 : decode cX9_two 44 = .ok (.if_icmp .ne 10, 3) := by decide +kernel
theorem dX9_two_47 : decode cX9_two 47 = .ok (.iload_n 2, 1) := by decide +kernel
theorem dX9_two_48 : decode cX9_two 48 = .ok (.bipush 10, 2) := by decide +kernel
theorem dX9_two_50 : decode cX9_two 50 = .ok (.irem, 1) := by decide +kernel
theorem dX9_two_51 : decode cX9_two 51 = .ok (.goto 5, 3) := by decide +kernel
theorem dX9_two_54 : decode cX9_two 54 = .ok (.bipush 9, 2) := by decide +kernel
theorem dX9_two_56 : decode cX9_two 56 = .ok (.invokevirtual 133, 3) := by decide +kernel
theorem dX9_two_59 : decode cX9_two 59 = .ok (.istore 4, 2) := by decide +kernel
theorem dX9_two_61 : decode cX9_two 61 = .ok (.iload 4, 2) := by decide +kernel
theorem dX9_two_63 : decode cX9_two 63 = .ok (.bipush (-9), 2) := by decide +kernel
theorem dX9_two_65 : decode cX9_two 65 = .ok (.if_icmp .ne 8, 3) := by decide +kernel
theorem dX9_two_68 : decode cX9_two 68 = .ok (.bipush (-9), 2) := by decide +kernel
theorem dX9_two_70 : decode cX9_two 70 = .ok (.goto 10, 3) := by decide +kernel
theorem dX9_two_73 : decode cX9_two 73 = .ok (.bipush 10, 2) := by decide +kernel
theorem dX9_two_75 : decode cX9_two 75 = .ok (.iload_n 3, 1) := by decide +kernel
theorem dX9_two_76 : decode cX9_two 76 = .ok (.imul, 1) := by decide +kernel
theorem dX9_two_77 : decode cX9_two 77 = .ok (.iload 4, 2) := by decide +kernel
theorem dX9_two_79 : decode cX9_two 79 = .ok (.iadd, 1) := by decide +kernel
theorem dX9_two_80 : decode cX9_two 80 = .ok (.ireturn, 1) := by decide +kernel
theorem dX9_readBoilers_0 : decode cX9_readBoilers 0 = .ok (.aload_n 0, 1) := by decide +kernel
theorem dX9_readBoilers_1 : decode cX9_readBoilers 1 = .ok (.iconst 0, 1) := by decide +kernel
theorem dX9_readBoilers_2 : decode cX9_readBoilers 2 = .ok (.putfield 137, 3) := by decide +kernel
theorem dX9_readBoilers_5 : decode cX9_readBoilers 5 = .ok (.aload_n 0, 1) := by decide +kernel
theorem dX9_readBoilers_6 : decode cX9_readBoilers 6 = .ok (.getfield 137, 3) := by decide +kernel
theorem dX9_readBoilers_9 : decode cX9_readBoilers 9 = .ok (.iconst 5, 1) := by decide +kernel
theorem dX9_readBoilers_10 : decode cX9_readBoilers 10 = .ok (.if_icmp .ge 91, 3) := by decide +kernel
theorem dX9_readBoilers_13 : decode cX9_readBoilers 13 = .ok (.aload_n 0, 1) := by decide +kernel
theorem dX9_readBoilers_14 : decode cX9_readBoilers 14 = .ok (.bipush 98, 2) := by decide +kernel
theorem dX9_readBoilers_16 : decode cX9_readBoilers 16 = .ok (.invokevirtual 140, 3) := by decide +kernel
theorem dX9_readBoilers_19 : decode cX9_readBoilers 19 = .ok (.ifCond .eq 82, 3) := by decide +kernel
theorem dX9_readBoilers_22 : decode cX9_readBoilers 22 = .ok (.aload_n 0, 1) := by decide +kernel
theorem dX9_readBoilers_23 : decode cX9_readBoilers 23 = .ok (.getfield 137, 3) := by decide +kernel
theorem dX9_readBoilers_26 : decode cX9_readBoilers 26 = .ok (.invokestatic 68, 3) := by decide +kernel
theorem dX9_readBoilers_29 : decode cX9_readBoilers 29 = .ok (.istore_n 1, 1) := by decide +kernel
theorem dX9_readBoilers_30 : decode cX9_readBoilers 30 = .ok (.aload_n 0, 1) := by decide +kernel
theorem dX9_readBoilers_31 : decode cX9_readBoilers 31 = .ok (.getfield 20, 3) := by decide +kernel
theorem dX9_readBoilers_34 : decode cX9_readBoilers 34 = .ok (.iload_n 1, 1) := by decide +kernel
theorem dX9_readBoilers_35 : decode cX9_readBoilers 35 = .ok (.aload_n 0, 1) := by decide +kernel
theorem dX9_readBoilers_36 : decode cX9_readBoilers 36 = .ok (.iconst 1, 1) := by decide +kernel
theorem dX9_readBoilers_37 : decode cX9_readBoilers 37 = .ok (.bipush 30, 2) := by decide +kernel
theorem dX9_readBoilers_39 : decode cX9_readBoilers 39 = .ok (.invokevirtual 143, 3) := by decide +kernel
theorem dX9_readBoilers_42 : decode cX9_readBoilers 42 = .ok (.iastore, 1) := by decide +kernel
theorem dX9_readBoilers_43 : decode cX9_readBoilers 43 = .ok (.aload_n 0, 1) := by decide +kernel
theorem dX9_readBoilers_44 : decode cX9_readBoilers 44 = .ok (.getfield 20, 3) := by decide +kernel
theorem dX9_readBoilers_47 : decode cX9_readBoilers 47 = .ok (.iload_n 1, 1) := by decide +kernel
theorem dX9_readBoilers_48 : decode cX9_readBoilers 48 = .ok (.iconst 1, 1) := by decide +kernel
theorem dX9_readBoilers_49 : decode cX9_readBoilers 49 = .ok (.iadd, 1) := by decide +kernel
theorem dX9_readBoilers_50 : decode cX9_readBoilers 50 = .ok (.aload_n 0, 1) := by decide +kernel
theorem dX9_readBoilers_51 : decode cX9_readBoilers 51 = .ok (.getfield 20, 3) := by decide +kernel
theorem dX9_readBoilers_54 : decode cX9_readBoilers 54 = .ok (.iload_n 1, 1) := by decide +kernel
theorem dX9_readBoilers_55 : decode cX9_readBoilers 55 = .ok (.iaload, 1) := by decide +kernel
theorem dX9_readBoilers_56 : decode cX9_readBoilers 56 = .ok (.bipush (-9), 2) := by decide +kernel
theorem dX9_readBoilers_58 : decode cX9_readBoilers 58 = .ok (.if_icmp .ne 8, 3) := by decide +kernel
theorem dX9_readBoilers_61 : decode cX9_readBoilers 61 = .ok (.bipush (-9), 2) := by decide +kernel
theorem dX9_readBoilers_63 : decode cX9_readBoilers 63 = .ok (.goto 9, 3) := by decide +kernel
theorem dX9_readBoilers_66 : decode cX9_readBoilers 66 = .ok (.aload_n 0, 1) := by decide +kernel
theorem dX9_readBoilers_67 : decode cX9_readBoilers 67 = .ok (.iconst 0, 1) := by decide +kernel
theorem dX9_readBoilers_68 : decode cX9_readBoilers 68 = .ok (.iconst 1, 1) := by decide +kernel
theorem dX9_readBoilers_69 : decode cX9_readBoilers 69 = .ok (.invokevirtual 133, 3) := by decide +kernel
theorem dX9_readBoilers_72 : decode cX9_readBoilers 72 = .ok (.iastore, 1) := by decide +kernel
theorem dX9_readBoilers_73 : decode cX9_readBoilers 73 = .ok (.aload_n 0, 1) := by decide +kernel
theorem dX9_readBoilers_74 : decode cX9_readBoilers 74 = .ok (.getfield 20, 3) := by decide +kernel
theorem dX9_readBoilers_77 : decode cX9_readBoilers 77 = .ok (.iload_n 1, 1) := by decide +kernel
theorem dX9_readBoilers_78 : decode cX9_readBoilers 78 = .ok (.iconst 1, 1) := by decide +kernel
theorem dX9_readBoilers_79 : decode cX9_readBoilers 79 = .ok (.iadd, 1) := by decide +kernel
theorem dX9_readBoilers_80 : decode cX9_readBoilers 80 = .ok (.iaload, 1) := by decide +kernel
theorem dX9_readBoilers_81 : decode cX9_readBoilers 81 = .ok (.bipush (-9), 2) := by decide +kernel
theorem dX9_readBoilers_83 : decode cX9_readBoilers 83 = .ok (.if_icmp .ne 5, 3) := by decide +kernel
theorem dX9_readBoilers_86 : decode cX9_readBoilers 86 = .ok (.iconst 0, 1) := by decide +kernel
theorem dX9_readBoilers_87 : decode cX9_readBoilers 87 = .ok (.ireturn, 1) := by decide +kernel
theorem dX9_readBoilers_88 : decode cX9_readBoilers 88 = .ok (.aload_n 0, 1) := by decide +kernel
theorem dX9_readBoilers_89 : decode cX9_readBoilers 89 = .ok (.dup, 1) := by decide +kernel
theorem dX9_readBoilers_90 : decode cX9_readBoilers 90 = .ok (.getfield 137, 3) := by decide +kernel
theorem dX9_readBoilers_93 : decode cX9_readBoilers 93 = .ok (.iconst 1, 1) := by decide +kernel
theorem dX9_readBoilers_94 : decode cX9_readBoilers 94 = .ok (.iadd, 1) := by decide +kernel
theorem dX9_readBoilers_95 : decode cX9_readBoilers 95 = .ok (.putfield 137, 3) := by decide +kernel
theorem dX9_readBoilers_98 : decode cX9_readBoilers 98 = .ok (.goto (-93), 3) := by decide +kernel
theorem dX9_readBoilers_101 : decode cX9_readBoilers 101 = .ok (.aload_n 0, 1) := by decide +kernel
theorem dX9_readBoilers_102 : decode cX9_readBoilers 102 = .ok (.getfield 137, 3) := by decide +kernel
theorem dX9_readBoilers_105 : decode cX9_readBoilers 105 = .ok (.ifCond .le 7, 3) := by decide +kernel
theorem dX9_readBoilers_108 : decode cX9_readBoilers 108 = .ok (.iconst 1, 1) := by decide +kernel
theorem dX9_readBoilers_109 : decode cX9_readBoilers 109 = .ok (.goto 4, 3) := by decide +kernel
theorem dX9_readBoilers_112 : decode cX9_readBoilers 112 = .ok (.iconst 0, 1) := by decide +kernel
theorem dX9_readBoilers_113 : decode cX9_readBoilers 113 = .ok (.ireturn, 1) := by decide +kernel
theorem dX9_readAll_0 : decode cX9_readAll 0 = .ok (.aload_n 0, 1) := by decide +kernel
theorem dX9_readAll_1 : decode cX9_readAll 1 = .ok (.iconst 0, 1) := by decide +kernel
theorem dX9_readAll_2 : decode cX9_readAll 2 = .ok (.putfield 130, 3) := by decide +kernel
theorem dX9_readAll_5 : decode cX9_readAll 5 = .ok (.aload_n 0, 1) := by decide +kernel
theorem dX9_readAll_6 : decode cX9_readAll 6 = .ok (.getfield 20, 3) := by decide +kernel
theorem dX9_readAll_9 : decode cX9_readAll 9 = .ok (.invokestatic 39, 3) := by decide +kernel
theorem dX9_readAll_12 : decode cX9_readAll 12 = .ok (.aload_n 0, 1) := by decide +kernel
theorem dX9_readAll_13 : decode cX9_readAll 13 = .ok (.bipush 72, 2) := by decide +kernel
theorem dX9_readAll_15 : decode cX9_readAll 15 = .ok (.invokevirtual 140, 3) := by decide +kernel
theorem dX9_readAll_18 : decode cX9_readAll 18 = .ok (.ifCond .ne 5, 3) := by decide +kernel
theorem dX9_readAll_21 : decode cX9_readAll 21 = .ok (.iconst 0, 1) := by decide +kernel
theorem dX9_readAll_22 : decode cX9_readAll 22 = .ok (.ireturn, 1) := by decide +kernel
theorem dX9_readAll_23 : decode cX9_readAll 23 = .ok (.aload_n 0, 1) := by decide +kernel
theorem dX9_readAll_24 : decode cX9_readAll 24 = .ok (.aload_n 0, 1) := by decide +kernel
theorem dX9_readAll_25 : decode cX9_readAll 25 = .ok (.iconst 2, 1) := by decide +kernel
theorem dX9_readAll_26 : decode cX9_readAll 26 = .ok (.bipush 8, 2) := by decide +kernel
theorem dX9_readAll_28 : decode cX9_readAll 28 = .ok (.invokevirtual 133, 3) := by decide +kernel
theorem dX9_readAll_31 : decode cX9_readAll 31 = .ok (.putfield 146, 3) := by decide +kernel
theorem dX9_readAll_34 : decode cX9_readAll 34 = .ok (.aload_n 0, 1) := by decide +kernel
theorem dX9_readAll_35 : decode cX9_readAll 35 = .ok (.getfield 20, 3) := by decide +kernel
theorem dX9_readAll_38 : decode cX9_readAll 38 = .ok (.bipush 18, 2) := by decide +kernel
theorem dX9_readAll_40 : decode cX9_readAll 40 = .ok (.aload_n 0, 1) := by decide +kernel
theorem dX9_readAll_41 : decode cX9_readAll 41 = .ok (.getfield 146, 3) := by decide +kernel
theorem dX9_readAll_44 : decode cX9_readAll 44 = .ok (.bipush (-9), 2) := by decide +kernel
theorem dX9_readAll_46 : decode cX9_readAll 46 = .ok (.if_icmp .ne 8, 3) := by decide +kernel
theorem dX9_readAll_49 : decode cX9_readAll 49 = .ok (.bipush (-9), 2) := by decide +kernel
theorem dX9_readAll_51 : decode cX9_readAll 51 = .ok (.goto 10, 3) := by decide +kernel
theorem dX9_readAll_54 : decode cX9_readAll 54 = .ok (.aload_n 0, 1) := by decide +kernel
theorem dX9_readAll_55 : decode cX9_readAll 55 = .ok (.iconst 0, 1) := by decide +kernel
theorem dX9_readAll_56 : decode cX9_readAll 56 = .ok (.bipush 99, 2) := by decide +kernel
theorem dX9_readAll_58 : decode cX9_readAll 58 = .ok (.invokevirtual 143, 3) := by decide +kernel
theorem dX9_readAll_61 : decode cX9_readAll 61 = .ok (.iastore, 1) := by decide +kernel
theorem dX9_readAll_62 : decode cX9_readAll 62 = .ok (.aload_n 0, 1) := by decide +kernel
theorem dX9_readAll_63 : decode cX9_readAll 63 = .ok (.getfield 20, 3) := by decide +kernel
theorem dX9_readAll_66 : decode cX9_readAll 66 = .ok (.bipush 19, 2) := by decide +kernel
theorem dX9_readAll_68 : decode cX9_readAll 68 = .ok (.aload_n 0, 1) := by decide +kernel
theorem dX9_readAll_69 : decode cX9_readAll 69 = .ok (.getfield 20, 3) := by decide +kernel
theorem dX9_readAll_72 : decode cX9_readAll 72 = .ok (.bipush 18, 2) := by decide +kernel
theorem dX9_readAll_74 : decode cX9_readAll 74 = .ok (.iaload, 1) := by decide +kernel
theorem dX9_readAll_75 : decode cX9_readAll 75 = .ok (.bipush (-9), 2) := by decide +kernel
theorem dX9_readAll_77 : decode cX9_readAll 77 = .ok (.if_icmp .ne 8, 3) := by decide +kernel
theorem dX9_readAll_80 : decode cX9_readAll 80 = .ok (.bipush (-9), 2) := by decide +kernel
theorem dX9_readAll_82 : decode cX9_readAll 82 = .ok (.goto 10, 3) := by decide +kernel
theorem dX9_readAll_85 : decode cX9_readAll 85 = .ok (.aload_n 0, 1) := by decide +kernel
theorem dX9_readAll_86 : decode cX9_readAll 86 = .ok (.iconst 0, 1) := by decide +kernel
theorem dX9_readAll_87 : decode cX9_readAll 87 = .ok (.bipush 99, 2) := by decide +kernel
theorem dX9_readAll_89 : decode cX9_readAll 89 = .ok (.invokevirtual 143, 3) := by decide +kernel
theorem dX9_readAll_92 : decode cX9_readAll 92 = .ok (.iastore, 1) := by decide +kernel
theorem dX9_readAll_93 : decode cX9_readAll 93 = .ok (.aload_n 0, 1) := by decide +kernel
theorem dX9_readAll_94 : decode cX9_readAll 94 = .ok (.getfield 20, 3) := by decide +kernel
theorem dX9_readAll_97 : decode cX9_readAll 97 = .ok (.bipush 19, 2) := by decide +kernel
theorem dX9_readAll_99 : decode cX9_readAll 99 = .ok (.iaload, 1) := by decide +kernel
theorem dX9_readAll_100 : decode cX9_readAll 100 = .ok (.bipush (-9), 2) := by decide +kernel
theorem dX9_readAll_102 : decode cX9_readAll 102 = .ok (.if_icmp .eq 10, 3) := by decide +kernel
theorem dX9_readAll_105 : decode cX9_readAll 105 = .ok (.aload_n 0, 1) := by decide +kernel
theorem dX9_readAll_106 : decode cX9_readAll 106 = .ok (.invokevirtual 149, 3) := by decide +kernel
theorem dX9_readAll_109 : decode cX9_readAll 109 = .ok (.ifCond .ne 5, 3) := by decide +kernel
theorem dX9_readAll_112 : decode cX9_readAll 112 = .ok (.iconst 0, 1) := by decide +kernel
theorem dX9_readAll_113 : decode cX9_readAll 113 = .ok (.ireturn, 1) := by decide +kernel
theorem dX9_readAll_114 : decode cX9_readAll 114 = .ok (.aload_n 0, 1) := by decide +kernel
theorem dX9_readAll_115 : decode cX9_readAll 115 = .ok (.bipush 116, 2) := by decide +kernel
theorem dX9_readAll_117 : decode cX9_readAll 117 = .ok (.invokevirtual 140, 3) := by decide +kernel
theorem dX9_readAll_120 : decode cX9_readAll 120 = .ok (.ifCond .eq 47, 3) := by decide +kernel
theorem dX9_readAll_123 : decode cX9_readAll 123 = .ok (.iconst 0, 1) := by decide +kernel
theorem dX9_readAll_124 : decode cX9_readAll 124 = .ok (.istore_n 1, 1) := by decide +kernel
theorem dX9_readAll_125 : decode cX9_readAll 125 = .ok (.iconst 0, 1) := by decide +kernel
theorem dX9_readAll_126 : decode cX9_readAll 126 = .ok (.istore_n 2, 1) := by decide +kernel
theorem dX9_readAll_127 : decode cX9_readAll 127 = .ok (.iload_n 2, 1) := by decide +kernel
theorem dX9_readAll_128 : decode cX9_readAll 128 = .ok (.aload_n 0, 1) := by decide +kernel
theorem dX9_readAll_129 : decode cX9_readAll 129 = .ok (.getfield 146, 3) := by decide +kernel
theorem dX9_readAll_132 : decode cX9_readAll 132 = .ok (.if_icmp .ge 35, 3) := by decide +kernel
theorem dX9_readAll_135 : decode cX9_readAll 135 = .ok (.aload_n 0, 1) := by decide +kernel
theorem dX9_readAll_136 : decode cX9_readAll 136 = .ok (.iload_n 1, 1) := by decide +kernel
theorem dX9_readAll_137 : decode cX9_readAll 137 = .ok (.bipush 99, 2) := by decide +kernel
theorem dX9_readAll_139 : decode cX9_readAll 139 = .ok (.invokevirtual 143, 3) := by decide +kernel
theorem dX9_readAll_142 : decode cX9_readAll 142 = .ok (.istore_n 1, 1) := by decide +kernel
theorem dX9_readAll_143 : decode cX9_readAll 143 = .ok (.iload_n 1, 1) := by decide +kernel
theorem dX9_readAll_144 : decode cX9_readAll 144 = .ok (.bipush (-9), 2) := by decide +kernel
theorem dX9_readAll_146 : decode cX9_readAll 146 = .ok (.if_icmp .ne 5, 3) := by decide +kernel
theorem dX9_readAll_149 : decode cX9_readAll 149 = .ok (.iconst 0, 1) := by decide +kernel
theorem dX9_readAll_150 : decode cX9_readAll 150 = .ok (.ireturn, 1) := by decide +kernel
theorem dX9_readAll_151 : decode cX9_readAll 151 = .ok (.aload_n 0, 1) := by decide +kernel
theorem dX9_readAll_152 : decode cX9_readAll 152 = .ok (.getfield 20, 3) := by decide +kernel
theorem dX9_readAll_155 : decode cX9_readAll 155 = .ok (.bipush 22, 2) := by decide +kernel
theorem dX9_readAll_157 : decode cX9_readAll 157 = .ok (.iload_n 2, 1) := by decide +kernel
theorem dX9_readAll_158 : decode cX9_readAll 158 = .ok (.iadd, 1) := by decide +kernel
theorem dX9_readAll_159 : decode cX9_readAll 159 = .ok (.iload_n 1, 1) := by decide +kernel
theorem dX9_readAll_160 : decode cX9_readAll 160 = .ok (.iastore, 1) := by decide +kernel
theorem dX9_readAll_161 : decode cX9_readAll 161 = .ok (.iinc 2 1, 3) := by decide +kernel
theorem dX9_readAll_164 : decode cX9_readAll 164 = .ok (.goto (-37), 3) := by decide +kernel
theorem dX9_readAll_167 : decode cX9_readAll 167 = .ok (.aload_n 0, 1) := by decide +kernel
theorem dX9_readAll_168 : decode cX9_readAll 168 = .ok (.getfield 130, 3) := by decide +kernel
theorem dX9_readAll_171 : decode cX9_readAll 171 = .ok (.aload_n 0, 1) := by decide +kernel
theorem dX9_readAll_172 : decode cX9_readAll 172 = .ok (.getfield 124, 3) := by decide +kernel
theorem dX9_readAll_175 : decode cX9_readAll 175 = .ok (.if_icmp .ne 7, 3) := by decide +kernel
theorem dX9_readAll_178 : decode cX9_readAll 178 = .ok (.iconst 1, 1) := by decide +kernel
theorem dX9_readAll_179 : decode cX9_readAll 179 = .ok (.goto 4, 3) := by decide +kernel
theorem dX9_readAll_182 : decode cX9_readAll 182 = .ok (.iconst 0, 1) := by decide +kernel
theorem dX9_readAll_183 : decode cX9_readAll 183 = .ok (.ireturn, 1) := by decide +kernel
theorem dX9_errorPosition_0 : decode cX9_errorPosition 0 = .ok (.aload_n 0, 1) := by decide +kernel
theorem dX9_errorPosition_1 : decode cX9_errorPosition 1 = .ok (.iconst 0, 1) := by decide +kernel
theorem dX9_errorPosition_2 : decode cX9_errorPosition 2 = .ok (.putfield 43, 3) := by decide +kernel
theorem dX9_errorPosition_5 : decode cX9_errorPosition 5 = .ok (.aload_n 0, 1) := by decide +kernel
theorem dX9_errorPosition_6 : decode cX9_errorPosition 6 = .ok (.invokevirtual 153, 3) := by decide +kernel
theorem dX9_errorPosition_9 : decode cX9_errorPosition 9 = .ok (.ifCond .eq 8, 3) := by decide +kernel
theorem dX9_errorPosition_12 : decode cX9_errorPosition 12 = .ok (.bipush (-9), 2) := by decide +kernel
theorem dX9_errorPosition_14 : decode cX9_errorPosition 14 = .ok (.goto 7, 3) := by decide +kernel
theorem dX9_errorPosition_17 : decode cX9_errorPosition 17 = .ok (.aload_n 0, 1) := by decide +kernel
theorem dX9_errorPosition_18 : decode cX9_errorPosition 18 = .ok (.getfield 130, 3) := by decide +kernel
theorem dX9_errorPosition_21 : decode cX9_errorPosition 21 = .ok (.ireturn, 1) := by decide +kernel
theorem dX9_load_0 : decode cX9_load 0 = .ok (.aload_n 0, 1) := by decide +kernel
theorem dX9_load_1 : decode cX9_load 1 = .ok (.aload_n 0, 1) := by decide +kernel
theorem dX9_load_2 : decode cX9_load 2 = .ok (.invokevirtual 153, 3) := by decide +kernel
theorem dX9_load_5 : decode cX9_load 5 = .ok (.ifCond .eq 7, 3) := by decide +kernel
theorem dX9_load_8 : decode cX9_load 8 = .ok (.iconst 0, 1) := by decide +kernel
theorem dX9_load_9 : decode cX9_load 9 = .ok (.goto 4, 3) := by decide +kernel
theorem dX9_load_12 : decode cX9_load 12 = .ok (.iconst 1, 1) := by decide +kernel
theorem dX9_load_13 : decode cX9_load 13 = .ok (.invokevirtual 127, 3) := by decide +kernel
theorem dX9_load_16 : decode cX9_load 16 = .ok (.ifCond .eq 5, 3) := by decide +kernel
theorem dX9_load_19 : decode cX9_load 19 = .ok (.iconst 0, 1) := by decide +kernel
theorem dX9_load_20 : decode cX9_load 20 = .ok (.ireturn, 1) := by decide +kernel
theorem dX9_load_21 : decode cX9_load 21 = .ok (.aload_n 0, 1) := by decide +kernel
theorem dX9_load_22 : decode cX9_load 22 = .ok (.aload_n 0, 1) := by decide +kernel
theorem dX9_load_23 : decode cX9_load 23 = .ok (.getfield 137, 3) := by decide +kernel
theorem dX9_load_26 : decode cX9_load 26 = .ok (.putfield 13, 3) := by decide +kernel
theorem dX9_load_29 : decode cX9_load 29 = .ok (.aload_n 0, 1) := by decide +kernel
theorem dX9_load_30 : decode cX9_load 30 = .ok (.aload_n 0, 1) := by decide +kernel
theorem dX9_load_31 : decode cX9_load 31 = .ok (.getfield 146, 3) := by decide +kernel
theorem dX9_load_34 : decode cX9_load 34 = .ok (.putfield 17, 3) := by decide +kernel
theorem dX9_load_37 : decode cX9_load 37 = .ok (.aload_n 0, 1) := by decide +kernel
theorem dX9_load_38 : decode cX9_load 38 = .ok (.getfield 20, 3) := by decide +kernel
theorem dX9_load_41 : decode cX9_load 41 = .ok (.iconst 0, 1) := by decide +kernel
theorem dX9_load_42 : decode cX9_load 42 = .ok (.aload_n 0, 1) := by decide +kernel
theorem dX9_load_43 : decode cX9_load 43 = .ok (.getfield 23, 3) := by decide +kernel
theorem dX9_load_46 : decode cX9_load 46 = .ok (.iconst 0, 1) := by decide +kernel
theorem dX9_load_47 : decode cX9_load 47 = .ok (.invokestatic 156, 3) := by decide +kernel
theorem dX9_load_50 : decode cX9_load 50 = .ok (.aload_n 0, 1) := by decide +kernel
theorem dX9_load_51 : decode cX9_load 51 = .ok (.iconst 0, 1) := by decide +kernel
theorem dX9_load_52 : decode cX9_load 52 = .ok (.putfield 160, 3) := by decide +kernel
theorem dX9_load_55 : decode cX9_load 55 = .ok (.aload_n 0, 1) := by decide +kernel
theorem dX9_load_56 : decode cX9_load 56 = .ok (.getfield 35, 3) := by decide +kernel
theorem dX9_load_59 : decode cX9_load 59 = .ok (.iconst 0, 1) := by decide +kernel
theorem dX9_load_60 : decode cX9_load 60 = .ok (.iconst 0, 1) := by decide +kernel
theorem dX9_load_61 : decode cX9_load 61 = .ok (.bastore, 1) := by decide +kernel
theorem dX9_load_62 : decode cX9_load 62 = .ok (.aload_n 0, 1) := by decide +kernel
theorem dX9_load_63 : decode cX9_load 63 = .ok (.getfield 35, 3) := by decide +kernel
theorem dX9_load_66 : decode cX9_load 66 = .ok (.iconst 1, 1) := by decide +kernel
theorem dX9_load_67 : decode cX9_load 67 = .ok (.iconst 0, 1) := by decide +kernel
theorem dX9_load_68 : decode cX9_load 68 = .ok (.bastore, 1) := by decide +kernel
theorem dX9_load_69 : decode cX9_load 69 = .ok (.aload_n 0, 1) := by decide +kernel
theorem dX9_load_70 : decode cX9_load 70 = .ok (.getfield 13, 3) := by decide +kernel
theorem dX9_load_73 : decode cX9_load 73 = .ok (.ireturn, 1) := by decide +kernel
theorem dX9_isBoiler_0 : decode cX9_isBoiler 0 = .ok (.iload_n 1, 1) := by decide +kernel
theorem dX9_isBoiler_1 : decode cX9_isBoiler 1 = .ok (.i2l, 1) := by decide +kernel
theorem dX9_isBoiler_2 : decode cX9_isBoiler 2 = .ok (.lconst 0, 1) := by decide +kernel
theorem dX9_isBoiler_3 : decode cX9_isBoiler 3 = .ok (.aload_n 0, 1) := by decide +kernel
theorem dX9_isBoiler_4 : decode cX9_isBoiler 4 = .ok (.getfield 13, 3) := by decide +kernel
theorem dX9_isBoiler_7 : decode cX9_isBoiler 7 = .ok (.iconst 1, 1) := by decide +kernel
theorem dX9_isBoiler_8 : decode cX9_isBoiler 8 = .ok (.isub, 1) := by decide +kernel
theorem dX9_isBoiler_9 : decode cX9_isBoiler 9 = .ok (.i2l, 1) := by decide +kernel
theorem dX9_isBoiler_10 : decode cX9_isBoiler 10 = .ok (.invokestatic 50, 3) := by decide +kernel
theorem dX9_isBoiler_13 : decode cX9_isBoiler 13 = .ok (.ireturn, 1) := by decide +kernel
theorem dX9_about_0 : decode cX9_about 0 = .ok (.aload_n 0, 1) := by decide +kernel
theorem dX9_about_1 : decode cX9_about 1 = .ok (.iload_n 1, 1) := by decide +kernel
theorem dX9_about_2 : decode cX9_about 2 = .ok (.i2l, 1) := by decide +kernel
theorem dX9_about_3 : decode cX9_about 3 = .ok (.lconst 0, 1) := by decide +kernel
theorem dX9_about_4 : decode cX9_about 4 = .ok (.ldc2_w 163, 3) := by decide +kernel
theorem dX9_about_7 : decode cX9_about 7 = .ok (.invokestatic 50, 3) := by decide +kernel
theorem dX9_about_10 : decode cX9_about 10 = .ok (.ifCond .eq 7, 3) := by decide +kernel
theorem dX9_about_13 : decode cX9_about 13 = .ok (.iconst 0, 1) := by decide +kernel
theorem dX9_about_14 : decode cX9_about 14 = .ok (.goto 4, 3) := by decide +kernel
theorem dX9_about_17 : decode cX9_about 17 = .ok (.iconst 1, 1) := by decide +kernel
theorem dX9_about_18 : decode cX9_about 18 = .ok (.invokevirtual 127, 3) := by decide +kernel
theorem dX9_about_21 : decode cX9_about 21 = .ok (.ifCond .eq 5, 3) := by decide +kernel
theorem dX9_about_24 : decode cX9_about 24 = .ok (.iconst 0, 1) := by decide +kernel
theorem dX9_about_25 : decode cX9_about 25 = .ok (.ireturn, 1) := by decide +kernel
theorem dX9_about_26 : decode cX9_about 26 = .ok (.iload_n 1, 1) := by decide +kernel
theorem dX9_about_27 : decode cX9_about 27 = .ok (.tableswitch 94 6 16 #[57, 62, 67, 75, 94, 94, 94, 94, 94, 94, 84], 57) := by decide +kernel
theorem dX9_about_84 : decode cX9_about 84 = .ok (.aload_n 0, 1) := by decide +kernel
theorem dX9_about_85 : decode cX9_about 85 = .ok (.getfield 13, 3) := by decide +kernel
theorem dX9_about_88 : decode cX9_about 88 = .ok (.ireturn, 1) := by decide +kernel
theorem dX9_about_89 : decode cX9_about 89 = .ok (.aload_n 0, 1) := by decide +kernel
theorem dX9_about_90 : decode cX9_about 90 = .ok (.getfield 17, 3) := by decide +kernel
theorem dX9_about_93 : decode cX9_about 93 = .ok (.ireturn, 1) := by decide +kernel
theorem dX9_about_94 : decode cX9_about 94 = .ok (.aload_n 0, 1) := by decide +kernel
theorem dX9_about_95 : decode cX9_about 95 = .ok (.getfield 23, 3) := by decide +kernel
theorem dX9_about_98 : decode cX9_about 98 = .ok (.bipush 6, 2) := by decide +kernel
theorem dX9_about_100 : decode cX9_about 100 = .ok (.iaload, 1) := by decide +kernel
theorem dX9_about_101 : decode cX9_about 101 = .ok (.ireturn, 1) := by decide +kernel
theorem dX9_about_102 : decode cX9_about 102 = .ok (.aload_n 0, 1) := by decide +kernel
theorem dX9_about_103 : decode cX9_about 103 = .ok (.aload_n 0, 1) := by decide +kernel
theorem dX9_about_104 : decode cX9_about 104 = .ok (.getfield 23, 3) := by decide +kernel
theorem dX9_about_107 : decode cX9_about 107 = .ok (.invokevirtual 87, 3) := by decide +kernel
theorem dX9_about_110 : decode cX9_about 110 = .ok (.ireturn, 1) := by decide +kernel
theorem dX9_about_111 : decode cX9_about 111 = .ok (.aload_n 0, 1) := by decide +kernel
theorem dX9_about_112 : decode cX9_about 112 = .ok (.aload_n 0, 1) := by decide +kernel
theorem dX9_about_113 : decode cX9_about 113 = .ok (.getfield 23, 3) := by decide +kernel
theorem dX9_about_116 : decode cX9_about 116 = .ok (.iconst 2, 1) := by decide +kernel
theorem dX9_about_117 : decode cX9_about 117 = .ok (.invokevirtual 165, 3) := by decide +kernel
theorem dX9_about_120 : decode cX9_about 120 = .ok (.ireturn, 1) := by decide +kernel
theorem dX9_about_121 : decode cX9_about 121 = .ok (.iload_n 1, 1) := by decide +kernel
theorem dX9_about_122 : decode cX9_about 122 = .ok (.bipush 6, 2) := by decide +kernel
theorem dX9_about_124 : decode cX9_about 124 = .ok (.if_icmp .ge 12, 3) := by decide +kernel
theorem dX9_about_127 : decode cX9_about 127 = .ok (.aload_n 0, 1) := by decide +kernel
theorem dX9_about_128 : decode cX9_about 128 = .ok (.getfield 23, 3) := by decide +kernel
theorem dX9_about_131 : decode cX9_about 131 = .ok (.iload_n 1, 1) := by decide +kernel
theorem dX9_about_132 : decode cX9_about 132 = .ok (.iaload, 1) := by decide +kernel
theorem dX9_about_133 : decode cX9_about 133 = .ok (.goto 15, 3) := by decide +kernel
theorem dX9_about_136 : decode cX9_about 136 = .ok (.aload_n 0, 1) := by decide +kernel
theorem dX9_about_137 : decode cX9_about 137 = .ok (.getfield 23, 3) := by decide +kernel
theorem dX9_about_140 : decode cX9_about 140 = .ok (.bipush 7, 2) := by decide +kernel
theorem dX9_about_142 : decode cX9_about 142 = .ok (.iload_n 1, 1) := by decide +kernel
theorem dX9_about_143 : decode cX9_about 143 = .ok (.iadd, 1) := by decide +kernel
theorem dX9_about_144 : decode cX9_about 144 = .ok (.bipush 10, 2) := by decide +kernel
theorem dX9_about_146 : decode cX9_about 146 = .ok (.isub, 1) := by decide +kernel
theorem dX9_about_147 : decode cX9_about 147 = .ok (.iaload, 1) := by decide +kernel
theorem dX9_about_148 : decode cX9_about 148 = .ok (.ireturn, 1) := by decide +kernel
theorem dX9_boiler_0 : decode cX9_boiler 0 = .ok (.aload_n 0, 1) := by decide +kernel
theorem dX9_boiler_1 : decode cX9_boiler 1 = .ok (.aload_n 0, 1) := by decide +kernel
theorem dX9_boiler_2 : decode cX9_boiler 2 = .ok (.iload_n 1, 1) := by decide +kernel
theorem dX9_boiler_3 : decode cX9_boiler 3 = .ok (.invokevirtual 168, 3) := by decide +kernel
theorem dX9_boiler_6 : decode cX9_boiler 6 = .ok (.ifCond .ne 7, 3) := by decide +kernel
theorem dX9_boiler_9 : decode cX9_boiler 9 = .ok (.iconst 1, 1) := by decide +kernel
theorem dX9_boiler_10 : decode cX9_boiler 10 = .ok (.goto 20, 3) := by decide +kernel
theorem dX9_boiler_13 : decode cX9_boiler 13 = .ok (.iload_n 2, 1) := by decide +kernel
theorem dX9_boiler_14 : decode cX9_boiler 14 = .ok (.i2l, 1) := by decide +kernel
theorem dX9_boiler_15 : decode cX9_boiler 15 = .ok (.lconst 0, 1) := by decide +kernel
theorem dX9_boiler_16 : decode cX9_boiler 16 = .ok (.ldc2_w 171, 3) := by decide +kernel
theorem dX9_boiler_19 : decode cX9_boiler 19 = .ok (.invokestatic 50, 3) := by decide +kernel
theorem dX9_boiler_22 : decode cX9_boiler 22 = .ok (.ifCond .ne 7, 3) := by decide +kernel
theorem dX9_boiler_25 : decode cX9_boiler 25 = .ok (.iconst 2, 1) := by decide +kernel
theorem dX9_boiler_26 : decode cX9_boiler 26 = .ok (.goto 4, 3) := by decide +kernel
theorem dX9_boiler_29 : decode cX9_boiler 29 = .ok (.iconst 0, 1) := by decide +kernel
theorem dX9_boiler_30 : decode cX9_boiler 30 = .ok (.invokevirtual 127, 3) := by decide +kernel
theorem dX9_boiler_33 : decode cX9_boiler 33 = .ok (.ifCond .eq 5, 3) := by decide +kernel
theorem dX9_boiler_36 : decode cX9_boiler 36 = .ok (.iconst 0, 1) := by decide +kernel
theorem dX9_boiler_37 : decode cX9_boiler 37 = .ok (.ireturn, 1) := by decide +kernel
theorem dX9_boiler_38 : decode cX9_boiler 38 = .ok (.iload_n 2, 1) := by decide +kernel
theorem dX9_boiler_39 : decode cX9_boiler 39 = .ok (.bipush 7, 2) := by decide +kernel
theorem dX9_boiler_41 : decode cX9_boiler 41 = .ok (.if_icmp .ge 17, 3) := by decide +kernel
theorem dX9_boiler_44 : decode cX9_boiler 44 = .ok (.aload_n 0, 1) := by decide +kernel
theorem dX9_boiler_45 : decode cX9_boiler 45 = .ok (.getfield 23, 3) := by decide +kernel
theorem dX9_boiler_48 : decode cX9_boiler 48 = .ok (.iload_n 1, 1) := by decide +kernel
theorem dX9_boiler_49 : decode cX9_boiler 49 = .ok (.invokestatic 68, 3) := by decide +kernel
theorem dX9_boiler_52 : decode cX9_boiler 52 = .ok (.iload_n 2, 1) := by decide +kernel
theorem dX9_boiler_53 : decode cX9_boiler 53 = .ok (.iadd, 1) := by decide +kernel
theorem dX9_boiler_54 : decode cX9_boiler 54 = .ok (.iaload, 1) := by decide +kernel
theorem dX9_boiler_55 : decode cX9_boiler 55 = .ok (.goto 20, 3) := by decide +kernel
theorem dX9_boiler_58 : decode cX9_boiler 58 = .ok (.aload_n 0, 1) := by decide +kernel
theorem dX9_boiler_59 : decode cX9_boiler 59 = .ok (.aload_n 0, 1) := by decide +kernel
theorem dX9_boiler_60 : decode cX9_boiler 60 = .ok (.getfield 23, 3) := by decide +kernel
theorem dX9_boiler_63 : decode cX9_boiler 63 = .ok (.iload_n 1, 1) := by decide +kernel
theorem dX9_boiler_64 : decode cX9_boiler 64 = .ok (.invokevirtual 83, 3) := by decide +kernel
theorem dX9_boiler_67 : decode cX9_boiler 67 = .ok (.ifCond .eq 7, 3) := by decide +kernel
theorem dX9_boiler_70 : decode cX9_boiler 70 = .ok (.iconst 1, 1) := by decide +kernel
theorem dX9_boiler_71 : decode cX9_boiler 71 = .ok (.goto 4, 3) := by decide +kernel
theorem dX9_boiler_74 : decode cX9_boiler 74 = .ok (.iconst 0, 1) := by decide +kernel
theorem dX9_boiler_75 : decode cX9_boiler 75 = .ok (.ireturn, 1) := by decide +kernel
theorem dX9_flue_0 : decode cX9_flue 0 = .ok (.aload_n 0, 1) := by decide +kernel
theorem dX9_flue_1 : decode cX9_flue 1 = .ok (.iload_n 1, 1) := by decide +kernel
theorem dX9_flue_2 : decode cX9_flue 2 = .ok (.i2l, 1) := by decide +kernel
theorem dX9_flue_3 : decode cX9_flue 3 = .ok (.lconst 0, 1) := by decide +kernel
theorem dX9_flue_4 : decode cX9_flue 4 = .ok (.lconst 1, 1) := by decide +kernel
theorem dX9_flue_5 : decode cX9_flue 5 = .ok (.invokestatic 50, 3) := by decide +kernel
theorem dX9_flue_8 : decode cX9_flue 8 = .ok (.ifCond .ne 7, 3) := by decide +kernel
theorem dX9_flue_11 : decode cX9_flue 11 = .ok (.iconst 1, 1) := by decide +kernel
theorem dX9_flue_12 : decode cX9_flue 12 = .ok (.goto 20, 3) := by decide +kernel
theorem dX9_flue_15 : decode cX9_flue 15 = .ok (.iload_n 2, 1) := by decide +kernel
theorem dX9_flue_16 : decode cX9_flue 16 = .ok (.i2l, 1) := by decide +kernel
theorem dX9_flue_17 : decode cX9_flue 17 = .ok (.lconst 0, 1) := by decide +kernel
theorem dX9_flue_18 : decode cX9_flue 18 = .ok (.ldc2_w 173, 3) := by decide +kernel
theorem dX9_flue_21 : decode cX9_flue 21 = .ok (.invokestatic 50, 3) := by decide +kernel
theorem dX9_flue_24 : decode cX9_flue 24 = .ok (.ifCond .ne 7, 3) := by decide +kernel
theorem dX9_flue_27 : decode cX9_flue 27 = .ok (.iconst 2, 1) := by decide +kernel
theorem dX9_flue_28 : decode cX9_flue 28 = .ok (.goto 4, 3) := by decide +kernel
theorem dX9_flue_31 : decode cX9_flue 31 = .ok (.iconst 0, 1) := by decide +kernel
theorem dX9_flue_32 : decode cX9_flue 32 = .ok (.invokevirtual 127, 3) := by decide +kernel
theorem dX9_flue_35 : decode cX9_flue 35 = .ok (.ifCond .eq 5, 3) := by decide +kernel
theorem dX9_flue_38 : decode cX9_flue 38 = .ok (.iconst 0, 1) := by decide +kernel
theorem dX9_flue_39 : decode cX9_flue 39 = .ok (.ireturn, 1) := by decide +kernel
theorem dX9_flue_40 : decode cX9_flue 40 = .ok (.iconst 0, 1) := by decide +kernel
theorem dX9_flue_41 : decode cX9_flue 41 = .ok (.istore_n 3, 1) := by decide +kernel
theorem dX9_flue_42 : decode cX9_flue 42 = .ok (.iconst 0, 1) := by decide +kernel
theorem dX9_flue_43 : decode cX9_flue 43 = .ok (.istore 4, 2) := by decide +kernel
theorem dX9_flue_45 : decode cX9_flue 45 = .ok (.iload 4, 2) := by decide +kernel
theorem dX9_flue_47 : decode cX9_flue 47 = .ok (.aload_n 0, 1) := by decide +kernel
theorem dX9_flue_48 : decode cX9_flue 48 = .ok (.getfield 13, 3) := by decide +kernel
theorem dX9_flue_51 : decode cX9_flue 51 = .ok (.if_icmp .ge 33, 3) := by decide +kernel
theorem dX9_flue_54 : decode cX9_flue 54 = .ok (.iload_n 3, 1) := by decide +kernel
theorem dX9_flue_55 : decode cX9_flue 55 = .ok (.aload_n 0, 1) := by decide +kernel
theorem dX9_flue_56 : decode cX9_flue 56 = .ok (.getfield 23, 3) := by decide +kernel
theorem dX9_flue_59 : decode cX9_flue 59 = .ok (.iload 4, 2) := by decide +kernel
theorem dX9_flue_61 : decode cX9_flue 61 = .ok (.invokestatic 68, 3) := by decide +kernel
theorem dX9_flue_64 : decode cX9_flue 64 = .ok (.iconst 1, 1) := by decide +kernel
theorem dX9_flue_65 : decode cX9_flue 65 = .ok (.iadd, 1) := by decide +kernel
theorem dX9_flue_66 : decode cX9_flue 66 = .ok (.iaload, 1) := by decide +kernel
theorem dX9_flue_67 : decode cX9_flue 67 = .ok (.iload_n 1, 1) := by decide +kernel
theorem dX9_flue_68 : decode cX9_flue 68 = .ok (.if_icmp .ne 7, 3) := by decide +kernel
theorem dX9_flue_71 : decode cX9_flue 71 = .ok (.iconst 1, 1) := by decide +kernel
theorem dX9_flue_72 : decode cX9_flue 72 = .ok (.goto 4, 3) := by decide +kernel
theorem dX9_flue_75 : decode cX9_flue 75 = .ok (.iconst 0, 1) := by decide +kernel
theorem dX9_flue_76 : decode cX9_flue 76 = .ok (.iadd, 1) := by decide +kernel
theorem dX9_flue_77 : decode cX9_flue 77 = .ok (.istore_n 3, 1) := by decide +kernel
theorem dX9_flue_78 : decode cX9_flue 78 = .ok (.iinc 4 1, 3) := by decide +kernel
theorem dX9_flue_81 : decode cX9_flue 81 = .ok (.goto (-36), 3) := by decide +kernel
theorem dX9_flue_84 : decode cX9_flue 84 = .ok (.iload_n 2, 1) := by decide +kernel
theorem dX9_flue_85 : decode cX9_flue 85 = .ok (.ifCond .ne 15, 3) := by decide +kernel
theorem dX9_flue_88 : decode cX9_flue 88 = .ok (.aload_n 0, 1) := by decide +kernel
theorem dX9_flue_89 : decode cX9_flue 89 = .ok (.getfield 23, 3) := by decide +kernel
theorem dX9_flue_92 : decode cX9_flue 92 = .ok (.bipush 18, 2) := by decide +kernel
theorem dX9_flue_94 : decode cX9_flue 94 = .ok (.iload_n 1, 1) := by decide +kernel
theorem dX9_flue_95 : decode cX9_flue 95 = .ok (.iadd, 1) := by decide +kernel
theorem dX9_flue_96 : decode cX9_flue 96 = .ok (.iaload, 1) := by decide +kernel
theorem dX9_flue_97 : decode cX9_flue 97 = .ok (.goto 38, 3) := by decide +kernel
theorem dX9_flue_100 : decode cX9_flue 100 = .ok (.iload_n 2, 1) := by decide +kernel
theorem dX9_flue_101 : decode cX9_flue 101 = .ok (.iconst 1, 1) := by decide +kernel
theorem dX9_flue_102 : decode cX9_flue 102 = .ok (.if_icmp .ne 15, 3) := by decide +kernel
theorem dX9_flue_105 : decode cX9_flue 105 = .ok (.aload_n 0, 1) := by decide +kernel
theorem dX9_flue_106 : decode cX9_flue 106 = .ok (.aload_n 0, 1) := by decide +kernel
theorem dX9_flue_107 : decode cX9_flue 107 = .ok (.getfield 23, 3) := by decide +kernel
theorem dX9_flue_110 : decode cX9_flue 110 = .ok (.iload_n 1, 1) := by decide +kernel
theorem dX9_flue_111 : decode cX9_flue 111 = .ok (.invokevirtual 76, 3) := by decide +kernel
theorem dX9_flue_114 : decode cX9_flue 114 = .ok (.goto 21, 3) := by decide +kernel
theorem dX9_flue_117 : decode cX9_flue 117 = .ok (.iload_n 2, 1) := by decide +kernel
theorem dX9_flue_118 : decode cX9_flue 118 = .ok (.iconst 2, 1) := by decide +kernel
theorem dX9_flue_119 : decode cX9_flue 119 = .ok (.if_icmp .ne 15, 3) := by decide +kernel
theorem dX9_flue_122 : decode cX9_flue 122 = .ok (.aload_n 0, 1) := by decide +kernel
theorem dX9_flue_123 : decode cX9_flue 123 = .ok (.getfield 23, 3) := by decide +kernel
theorem dX9_flue_126 : decode cX9_flue 126 = .ok (.bipush 20, 2) := by decide +kernel
theorem dX9_flue_128 : decode cX9_flue 128 = .ok (.iload_n 1, 1) := by decide +kernel
theorem dX9_flue_129 : decode cX9_flue 129 = .ok (.iadd, 1) := by decide +kernel
theorem dX9_flue_130 : decode cX9_flue 130 = .ok (.iaload, 1) := by decide +kernel
theorem dX9_flue_131 : decode cX9_flue 131 = .ok (.goto 4, 3) := by decide +kernel
theorem dX9_flue_134 : decode cX9_flue 134 = .ok (.iload_n 3, 1) := by decide +kernel
theorem dX9_flue_135 : decode cX9_flue 135 = .ok (.ireturn, 1) := by decide +kernel
theorem dX9_layer_0 : decode cX9_layer 0 = .ok (.aload_n 0, 1) := by decide +kernel
theorem dX9_layer_1 : decode cX9_layer 1 = .ok (.iload_n 1, 1) := by decide +kernel
theorem dX9_layer_2 : decode cX9_layer 2 = .ok (.i2l, 1) := by decide +kernel
theorem dX9_layer_3 : decode cX9_layer 3 = .ok (.lconst 0, 1) := by decide +kernel
theorem dX9_layer_4 : decode cX9_layer 4 = .ok (.aload_n 0, 1) := by decide +kernel
theorem dX9_layer_5 : decode cX9_layer 5 = .ok (.getfield 17, 3) := by decide +kernel
theorem dX9_layer_8 : decode cX9_layer 8 = .ok (.iconst 1, 1) := by decide +kernel
theorem dX9_layer_9 : decode cX9_layer 9 = .ok (.isub, 1) := by decide +kernel
theorem dX9_layer_10 : decode cX9_layer 10 = .ok (.i2l, 1) := by decide +kernel
theorem dX9_layer_11 : decode cX9_layer 11 = .ok (.invokestatic 50, 3) := by decide +kernel
theorem dX9_layer_14 : decode cX9_layer 14 = .ok (.ifCond .eq 7, 3) := by decide +kernel
theorem dX9_layer_17 : decode cX9_layer 17 = .ok (.iconst 0, 1) := by decide +kernel
theorem dX9_layer_18 : decode cX9_layer 18 = .ok (.goto 4, 3) := by decide +kernel
theorem dX9_layer_21 : decode cX9_layer 21 = .ok (.iconst 1, 1) := by decide +kernel
theorem dX9_layer_22 : decode cX9_layer 22 = .ok (.invokevirtual 127, 3) := by decide +kernel
theorem dX9_layer_25 : decode cX9_layer 25 = .ok (.ifCond .eq 7, 3) := by decide +kernel
theorem dX9_layer_28 : decode cX9_layer 28 = .ok (.iconst 0, 1) := by decide +kernel
theorem dX9_layer_29 : decode cX9_layer 29 = .ok (.goto 12, 3) := by decide +kernel
theorem dX9_layer_32 : decode cX9_layer 32 = .ok (.aload_n 0, 1) := by decide +kernel
theorem dX9_layer_33 : decode cX9_layer 33 = .ok (.getfield 23, 3) := by decide +kernel
theorem dX9_layer_36 : decode cX9_layer 36 = .ok (.bipush 22, 2) := by decide +kernel
theorem dX9_layer_38 : decode cX9_layer 38 = .ok (.iload_n 1, 1) := by decide +kernel
theorem dX9_layer_39 : decode cX9_layer 39 = .ok (.iadd, 1) := by decide +kernel
theorem dX9_layer_40 : decode cX9_layer 40 = .ok (.iaload, 1) := by decide +kernel
theorem dX9_layer_41 : decode cX9_layer 41 = .ok (.ireturn, 1) := by decide +kernel
theorem dX9_account_0 : decode cX9_account 0 = .ok (.aload_n 0, 1) := by decide +kernel
theorem dX9_account_1 : decode cX9_account 1 = .ok (.iload_n 1, 1) := by decide +kernel
theorem dX9_account_2 : decode cX9_account 2 = .ok (.i2l, 1) := by decide +kernel
theorem dX9_account_3 : decode cX9_account 3 = .ok (.lconst 0, 1) := by decide +kernel
theorem dX9_account_4 : decode cX9_account 4 = .ok (.ldc2_w 60, 3) := by decide +kernel
theorem dX9_account_7 : decode cX9_account 7 = .ok (.invokestatic 50, 3) := by decide +kernel
theorem dX9_account_10 : decode cX9_account 10 = .ok (.ifCond .eq 7, 3) := by decide +kernel
theorem dX9_account_13 : decode cX9_account 13 = .ok (.iconst 0, 1) := by decide +kernel
theorem dX9_account_14 : decode cX9_account 14 = .ok (.goto 4, 3) := by decide +kernel
theorem dX9_account_17 : decode cX9_account 17 = .ok (.iconst 1, 1) := by decide +kernel
theorem dX9_account_18 : decode cX9_account 18 = .ok (.invokevirtual 127, 3) := by decide +kernel
theorem dX9_account_21 : decode cX9_account 21 = .ok (.ifCond .eq 5, 3) := by decide +kernel
theorem dX9_account_24 : decode cX9_account 24 = .ok (.iconst 0, 1) := by decide +kernel
theorem dX9_account_25 : decode cX9_account 25 = .ok (.ireturn, 1) := by decide +kernel
theorem dX9_account_26 : decode cX9_account 26 = .ok (.iload_n 1, 1) := by decide +kernel
theorem dX9_account_27 : decode cX9_account 27 = .ok (.iconst 4, 1) := by decide +kernel
theorem dX9_account_28 : decode cX9_account 28 = .ok (.if_icmp .ge 15, 3) := by decide +kernel
theorem dX9_account_31 : decode cX9_account 31 = .ok (.aload_n 0, 1) := by decide +kernel
theorem dX9_account_32 : decode cX9_account 32 = .ok (.getfield 23, 3) := by decide +kernel
theorem dX9_account_35 : decode cX9_account 35 = .ok (.bipush 13, 2) := by decide +kernel
theorem dX9_account_37 : decode cX9_account 37 = .ok (.iload_n 1, 1) := by decide +kernel
theorem dX9_account_38 : decode cX9_account 38 = .ok (.iadd, 1) := by decide +kernel
theorem dX9_account_39 : decode cX9_account 39 = .ok (.iaload, 1) := by decide +kernel
theorem dX9_account_40 : decode cX9_account 40 = .ok (.goto 26, 3) := by decide +kernel
theorem dX9_account_43 : decode cX9_account 43 = .ok (.iload_n 1, 1) := by decide +kernel
theorem dX9_account_44 : decode cX9_account 44 = .ok (.iconst 4, 1) := by decide +kernel
theorem dX9_account_45 : decode cX9_account 45 = .ok (.if_icmp .ne 14, 3) := by decide +kernel
theorem dX9_account_48 : decode cX9_account 48 = .ok (.aload_n 0, 1) := by decide +kernel
theorem dX9_account_49 : decode cX9_account 49 = .ok (.aload_n 0, 1) := by decide +kernel
theorem dX9_account_50 : decode cX9_account 50 = .ok (.getfield 23, 3) := by decide +kernel
theorem dX9_account_53 : decode cX9_account 53 = .ok (.invokevirtual 175, 3) := by decide +kernel
theorem dX9_account_56 : decode cX9_account 56 = .ok (.goto 10, 3) := by decide +kernel
theorem dX9_account_59 : decode cX9_account 59 = .ok (.aload_n 0, 1) := by decide +kernel
theorem dX9_account_60 : decode cX9_account 60 = .ok (.getfield 23, 3) := by decide +kernel
theorem dX9_account_63 : decode cX9_account 63 = .ok (.bipush 17, 2) := by decide +kernel
theorem dX9_account_65 : decode cX9_account 65 = .ok (.iaload, 1) := by decide +kernel
theorem dX9_account_66 : decode cX9_account 66 = .ok (.ireturn, 1) := by decide +kernel
theorem dX9_note_0 : decode cX9_note 0 = .ok (.aload_n 0, 1) := by decide +kernel
theorem dX9_note_1 : decode cX9_note 1 = .ok (.getfield 160, 3) := by decide +kernel
theorem dX9_note_4 : decode cX9_note 4 = .ok (.bipush 14, 2) := by decide +kernel
theorem dX9_note_6 : decode cX9_note 6 = .ok (.if_icmp .ne 43, 3) := by decide +kernel
theorem dX9_note_9 : decode cX9_note 9 = .ok (.iconst 0, 1) := by decide +kernel
theorem dX9_note_10 : decode cX9_note 10 = .ok (.istore_n 1, 1) := by decide +kernel
theorem dX9_note_11 : decode cX9_note 11 = .ok (.iload_n 1, 1) := by decide +kernel
theorem dX9_note_12 : decode cX9_note 12 = .ok (.sipush 845, 3) := by decide +kernel
theorem dX9_note_15 : decode cX9_note 15 = .ok (.if_icmp .ge 24, 3) := by decide +kernel
theorem dX9_note_18 : decode cX9_note 18 = .ok (.aload_n 0, 1) := by decide +kernel
theorem dX9_note_19 : decode cX9_note 19 = .ok (.getfield 29, 3) := by decide +kernel
theorem dX9_note_22 : decode cX9_note 22 = .ok (.iload_n 1, 1) := by decide +kernel
theorem dX9_note_23 : decode cX9_note 23 = .ok (.aload_n 0, 1) := by decide +kernel
theorem dX9_note_24 : decode cX9_note 24 = .ok (.getfield 29, 3) := by decide +kernel
theorem dX9_note_27 : decode cX9_note 27 = .ok (.iload_n 1, 1) := by decide +kernel
theorem dX9_note_28 : decode cX9_note 28 = .ok (.bipush 65, 2) := by decide +kernel
theorem dX9_note_30 : decode cX9_note 30 = .ok (.iadd, 1) := by decide +kernel
theorem dX9_note_31 : decode cX9_note 31 = .ok (.iaload, 1) := by decide +kernel
theorem dX9_note_32 : decode cX9_note 32 = .ok (.iastore, 1) := by decide +kernel
theorem dX9_note_33 : decode cX9_note 33 = .ok (.iinc 1 1, 3) := by decide +kernel
theorem dX9_note_36 : decode cX9_note 36 = .ok (.goto (-25), 3) := by decide +kernel
theorem dX9_note_39 : decode cX9_note 39 = .ok (.aload_n 0, 1) := by decide +kernel
theorem dX9_note_40 : decode cX9_note 40 = .ok (.dup, 1) := by decide +kernel
theorem dX9_note_41 : decode cX9_note 41 = .ok (.getfield 160, 3) := by decide +kernel
theorem dX9_note_44 : decode cX9_note 44 = .ok (.iconst 1, 1) := by decide +kernel
theorem dX9_note_45 : decode cX9_note 45 = .ok (.isub, 1) := by decide +kernel
theorem dX9_note_46 : decode cX9_note 46 = .ok (.putfield 160, 3) := by decide +kernel
theorem dX9_note_49 : decode cX9_note 49 = .ok (.aload_n 0, 1) := by decide +kernel
theorem dX9_note_50 : decode cX9_note 50 = .ok (.getfield 23, 3) := by decide +kernel
theorem dX9_note_53 : decode cX9_note 53 = .ok (.iconst 0, 1) := by decide +kernel
theorem dX9_note_54 : decode cX9_note 54 = .ok (.aload_n 0, 1) := by decide +kernel
theorem dX9_note_55 : decode cX9_note 55 = .ok (.getfield 29, 3) := by decide +kernel
theorem dX9_note_58 : decode cX9_note 58 = .ok (.bipush 65, 2) := by decide +kernel
theorem dX9_note_60 : decode cX9_note 60 = .ok (.aload_n 0, 1) := by decide +kernel
theorem dX9_note_61 : decode cX9_note 61 = .ok (.getfield 160, 3) := by decide +kernel
theorem dX9_note_64 : decode cX9_note 64 = .ok (.imul, 1) := by decide +kernel
theorem dX9_note_65 : decode cX9_note 65 = .ok (.invokestatic 156, 3) := by decide +kernel
theorem dX9_note_68 : decode cX9_note 68 = .ok (.aload_n 0, 1) := by decide +kernel
theorem dX9_note_69 : decode cX9_note 69 = .ok (.dup, 1) := by decide +kernel
theorem dX9_note_70 : decode cX9_note 70 = .ok (.getfield 160, 3) := by decide +kernel
theorem dX9_note_73 : decode cX9_note 73 = .ok (.iconst 1, 1) := by decide +kernel
theorem dX9_note_74 : decode cX9_note 74 = .ok (.iadd, 1) := by decide +kernel
theorem dX9_note_75 : decode cX9_note 75 = .ok (.putfield 160, 3) := by decide +kernel
theorem dX9_note_78 : decode cX9_note 78 = .ok (.return_, 1) := by decide +kernel
theorem dX9_areTicks_0 : decode cX9_areTicks 0 = .ok (.iload_n 0, 1) := by decide +kernel
theorem dX9_areTicks_1 : decode cX9_areTicks 1 = .ok (.i2l, 1) := by decide +kernel
theorem dX9_areTicks_2 : decode cX9_areTicks 2 = .ok (.lconst 1, 1) := by decide +kernel
theorem dX9_areTicks_3 : decode cX9_areTicks 3 = .ok (.ldc2_w 178, 3) := by decide +kernel
theorem dX9_areTicks_6 : decode cX9_areTicks 6 = .ok (.invokestatic 50, 3) := by decide +kernel
theorem dX9_areTicks_9 : decode cX9_areTicks 9 = .ok (.ifCond .eq 19, 3) := by decide +kernel
theorem dX9_areTicks_12 : decode cX9_areTicks 12 = .ok (.iload_n 1, 1) := by decide +kernel
theorem dX9_areTicks_13 : decode cX9_areTicks 13 = .ok (.i2l, 1) := by decide +kernel
theorem dX9_areTicks_14 : decode cX9_areTicks 14 = .ok (.lconst 0, 1) := by decide +kernel
theorem dX9_areTicks_15 : decode cX9_areTicks 15 = .ok (.ldc2_w 60, 3) := by decide +kernel
theorem dX9_areTicks_18 : decode cX9_areTicks 18 = .ok (.invokestatic 50, 3) := by decide +kernel
theorem dX9_areTicks_21 : decode cX9_areTicks 21 = .ok (.ifCond .eq 7, 3) := by decide +kernel
theorem dX9_areTicks_24 : decode cX9_areTicks 24 = .ok (.iconst 1, 1) := by decide +kernel
theorem dX9_areTicks_25 : decode cX9_areTicks 25 = .ok (.goto 4, 3) := by decide +kernel
theorem dX9_areTicks_28 : decode cX9_areTicks 28 = .ok (.iconst 0, 1) := by decide +kernel
theorem dX9_areTicks_29 : decode cX9_areTicks 29 = .ok (.ireturn, 1) := by decide +kernel
theorem dX9_tick_0 : decode cX9_tick 0 = .ok (.aload_n 0, 1) := by decide +kernel
theorem dX9_tick_1 : decode cX9_tick 1 = .ok (.iload_n 1, 1) := by decide +kernel
theorem dX9_tick_2 : decode cX9_tick 2 = .ok (.iload_n 2, 1) := by decide +kernel
theorem dX9_tick_3 : decode cX9_tick 3 = .ok (.invokestatic 180, 3) := by decide +kernel
theorem dX9_tick_6 : decode cX9_tick 6 = .ok (.ifCond .eq 7, 3) := by decide +kernel
theorem dX9_tick_9 : decode cX9_tick 9 = .ok (.iconst 0, 1) := by decide +kernel
theorem dX9_tick_10 : decode cX9_tick 10 = .ok (.goto 4, 3) := by decide +kernel
theorem dX9_tick_13 : decode cX9_tick 13 = .ok (.iconst 1, 1) := by decide +kernel
theorem dX9_tick_14 : decode cX9_tick 14 = .ok (.invokevirtual 127, 3) := by decide +kernel
theorem dX9_tick_17 : decode cX9_tick 17 = .ok (.ifCond .eq 5, 3) := by decide +kernel
theorem dX9_tick_20 : decode cX9_tick 20 = .ok (.iconst 0, 1) := by decide +kernel
theorem dX9_tick_21 : decode cX9_tick 21 = .ok (.ireturn, 1) := by decide +kernel
theorem dX9_tick_22 : decode cX9_tick 22 = .ok (.aload_n 0, 1) := by decide +kernel
theorem dX9_tick_23 : decode cX9_tick 23 = .ok (.invokevirtual 184, 3) := by decide +kernel
theorem dX9_tick_26 : decode cX9_tick 26 = .ok (.aload_n 0, 1) := by decide +kernel
theorem dX9_tick_27 : decode cX9_tick 27 = .ok (.aload_n 0, 1) := by decide +kernel
theorem dX9_tick_28 : decode cX9_tick 28 = .ok (.getfield 23, 3) := by decide +kernel
theorem dX9_tick_31 : decode cX9_tick 31 = .ok (.iload_n 1, 1) := by decide +kernel
theorem dX9_tick_32 : decode cX9_tick 32 = .ok (.iload_n 2, 1) := by decide +kernel
theorem dX9_tick_33 : decode cX9_tick 33 = .ok (.invokevirtual 187, 3) := by decide +kernel
theorem dX9_tick_36 : decode cX9_tick 36 = .ok (.aload_n 0, 1) := by decide +kernel
theorem dX9_tick_37 : decode cX9_tick 37 = .ok (.aload_n 0, 1) := by decide +kernel
theorem dX9_tick_38 : decode cX9_tick 38 = .ok (.getfield 23, 3) := by decide +kernel
theorem dX9_tick_41 : decode cX9_tick 41 = .ok (.invokevirtual 87, 3) := by decide +kernel
theorem dX9_tick_44 : decode cX9_tick 44 = .ok (.ireturn, 1) := by decide +kernel
theorem dX9_draw_0 : decode cX9_draw 0 = .ok (.aload_n 0, 1) := by decide +kernel
theorem dX9_draw_1 : decode cX9_draw 1 = .ok (.iload_n 1, 1) := by decide +kernel
theorem dX9_draw_2 : decode cX9_draw 2 = .ok (.i2l, 1) := by decide +kernel
theorem dX9_draw_3 : decode cX9_draw 3 = .ok (.lconst 1, 1) := by decide +kernel
theorem dX9_draw_4 : decode cX9_draw 4 = .ok (.ldc2_w 191, 3) := by decide +kernel
theorem dX9_draw_7 : decode cX9_draw 7 = .ok (.invokestatic 50, 3) := by decide +kernel
theorem dX9_draw_10 : decode cX9_draw 10 = .ok (.ifCond .eq 7, 3) := by decide +kernel
theorem dX9_draw_13 : decode cX9_draw 13 = .ok (.iconst 0, 1) := by decide +kernel
theorem dX9_draw_14 : decode cX9_draw 14 = .ok (.goto 4, 3) := by decide +kernel
theorem dX9_draw_17 : decode cX9_draw 17 = .ok (.iconst 1, 1) := by decide +kernel
theorem dX9_draw_18 : decode cX9_draw 18 = .ok (.invokevirtual 127, 3) := by decide +kernel
theorem dX9_draw_21 : decode cX9_draw 21 = .ok (.ifCond .eq 5, 3) := by decide +kernel
theorem dX9_draw_24 : decode cX9_draw 24 = .ok (.iconst 0, 1) := by decide +kernel
theorem dX9_draw_25 : decode cX9_draw 25 = .ok (.ireturn, 1) := by decide +kernel
theorem dX9_draw_26 : decode cX9_draw 26 = .ok (.aload_n 0, 1) := by decide +kernel
theorem dX9_draw_27 : decode cX9_draw 27 = .ok (.invokevirtual 184, 3) := by decide +kernel
theorem dX9_draw_30 : decode cX9_draw 30 = .ok (.aload_n 0, 1) := by decide +kernel
theorem dX9_draw_31 : decode cX9_draw 31 = .ok (.aload_n 0, 1) := by decide +kernel
theorem dX9_draw_32 : decode cX9_draw 32 = .ok (.getfield 23, 3) := by decide +kernel
theorem dX9_draw_35 : decode cX9_draw 35 = .ok (.iload_n 1, 1) := by decide +kernel
theorem dX9_draw_36 : decode cX9_draw 36 = .ok (.invokevirtual 104, 3) := by decide +kernel
theorem dX9_draw_39 : decode cX9_draw 39 = .ok (.ireturn, 1) := by decide +kernel
theorem dX9_set_0 : decode cX9_set 0 = .ok (.aload_n 0, 1) := by decide +kernel
theorem dX9_set_1 : decode cX9_set 1 = .ok (.iload_n 1, 1) := by decide +kernel
theorem dX9_set_2 : decode cX9_set 2 = .ok (.iload_n 2, 1) := by decide +kernel
theorem dX9_set_3 : decode cX9_set 3 = .ok (.invokestatic 193, 3) := by decide +kernel
theorem dX9_set_6 : decode cX9_set 6 = .ok (.ifCond .eq 7, 3) := by decide +kernel
theorem dX9_set_9 : decode cX9_set 9 = .ok (.iconst 0, 1) := by decide +kernel
theorem dX9_set_10 : decode cX9_set 10 = .ok (.goto 4, 3) := by decide +kernel
theorem dX9_set_13 : decode cX9_set 13 = .ok (.iconst 1, 1) := by decide +kernel
theorem dX9_set_14 : decode cX9_set 14 = .ok (.invokevirtual 127, 3) := by decide +kernel
theorem dX9_set_17 : decode cX9_set 17 = .ok (.ifCond .eq 5, 3) := by decide +kernel
theorem dX9_set_20 : decode cX9_set 20 = .ok (.iconst 0, 1) := by decide +kernel
theorem dX9_set_21 : decode cX9_set 21 = .ok (.ireturn, 1) := by decide +kernel
theorem dX9_set_22 : decode cX9_set 22 = .ok (.aload_n 0, 1) := by decide +kernel
theorem dX9_set_23 : decode cX9_set 23 = .ok (.invokevirtual 184, 3) := by decide +kernel
theorem dX9_set_26 : decode cX9_set 26 = .ok (.aload_n 0, 1) := by decide +kernel
theorem dX9_set_27 : decode cX9_set 27 = .ok (.getfield 23, 3) := by decide +kernel
theorem dX9_set_30 : decode cX9_set 30 = .ok (.iload_n 1, 1) := by decide +kernel
theorem dX9_set_31 : decode cX9_set 31 = .ok (.iaload, 1) := by decide +kernel
theorem dX9_set_32 : decode cX9_set 32 = .ok (.istore_n 3, 1) := by decide +kernel
theorem dX9_set_33 : decode cX9_set 33 = .ok (.aload_n 0, 1) := by decide +kernel
theorem dX9_set_34 : decode cX9_set 34 = .ok (.getfield 23, 3) := by decide +kernel
theorem dX9_set_37 : decode cX9_set 37 = .ok (.iload_n 1, 1) := by decide +kernel
theorem dX9_set_38 : decode cX9_set 38 = .ok (.iload_n 2, 1) := by decide +kernel
theorem dX9_set_39 : decode cX9_set 39 = .ok (.iastore, 1) := by decide +kernel
theorem dX9_set_40 : decode cX9_set 40 = .ok (.iload_n 3, 1) := by decide +kernel
theorem dX9_set_41 : decode cX9_set 41 = .ok (.ireturn, 1) := by decide +kernel
theorem dX9_setFlue_0 : decode cX9_setFlue 0 = .ok (.aload_n 0, 1) := by decide +kernel
theorem dX9_setFlue_1 : decode cX9_setFlue 1 = .ok (.iload_n 1, 1) := by decide +kernel
theorem dX9_setFlue_2 : decode cX9_setFlue 2 = .ok (.i2l, 1) := by decide +kernel
theorem dX9_setFlue_3 : decode cX9_setFlue 3 = .ok (.lconst 0, 1) := by decide +kernel
theorem dX9_setFlue_4 : decode cX9_setFlue 4 = .ok (.lconst 1, 1) := by decide +kernel
theorem dX9_setFlue_5 : decode cX9_setFlue 5 = .ok (.invokestatic 50, 3) := by decide +kernel
theorem dX9_setFlue_8 : decode cX9_setFlue 8 = .ok (.ifCond .eq 7, 3) := by decide +kernel
theorem dX9_setFlue_11 : decode cX9_setFlue 11 = .ok (.iconst 0, 1) := by decide +kernel
theorem dX9_setFlue_12 : decode cX9_setFlue 12 = .ok (.goto 4, 3) := by decide +kernel
theorem dX9_setFlue_15 : decode cX9_setFlue 15 = .ok (.iconst 1, 1) := by decide +kernel
theorem dX9_setFlue_16 : decode cX9_setFlue 16 = .ok (.invokevirtual 127, 3) := by decide +kernel
theorem dX9_setFlue_19 : decode cX9_setFlue 19 = .ok (.ifCond .eq 5, 3) := by decide +kernel
theorem dX9_setFlue_22 : decode cX9_setFlue 22 = .ok (.iconst 0, 1) := by decide +kernel
theorem dX9_setFlue_23 : decode cX9_setFlue 23 = .ok (.ireturn, 1) := by decide +kernel
theorem dX9_setFlue_24 : decode cX9_setFlue 24 = .ok (.aload_n 0, 1) := by decide +kernel
theorem dX9_setFlue_25 : decode cX9_setFlue 25 = .ok (.invokevirtual 184, 3) := by decide +kernel
theorem dX9_setFlue_28 : decode cX9_setFlue 28 = .ok (.aload_n 0, 1) := by decide +kernel
theorem dX9_setFlue_29 : decode cX9_setFlue 29 = .ok (.aload_n 0, 1) := by decide +kernel
theorem dX9_setFlue_30 : decode cX9_setFlue 30 = .ok (.getfield 23, 3) := by decide +kernel
theorem dX9_setFlue_33 : decode cX9_setFlue 33 = .ok (.iload_n 1, 1) := by decide +kernel
theorem dX9_setFlue_34 : decode cX9_setFlue 34 = .ok (.iload_n 2, 1) := by decide +kernel
theorem dX9_setFlue_35 : decode cX9_setFlue 35 = .ok (.invokevirtual 196, 3) := by decide +kernel
theorem dX9_setFlue_38 : decode cX9_setFlue 38 = .ok (.ireturn, 1) := by decide +kernel
theorem dX9_setDraft_0 : decode cX9_setDraft 0 = .ok (.aload_n 0, 1) := by decide +kernel
theorem dX9_setDraft_1 : decode cX9_setDraft 1 = .ok (.iload_n 1, 1) := by decide +kernel
theorem dX9_setDraft_2 : decode cX9_setDraft 2 = .ok (.i2l, 1) := by decide +kernel
theorem dX9_setDraft_3 : decode cX9_setDraft 3 = .ok (.lconst 0, 1) := by decide +kernel
theorem dX9_setDraft_4 : decode cX9_setDraft 4 = .ok (.lconst 1, 1) := by decide +kernel
theorem dX9_setDraft_5 : decode cX9_setDraft 5 = .ok (.invokestatic 50, 3) := by decide +kernel
theorem dX9_setDraft_8 : decode cX9_setDraft 8 = .ok (.ifCond .ne 7, 3) := by decide +kernel
theorem dX9_setDraft_11 : decode cX9_setDraft 11 = .ok (.iconst 1, 1) := by decide +kernel
theorem dX9_setDraft_12 : decode cX9_setDraft 12 = .ok (.goto 20, 3) := by decide +kernel
theorem dX9_setDraft_15 : decode cX9_setDraft 15 = .ok (.iload_n 2, 1) := by decide +kernel
theorem dX9_setDraft_16 : decode cX9_setDraft 16 = .ok (.i2l, 1) := by decide +kernel
theorem dX9_setDraft_17 : decode cX9_setDraft 17 = .ok (.lconst 0, 1) := by decide +kernel
theorem dX9_setDraft_18 : decode cX9_setDraft 18 = .ok (.ldc2_w 200, 3) := by decide +kernel
theorem dX9_setDraft_21 : decode cX9_setDraft 21 = .ok (.invokestatic 50, 3) := by decide +kernel
theorem dX9_setDraft_24 : decode cX9_setDraft 24 = .ok (.ifCond .ne 7, 3) := by decide +kernel
theorem dX9_setDraft_27 : decode cX9_setDraft 27 = .ok (.iconst 2, 1) := by decide +kernel
theorem dX9_setDraft_28 : decode cX9_setDraft 28 = .ok (.goto 4, 3) := by decide +kernel
theorem dX9_setDraft_31 : decode cX9_setDraft 31 = .ok (.iconst 0, 1) := by decide +kernel
theorem dX9_setDraft_32 : decode cX9_setDraft 32 = .ok (.invokevirtual 127, 3) := by decide +kernel
theorem dX9_setDraft_35 : decode cX9_setDraft 35 = .ok (.ifCond .eq 5, 3) := by decide +kernel
theorem dX9_setDraft_38 : decode cX9_setDraft 38 = .ok (.iconst 0, 1) := by decide +kernel
theorem dX9_setDraft_39 : decode cX9_setDraft 39 = .ok (.ireturn, 1) := by decide +kernel
theorem dX9_setDraft_40 : decode cX9_setDraft 40 = .ok (.aload_n 0, 1) := by decide +kernel
theorem dX9_setDraft_41 : decode cX9_setDraft 41 = .ok (.invokevirtual 184, 3) := by decide +kernel
theorem dX9_setDraft_44 : decode cX9_setDraft 44 = .ok (.aload_n 0, 1) := by decide +kernel
theorem dX9_setDraft_45 : decode cX9_setDraft 45 = .ok (.getfield 23, 3) := by decide +kernel
theorem dX9_setDraft_48 : decode cX9_setDraft 48 = .ok (.bipush 18, 2) := by decide +kernel
theorem dX9_setDraft_50 : decode cX9_setDraft 50 = .ok (.iload_n 1, 1) := by decide +kernel
theorem dX9_setDraft_51 : decode cX9_setDraft 51 = .ok (.iadd, 1) := by decide +kernel
theorem dX9_setDraft_52 : decode cX9_setDraft 52 = .ok (.iaload, 1) := by decide +kernel
theorem dX9_setDraft_53 : decode cX9_setDraft 53 = .ok (.istore_n 3, 1) := by decide +kernel
theorem dX9_setDraft_54 : decode cX9_setDraft 54 = .ok (.aload_n 0, 1) := by decide +kernel
theorem dX9_setDraft_55 : decode cX9_setDraft 55 = .ok (.getfield 23, 3) := by decide +kernel
theorem dX9_setDraft_58 : decode cX9_setDraft 58 = .ok (.bipush 18, 2) := by decide +kernel
theorem dX9_setDraft_60 : decode cX9_setDraft 60 = .ok (.iload_n 1, 1) := by decide +kernel
theorem dX9_setDraft_61 : decode cX9_setDraft 61 = .ok (.iadd, 1) := by decide +kernel
theorem dX9_setDraft_62 : decode cX9_setDraft 62 = .ok (.iload_n 2, 1) := by decide +kernel
theorem dX9_setDraft_63 : decode cX9_setDraft 63 = .ok (.iastore, 1) := by decide +kernel
theorem dX9_setDraft_64 : decode cX9_setDraft 64 = .ok (.iload_n 3, 1) := by decide +kernel
theorem dX9_setDraft_65 : decode cX9_setDraft 65 = .ok (.ireturn, 1) := by decide +kernel
theorem dX9_lock_0 : decode cX9_lock 0 = .ok (.aload_n 0, 1) := by decide +kernel
theorem dX9_lock_1 : decode cX9_lock 1 = .ok (.aload_n 0, 1) := by decide +kernel
theorem dX9_lock_2 : decode cX9_lock 2 = .ok (.iload_n 1, 1) := by decide +kernel
theorem dX9_lock_3 : decode cX9_lock 3 = .ok (.invokevirtual 168, 3) := by decide +kernel
theorem dX9_lock_6 : decode cX9_lock 6 = .ok (.ifCond .ne 7, 3) := by decide +kernel
theorem dX9_lock_9 : decode cX9_lock 9 = .ok (.iconst 1, 1) := by decide +kernel
theorem dX9_lock_10 : decode cX9_lock 10 = .ok (.goto 23, 3) := by decide +kernel
theorem dX9_lock_13 : decode cX9_lock 13 = .ok (.aload_n 0, 1) := by decide +kernel
theorem dX9_lock_14 : decode cX9_lock 14 = .ok (.getfield 23, 3) := by decide +kernel
theorem dX9_lock_17 : decode cX9_lock 17 = .ok (.iload_n 1, 1) := by decide +kernel
theorem dX9_lock_18 : decode cX9_lock 18 = .ok (.invokestatic 68, 3) := by decide +kernel
theorem dX9_lock_21 : decode cX9_lock 21 = .ok (.iconst 2, 1) := by decide +kernel
theorem dX9_lock_22 : decode cX9_lock 22 = .ok (.iadd, 1) := by decide +kernel
theorem dX9_lock_23 : decode cX9_lock 23 = .ok (.iaload, 1) := by decide +kernel
theorem dX9_lock_24 : decode cX9_lock 24 = .ok (.iconst 4, 1) := by decide +kernel
theorem dX9_lock_25 : decode cX9_lock 25 = .ok (.if_icmp .ne 7, 3) := by decide +kernel
theorem dX9_lock_28 : decode cX9_lock 28 = .ok (.iconst 2, 1) := by decide +kernel
theorem dX9_lock_29 : decode cX9_lock 29 = .ok (.goto 4, 3) := by decide +kernel
theorem dX9_lock_32 : decode cX9_lock 32 = .ok (.iconst 0, 1) := by decide +kernel
theorem dX9_lock_33 : decode cX9_lock 33 = .ok (.invokevirtual 127, 3) := by decide +kernel
theorem dX9_lock_36 : decode cX9_lock 36 = .ok (.ifCond .eq 5, 3) := by decide +kernel
theorem dX9_lock_39 : decode cX9_lock 39 = .ok (.iconst 0, 1) := by decide +kernel
theorem dX9_lock_40 : decode cX9_lock 40 = .ok (.ireturn, 1) := by decide +kernel
theorem dX9_lock_41 : decode cX9_lock 41 = .ok (.aload_n 0, 1) := by decide +kernel
theorem dX9_lock_42 : decode cX9_lock 42 = .ok (.invokevirtual 184, 3) := by decide +kernel
theorem dX9_lock_45 : decode cX9_lock 45 = .ok (.aload_n 0, 1) := by decide +kernel
theorem dX9_lock_46 : decode cX9_lock 46 = .ok (.getfield 23, 3) := by decide +kernel
theorem dX9_lock_49 : decode cX9_lock 49 = .ok (.iload_n 1, 1) := by decide +kernel
theorem dX9_lock_50 : decode cX9_lock 50 = .ok (.invokestatic 68, 3) := by decide +kernel
theorem dX9_lock_53 : decode cX9_lock 53 = .ok (.iconst 2, 1) := by decide +kernel
theorem dX9_lock_54 : decode cX9_lock 54 = .ok (.iadd, 1) := by decide +kernel
theorem dX9_lock_55 : decode cX9_lock 55 = .ok (.iaload, 1) := by decide +kernel
theorem dX9_lock_56 : decode cX9_lock 56 = .ok (.istore_n 2, 1) := by decide +kernel
theorem dX9_lock_57 : decode cX9_lock 57 = .ok (.aload_n 0, 1) := by decide +kernel
theorem dX9_lock_58 : decode cX9_lock 58 = .ok (.getfield 23, 3) := by decide +kernel
theorem dX9_lock_61 : decode cX9_lock 61 = .ok (.iload_n 1, 1) := by decide +kernel
theorem dX9_lock_62 : decode cX9_lock 62 = .ok (.iconst 4, 1) := by decide +kernel
theorem dX9_lock_63 : decode cX9_lock 63 = .ok (.invokestatic 202, 3) := by decide +kernel
theorem dX9_lock_66 : decode cX9_lock 66 = .ok (.iload_n 2, 1) := by decide +kernel
theorem dX9_lock_67 : decode cX9_lock 67 = .ok (.ireturn, 1) := by decide +kernel
theorem dX9_unlock_0 : decode cX9_unlock 0 = .ok (.aload_n 0, 1) := by decide +kernel
theorem dX9_unlock_1 : decode cX9_unlock 1 = .ok (.aload_n 0, 1) := by decide +kernel
theorem dX9_unlock_2 : decode cX9_unlock 2 = .ok (.iload_n 1, 1) := by decide +kernel
theorem dX9_unlock_3 : decode cX9_unlock 3 = .ok (.invokevirtual 168, 3) := by decide +kernel
theorem dX9_unlock_6 : decode cX9_unlock 6 = .ok (.ifCond .ne 7, 3) := by decide +kernel
theorem dX9_unlock_9 : decode cX9_unlock 9 = .ok (.iconst 1, 1) := by decide +kernel
theorem dX9_unlock_10 : decode cX9_unlock 10 = .ok (.goto 23, 3) := by decide +kernel
theorem dX9_unlock_13 : decode cX9_unlock 13 = .ok (.aload_n 0, 1) := by decide +kernel
theorem dX9_unlock_14 : decode cX9_unlock 14 = .ok (.getfield 23, 3) := by decide +kernel
theorem dX9_unlock_17 : decode cX9_unlock 17 = .ok (.iload_n 1, 1) := by decide +kernel
theorem dX9_unlock_18 : decode cX9_unlock 18 = .ok (.invokestatic 68, 3) := by decide +kernel
theorem dX9_unlock_21 : decode cX9_unlock 21 = .ok (.iconst 2, 1) := by decide +kernel
theorem dX9_unlock_22 : decode cX9_unlock 22 = .ok (.iadd, 1) := by decide +kernel
theorem dX9_unlock_23 : decode cX9_unlock 23 = .ok (.iaload, 1) := by decide +kernel
theorem dX9_unlock_24 : decode cX9_unlock 24 = .ok (.iconst 4, 1) := by decide +kernel
theorem dX9_unlock_25 : decode cX9_unlock 25 = .ok (.if_icmp .eq 7, 3) := by decide +kernel
theorem dX9_unlock_28 : decode cX9_unlock 28 = .ok (.iconst 2, 1) := by decide +kernel
theorem dX9_unlock_29 : decode cX9_unlock 29 = .ok (.goto 4, 3) := by decide +kernel
theorem dX9_unlock_32 : decode cX9_unlock 32 = .ok (.iconst 0, 1) := by decide +kernel
theorem dX9_unlock_33 : decode cX9_unlock 33 = .ok (.invokevirtual 127, 3) := by decide +kernel
theorem dX9_unlock_36 : decode cX9_unlock 36 = .ok (.ifCond .eq 5, 3) := by decide +kernel
theorem dX9_unlock_39 : decode cX9_unlock 39 = .ok (.iconst 0, 1) := by decide +kernel
theorem dX9_unlock_40 : decode cX9_unlock 40 = .ok (.ireturn, 1) := by decide +kernel
theorem dX9_unlock_41 : decode cX9_unlock 41 = .ok (.aload_n 0, 1) := by decide +kernel
theorem dX9_unlock_42 : decode cX9_unlock 42 = .ok (.invokevirtual 184, 3) := by decide +kernel
theorem dX9_unlock_45 : decode cX9_unlock 45 = .ok (.aload_n 0, 1) := by decide +kernel
theorem dX9_unlock_46 : decode cX9_unlock 46 = .ok (.getfield 23, 3) := by decide +kernel
theorem dX9_unlock_49 : decode cX9_unlock 49 = .ok (.iload_n 1, 1) := by decide +kernel
theorem dX9_unlock_50 : decode cX9_unlock 50 = .ok (.iconst 0, 1) := by decide +kernel
theorem dX9_unlock_51 : decode cX9_unlock 51 = .ok (.invokestatic 202, 3) := by decide +kernel
theorem dX9_unlock_54 : decode cX9_unlock 54 = .ok (.aload_n 0, 1) := by decide +kernel
theorem dX9_unlock_55 : decode cX9_unlock 55 = .ok (.aload_n 0, 1) := by decide +kernel
theorem dX9_unlock_56 : decode cX9_unlock 56 = .ok (.getfield 23, 3) := by decide +kernel
theorem dX9_unlock_59 : decode cX9_unlock 59 = .ok (.iconst 4, 1) := by decide +kernel
theorem dX9_unlock_60 : decode cX9_unlock 60 = .ok (.invokevirtual 165, 3) := by decide +kernel
theorem dX9_unlock_63 : decode cX9_unlock 63 = .ok (.ireturn, 1) := by decide +kernel
theorem dX9_putOff_0 : decode cX9_putOff 0 = .ok (.aload_n 0, 1) := by decide +kernel
theorem dX9_putOff_1 : decode cX9_putOff 1 = .ok (.aload_n 0, 1) := by decide +kernel
theorem dX9_putOff_2 : decode cX9_putOff 2 = .ok (.iload_n 1, 1) := by decide +kernel
theorem dX9_putOff_3 : decode cX9_putOff 3 = .ok (.invokevirtual 168, 3) := by decide +kernel
theorem dX9_putOff_6 : decode cX9_putOff 6 = .ok (.ifCond .ne 7, 3) := by decide +kernel
theorem dX9_putOff_9 : decode cX9_putOff 9 = .ok (.iconst 1, 1) := by decide +kernel
theorem dX9_putOff_10 : decode cX9_putOff 10 = .ok (.goto 23, 3) := by decide +kernel
theorem dX9_putOff_13 : decode cX9_putOff 13 = .ok (.aload_n 0, 1) := by decide +kernel
theorem dX9_putOff_14 : decode cX9_putOff 14 = .ok (.getfield 23, 3) := by decide +kernel
theorem dX9_putOff_17 : decode cX9_putOff 17 = .ok (.iload_n 1, 1) := by decide +kernel
theorem dX9_putOff_18 : decode cX9_putOff 18 = .ok (.invokestatic 68, 3) := by decide +kernel
theorem dX9_putOff_21 : decode cX9_putOff 21 = .ok (.iconst 2, 1) := by decide +kernel
theorem dX9_putOff_22 : decode cX9_putOff 22 = .ok (.iadd, 1) := by decide +kernel
theorem dX9_putOff_23 : decode cX9_putOff 23 = .ok (.iaload, 1) := by decide +kernel
theorem dX9_putOff_24 : decode cX9_putOff 24 = .ok (.iconst 3, 1) := by decide +kernel
theorem dX9_putOff_25 : decode cX9_putOff 25 = .ok (.if_icmp .eq 7, 3) := by decide +kernel
theorem dX9_putOff_28 : decode cX9_putOff 28 = .ok (.iconst 2, 1) := by decide +kernel
theorem dX9_putOff_29 : decode cX9_putOff 29 = .ok (.goto 4, 3) := by decide +kernel
theorem dX9_putOff_32 : decode cX9_putOff 32 = .ok (.iconst 0, 1) := by decide +kernel
theorem dX9_putOff_33 : decode cX9_putOff 33 = .ok (.invokevirtual 127, 3) := by decide +kernel
theorem dX9_putOff_36 : decode cX9_putOff 36 = .ok (.ifCond .eq 5, 3) := by decide +kernel
theorem dX9_putOff_39 : decode cX9_putOff 39 = .ok (.iconst 0, 1) := by decide +kernel
theorem dX9_putOff_40 : decode cX9_putOff 40 = .ok (.ireturn, 1) := by decide +kernel
theorem dX9_putOff_41 : decode cX9_putOff 41 = .ok (.aload_n 0, 1) := by decide +kernel
theorem dX9_putOff_42 : decode cX9_putOff 42 = .ok (.invokevirtual 184, 3) := by decide +kernel
theorem dX9_putOff_45 : decode cX9_putOff 45 = .ok (.aload_n 0, 1) := by decide +kernel
theorem dX9_putOff_46 : decode cX9_putOff 46 = .ok (.getfield 23, 3) := by decide +kernel
theorem dX9_putOff_49 : decode cX9_putOff 49 = .ok (.iload_n 1, 1) := by decide +kernel
theorem dX9_putOff_50 : decode cX9_putOff 50 = .ok (.iconst 0, 1) := by decide +kernel
theorem dX9_putOff_51 : decode cX9_putOff 51 = .ok (.invokestatic 202, 3) := by decide +kernel
theorem dX9_putOff_54 : decode cX9_putOff 54 = .ok (.aload_n 0, 1) := by decide +kernel
theorem dX9_putOff_55 : decode cX9_putOff 55 = .ok (.getfield 23, 3) := by decide +kernel
theorem dX9_putOff_58 : decode cX9_putOff 58 = .ok (.iload_n 1, 1) := by decide +kernel
theorem dX9_putOff_59 : decode cX9_putOff 59 = .ok (.invokestatic 68, 3) := by decide +kernel
theorem dX9_putOff_62 : decode cX9_putOff 62 = .ok (.bipush 6, 2) := by decide +kernel
theorem dX9_putOff_64 : decode cX9_putOff 64 = .ok (.iadd, 1) := by decide +kernel
theorem dX9_putOff_65 : decode cX9_putOff 65 = .ok (.iaload, 1) := by decide +kernel
theorem dX9_putOff_66 : decode cX9_putOff 66 = .ok (.ireturn, 1) := by decide +kernel
theorem dX9_undo_0 : decode cX9_undo 0 = .ok (.aload_n 0, 1) := by decide +kernel
theorem dX9_undo_1 : decode cX9_undo 1 = .ok (.aload_n 0, 1) := by decide +kernel
theorem dX9_undo_2 : decode cX9_undo 2 = .ok (.getfield 160, 3) := by decide +kernel
theorem dX9_undo_5 : decode cX9_undo 5 = .ok (.ifCond .ne 7, 3) := by decide +kernel
theorem dX9_undo_8 : decode cX9_undo 8 = .ok (.iconst 1, 1) := by decide +kernel
theorem dX9_undo_9 : decode cX9_undo 9 = .ok (.goto 4, 3) := by decide +kernel
theorem dX9_undo_12 : decode cX9_undo 12 = .ok (.iconst 0, 1) := by decide +kernel
theorem dX9_undo_13 : decode cX9_undo 13 = .ok (.invokevirtual 127, 3) := by decide +kernel
theorem dX9_undo_16 : decode cX9_undo 16 = .ok (.ifCond .eq 5, 3) := by decide +kernel
theorem dX9_undo_19 : decode cX9_undo 19 = .ok (.iconst 0, 1) := by decide +kernel
theorem dX9_undo_20 : decode cX9_undo 20 = .ok (.ireturn, 1) := by decide +kernel
theorem dX9_undo_21 : decode cX9_undo 21 = .ok (.aload_n 0, 1) := by decide +kernel
theorem dX9_undo_22 : decode cX9_undo 22 = .ok (.dup, 1) := by decide +kernel
theorem dX9_undo_23 : decode cX9_undo 23 = .ok (.getfield 160, 3) := by decide +kernel
theorem dX9_undo_26 : decode cX9_undo 26 = .ok (.iconst 1, 1) := by decide +kernel
theorem dX9_undo_27 : decode cX9_undo 27 = .ok (.isub, 1) := by decide +kernel
theorem dX9_undo_28 : decode cX9_undo 28 = .ok (.putfield 160, 3) := by decide +kernel
theorem dX9_undo_31 : decode cX9_undo 31 = .ok (.aload_n 0, 1) := by decide +kernel
theorem dX9_undo_32 : decode cX9_undo 32 = .ok (.getfield 29, 3) := by decide +kernel
theorem dX9_undo_35 : decode cX9_undo 35 = .ok (.bipush 65, 2) := by decide +kernel
theorem dX9_undo_37 : decode cX9_undo 37 = .ok (.aload_n 0, 1) := by decide +kernel
theorem dX9_undo_38 : decode cX9_undo 38 = .ok (.getfield 160, 3) := by decide +kernel
theorem dX9_undo_41 : decode cX9_undo 41 = .ok (.imul, 1) := by decide +kernel
theorem dX9_undo_42 : decode cX9_undo 42 = .ok (.aload_n 0, 1) := by decide +kernel
theorem dX9_undo_43 : decode cX9_undo 43 = .ok (.getfield 23, 3) := by decide +kernel
theorem dX9_undo_46 : decode cX9_undo 46 = .ok (.iconst 0, 1) := by decide +kernel
theorem dX9_undo_47 : decode cX9_undo 47 = .ok (.invokestatic 156, 3) := by decide +kernel
theorem dX9_undo_50 : decode cX9_undo 50 = .ok (.aload_n 0, 1) := by decide +kernel
theorem dX9_undo_51 : decode cX9_undo 51 = .ok (.getfield 160, 3) := by decide +kernel
theorem dX9_undo_54 : decode cX9_undo 54 = .ok (.ireturn, 1) := by decide +kernel
theorem dX9_next_0 : decode cX9_next 0 = .ok (.aload_n 0, 1) := by decide +kernel
theorem dX9_next_1 : decode cX9_next 1 = .ok (.iconst 0, 1) := by decide +kernel
theorem dX9_next_2 : decode cX9_next 2 = .ok (.putfield 43, 3) := by decide +kernel
theorem dX9_next_5 : decode cX9_next 5 = .ok (.aload_n 0, 1) := by decide +kernel
theorem dX9_next_6 : decode cX9_next 6 = .ok (.aload_n 0, 1) := by decide +kernel
theorem dX9_next_7 : decode cX9_next 7 = .ok (.getfield 23, 3) := by decide +kernel
theorem dX9_next_10 : decode cX9_next 10 = .ok (.invokevirtual 91, 3) := by decide +kernel
theorem dX9_next_13 : decode cX9_next 13 = .ok (.ireturn, 1) := by decide +kernel
theorem dX9_whyNot_0 : decode cX9_whyNot 0 = .ok (.aload_n 0, 1) := by decide +kernel
theorem dX9_whyNot_1 : decode cX9_whyNot 1 = .ok (.aload_n 0, 1) := by decide +kernel
theorem dX9_whyNot_2 : decode cX9_whyNot 2 = .ok (.iload_n 1, 1) := by decide +kernel
theorem dX9_whyNot_3 : decode cX9_whyNot 3 = .ok (.invokevirtual 168, 3) := by decide +kernel
theorem dX9_whyNot_6 : decode cX9_whyNot 6 = .ok (.ifCond .eq 7, 3) := by decide +kernel
theorem dX9_whyNot_9 : decode cX9_whyNot 9 = .ok (.iconst 0, 1) := by decide +kernel
theorem dX9_whyNot_10 : decode cX9_whyNot 10 = .ok (.goto 4, 3) := by decide +kernel
theorem dX9_whyNot_13 : decode cX9_whyNot 13 = .ok (.iconst 1, 1) := by decide +kernel
theorem dX9_whyNot_14 : decode cX9_whyNot 14 = .ok (.invokevirtual 127, 3) := by decide +kernel
theorem dX9_whyNot_17 : decode cX9_whyNot 17 = .ok (.ifCond .eq 5, 3) := by decide +kernel
theorem dX9_whyNot_20 : decode cX9_whyNot 20 = .ok (.iconst 0, 1) := by decide +kernel
theorem dX9_whyNot_21 : decode cX9_whyNot 21 = .ok (.ireturn, 1) := by decide +kernel
theorem dX9_whyNot_22 : decode cX9_whyNot 22 = .ok (.aload_n 0, 1) := by decide +kernel
theorem dX9_whyNot_23 : decode cX9_whyNot 23 = .ok (.getfield 23, 3) := by decide +kernel
theorem dX9_whyNot_26 : decode cX9_whyNot 26 = .ok (.iload_n 1, 1) := by decide +kernel
theorem dX9_whyNot_27 : decode cX9_whyNot 27 = .ok (.invokestatic 68, 3) := by decide +kernel
theorem dX9_whyNot_30 : decode cX9_whyNot 30 = .ok (.iconst 2, 1) := by decide +kernel
theorem dX9_whyNot_31 : decode cX9_whyNot 31 = .ok (.iadd, 1) := by decide +kernel
theorem dX9_whyNot_32 : decode cX9_whyNot 32 = .ok (.iaload, 1) := by decide +kernel
theorem dX9_whyNot_33 : decode cX9_whyNot 33 = .ok (.istore_n 2, 1) := by decide +kernel
theorem dX9_whyNot_34 : decode cX9_whyNot 34 = .ok (.iload_n 2, 1) := by decide +kernel
theorem dX9_whyNot_35 : decode cX9_whyNot 35 = .ok (.invokestatic 72, 3) := by decide +kernel
theorem dX9_whyNot_38 : decode cX9_whyNot 38 = .ok (.ifCond .eq 7, 3) := by decide +kernel
theorem dX9_whyNot_41 : decode cX9_whyNot 41 = .ok (.iconst 1, 1) := by decide +kernel
theorem dX9_whyNot_42 : decode cX9_whyNot 42 = .ok (.goto 55, 3) := by decide +kernel
theorem dX9_whyNot_45 : decode cX9_whyNot 45 = .ok (.iload_n 2, 1) := by decide +kernel
theorem dX9_whyNot_46 : decode cX9_whyNot 46 = .ok (.iconst 4, 1) := by decide +kernel
theorem dX9_whyNot_47 : decode cX9_whyNot 47 = .ok (.if_icmp .ne 7, 3) := by decide +kernel
theorem dX9_whyNot_50 : decode cX9_whyNot 50 = .ok (.iconst 2, 1) := by decide +kernel
theorem dX9_whyNot_51 : decode cX9_whyNot 51 = .ok (.goto 46, 3) := by decide +kernel
theorem dX9_whyNot_54 : decode cX9_whyNot 54 = .ok (.aload_n 0, 1) := by decide +kernel
theorem dX9_whyNot_55 : decode cX9_whyNot 55 = .ok (.aload_n 0, 1) := by decide +kernel
theorem dX9_whyNot_56 : decode cX9_whyNot 56 = .ok (.getfield 23, 3) := by decide +kernel
theorem dX9_whyNot_59 : decode cX9_whyNot 59 = .ok (.iload_n 1, 1) := by decide +kernel
theorem dX9_whyNot_60 : decode cX9_whyNot 60 = .ok (.invokevirtual 83, 3) := by decide +kernel
theorem dX9_whyNot_63 : decode cX9_whyNot 63 = .ok (.ifCond .eq 7, 3) := by decide +kernel
theorem dX9_whyNot_66 : decode cX9_whyNot 66 = .ok (.iconst 0, 1) := by decide +kernel
theorem dX9_whyNot_67 : decode cX9_whyNot 67 = .ok (.goto 30, 3) := by decide +kernel
theorem dX9_whyNot_70 : decode cX9_whyNot 70 = .ok (.aload_n 0, 1) := by decide +kernel
theorem dX9_whyNot_71 : decode cX9_whyNot 71 = .ok (.getfield 23, 3) := by decide +kernel
theorem dX9_whyNot_74 : decode cX9_whyNot 74 = .ok (.bipush 20, 2) := by decide +kernel
theorem dX9_whyNot_76 : decode cX9_whyNot 76 = .ok (.aload_n 0, 1) := by decide +kernel
theorem dX9_whyNot_77 : decode cX9_whyNot 77 = .ok (.getfield 23, 3) := by decide +kernel
theorem dX9_whyNot_80 : decode cX9_whyNot 80 = .ok (.iload_n 1, 1) := by decide +kernel
theorem dX9_whyNot_81 : decode cX9_whyNot 81 = .ok (.invokestatic 68, 3) := by decide +kernel
theorem dX9_whyNot_84 : decode cX9_whyNot 84 = .ok (.iconst 1, 1) := by decide +kernel
theorem dX9_whyNot_85 : decode cX9_whyNot 85 = .ok (.iadd, 1) := by decide +kernel
theorem dX9_whyNot_86 : decode cX9_whyNot 86 = .ok (.iaload, 1) := by decide +kernel
theorem dX9_whyNot_87 : decode cX9_whyNot 87 = .ok (.iadd, 1) := by decide +kernel
theorem dX9_whyNot_88 : decode cX9_whyNot 88 = .ok (.iaload, 1) := by decide +kernel
theorem dX9_whyNot_89 : decode cX9_whyNot 89 = .ok (.ifCond .ne 7, 3) := by decide +kernel
theorem dX9_whyNot_92 : decode cX9_whyNot 92 = .ok (.iconst 3, 1) := by decide +kernel
theorem dX9_whyNot_93 : decode cX9_whyNot 93 = .ok (.goto 4, 3) := by decide +kernel
theorem dX9_whyNot_96 : decode cX9_whyNot 96 = .ok (.iconst 4, 1) := by decide +kernel
theorem dX9_whyNot_97 : decode cX9_whyNot 97 = .ok (.ireturn, 1) := by decide +kernel
theorem dX9_smallestSet_0 : decode cX9_smallestSet 0 = .ok (.aload_n 0, 1) := by decide +kernel
theorem dX9_smallestSet_1 : decode cX9_smallestSet 1 = .ok (.iload_n 1, 1) := by decide +kernel
theorem dX9_smallestSet_2 : decode cX9_smallestSet 2 = .ok (.i2l, 1) := by decide +kernel
theorem dX9_smallestSet_3 : decode cX9_smallestSet 3 = .ok (.lconst 1, 1) := by decide +kernel
theorem dX9_smallestSet_4 : decode cX9_smallestSet 4 = .ok (.ldc2_w 205, 3) := by decide +kernel
theorem dX9_smallestSet_7 : decode cX9_smallestSet 7 = .ok (.invokestatic 50, 3) := by decide +kernel
theorem dX9_smallestSet_10 : decode cX9_smallestSet 10 = .ok (.ifCond .eq 7, 3) := by decide +kernel
theorem dX9_smallestSet_13 : decode cX9_smallestSet 13 = .ok (.iconst 0, 1) := by decide +kernel
theorem dX9_smallestSet_14 : decode cX9_smallestSet 14 = .ok (.goto 4, 3) := by decide +kernel
theorem dX9_smallestSet_17 : decode cX9_smallestSet 17 = .ok (.iconst 1, 1) := by decide +kernel
theorem dX9_smallestSet_18 : decode cX9_smallestSet 18 = .ok (.invokevirtual 127, 3) := by decide +kernel
theorem dX9_smallestSet_21 : decode cX9_smallestSet 21 = .ok (.ifCond .eq 5, 3) := by decide +kernel
theorem dX9_smallestSet_24 : decode cX9_smallestSet 24 = .ok (.iconst 0, 1) := by decide +kernel
theorem dX9_smallestSet_25 : decode cX9_smallestSet 25 = .ok (.ireturn, 1) := by decide +kernel
theorem dX9_smallestSet_26 : decode cX9_smallestSet 26 = .ok (.bipush (-9), 2) := by decide +kernel
theorem dX9_smallestSet_28 : decode cX9_smallestSet 28 = .ok (.istore_n 3, 1) := by decide +kernel
theorem dX9_smallestSet_29 : decode cX9_smallestSet 29 = .ok (.iconst 0, 1) := by decide +kernel
theorem dX9_smallestSet_30 : decode cX9_smallestSet 30 = .ok (.istore 4, 2) := by decide +kernel
theorem dX9_smallestSet_32 : decode cX9_smallestSet 32 = .ok (.iconst 0, 1) := by decide +kernel
theorem dX9_smallestSet_33 : decode cX9_smallestSet 33 = .ok (.istore 5, 2) := by decide +kernel
theorem dX9_smallestSet_35 : decode cX9_smallestSet 35 = .ok (.iconst 1, 1) := by decide +kernel
theorem dX9_smallestSet_36 : decode cX9_smallestSet 36 = .ok (.istore 6, 2) := by decide +kernel
theorem dX9_smallestSet_38 : decode cX9_smallestSet 38 = .ok (.iload 6, 2) := by decide +kernel
theorem dX9_smallestSet_40 : decode cX9_smallestSet 40 = .ok (.iconst 1, 1) := by decide +kernel
theorem dX9_smallestSet_41 : decode cX9_smallestSet 41 = .ok (.aload_n 0, 1) := by decide +kernel
theorem dX9_smallestSet_42 : decode cX9_smallestSet 42 = .ok (.getfield 13, 3) := by decide +kernel
theorem dX9_smallestSet_45 : decode cX9_smallestSet 45 = .ok (.ishl, 1) := by decide +kernel
theorem dX9_smallestSet_46 : decode cX9_smallestSet 46 = .ok (.if_icmp .ge 235, 3) := by decide +kernel
theorem dX9_smallestSet_49 : decode cX9_smallestSet 49 = .ok (.iconst 0, 1) := by decide +kernel
theorem dX9_smallestSet_50 : decode cX9_smallestSet 50 = .ok (.istore 7, 2) := by decide +kernel
theorem dX9_smallestSet_52 : decode cX9_smallestSet 52 = .ok (.iconst 0, 1) := by decide +kernel
theorem dX9_smallestSet_53 : decode cX9_smallestSet 53 = .ok (.istore 8, 2) := by decide +kernel
theorem dX9_smallestSet_55 : decode cX9_smallestSet 55 = .ok (.iconst 0, 1) := by decide +kernel
theorem dX9_smallestSet_56 : decode cX9_smallestSet 56 = .ok (.istore 9, 2) := by decide +kernel
theorem dX9_smallestSet_58 : decode cX9_smallestSet 58 = .ok (.iconst 0, 1) := by decide +kernel
theorem dX9_smallestSet_59 : decode cX9_smallestSet 59 = .ok (.istore 10, 2) := by decide +kernel
theorem dX9_smallestSet_61 : decode cX9_smallestSet 61 = .ok (.iload 10, 2) := by decide +kernel
theorem dX9_smallestSet_63 : decode cX9_smallestSet 63 = .ok (.aload_n 0, 1) := by decide +kernel
theorem dX9_smallestSet_64 : decode cX9_smallestSet 64 = .ok (.getfield 13, 3) := by decide +kernel
theorem dX9_smallestSet_67 : decode cX9_smallestSet 67 = .ok (.if_icmp .ge 121, 3) := by decide +kernel
theorem dX9_smallestSet_70 : decode cX9_smallestSet 70 = .ok (.iload 6, 2) := by decide +kernel
theorem dX9_smallestSet_72 : decode cX9_smallestSet 72 = .ok (.iload 10, 2) := by decide +kernel
theorem dX9_smallestSet_74 : decode cX9_smallestSet 74 = .ok (.ishr, 1) := by decide +kernel
theorem dX9_smallestSet_75 : decode cX9_smallestSet 75 = .ok (.iconst 1, 1) := by decide +kernel
theorem dX9_smallestSet_76 : decode cX9_smallestSet 76 = .ok (.iand, 1) := by decide +kernel
theorem dX9_smallestSet_77 : decode cX9_smallestSet 77 = .ok (.iconst 1, 1) := by decide +kernel
theorem dX9_smallestSet_78 : decode cX9_smallestSet 78 = .ok (.if_icmp .ne 7, 3) := by decide +kernel
theorem dX9_smallestSet_81 : decode cX9_smallestSet 81 = .ok (.iconst 1, 1) := by decide +kernel
theorem dX9_smallestSet_82 : decode cX9_smallestSet 82 = .ok (.goto 4, 3) := by decide +kernel
theorem dX9_smallestSet_85 : decode cX9_smallestSet 85 = .ok (.iconst 0, 1) := by decide +kernel
theorem dX9_smallestSet_86 : decode cX9_smallestSet 86 = .ok (.istore 11, 2) := by decide +kernel
theorem dX9_smallestSet_88 : decode cX9_smallestSet 88 = .ok (.iload 7, 2) := by decide +kernel
theorem dX9_smallestSet_90 : decode cX9_smallestSet 90 = .ok (.iload 11, 2) := by decide +kernel
theorem dX9_smallestSet_92 : decode cX9_smallestSet 92 = .ok (.ifCond .eq 7, 3) := by decide +kernel
theorem dX9_smallestSet_95 : decode cX9_smallestSet 95 = .ok (.iconst 1, 1) := by decide +kernel
theorem dX9_smallestSet_96 : decode cX9_smallestSet 96 = .ok (.goto 4, 3) := by decide +kernel
theorem dX9_smallestSet_99 : decode cX9_smallestSet 99 = .ok (.iconst 0, 1) := by decide +kernel
theorem dX9_smallestSet_100 : decode cX9_smallestSet 100 = .ok (.iadd, 1) := by decide +kernel
theorem dX9_smallestSet_101 : decode cX9_smallestSet 101 = .ok (.istore 7, 2) := by decide +kernel
theorem dX9_smallestSet_103 : decode cX9_smallestSet 103 = .ok (.iload 8, 2) := by decide +kernel
theorem dX9_smallestSet_105 : decode cX9_smallestSet 105 = .ok (.iload 11, 2) := by decide +kernel
theorem dX9_smallestSet_107 : decode cX9_smallestSet 107 = .ok (.ifCond .eq 31, 3) := by decide +kernel
theorem dX9_smallestSet_110 : decode cX9_smallestSet 110 = .ok (.aload_n 0, 1) := by decide +kernel
theorem dX9_smallestSet_111 : decode cX9_smallestSet 111 = .ok (.getfield 23, 3) := by decide +kernel
theorem dX9_smallestSet_114 : decode cX9_smallestSet 114 = .ok (.iload 10, 2) := by decide +kernel
theorem dX9_smallestSet_116 : decode cX9_smallestSet 116 = .ok (.invokestatic 68, 3) := by decide +kernel
theorem dX9_smallestSet_119 : decode cX9_smallestSet 119 = .ok (.iconst 1, 1) := by decide +kernel
theorem dX9_smallestSet_120 : decode cX9_smallestSet 120 = .ok (.iadd, 1) := by decide +kernel
theorem dX9_smallestSet_121 : decode cX9_smallestSet 121 = .ok (.iaload, 1) := by decide +kernel
theorem dX9_smallestSet_122 : decode cX9_smallestSet 122 = .ok (.ifCond .ne 16, 3) := by decide +kernel
theorem dX9_smallestSet_125 : decode cX9_smallestSet 125 = .ok (.aload_n 0, 1) := by decide +kernel
theorem dX9_smallestSet_126 : decode cX9_smallestSet 126 = .ok (.getfield 23, 3) := by decide +kernel
theorem dX9_smallestSet_129 : decode cX9_smallestSet 129 = .ok (.iload 10, 2) := by decide +kernel
theorem dX9_smallestSet_131 : decode cX9_smallestSet 131 = .ok (.invokestatic 68, 3) := by decide +kernel
theorem dX9_smallestSet_134 : decode cX9_smallestSet 134 = .ok (.iaload, 1) := by decide +kernel
theorem dX9_smallestSet_135 : decode cX9_smallestSet 135 = .ok (.goto 4, 3) := by decide +kernel
theorem dX9_smallestSet_138 : decode cX9_smallestSet 138 = .ok (.iconst 0, 1) := by decide +kernel
theorem dX9_smallestSet_139 : decode cX9_smallestSet 139 = .ok (.iadd, 1) := by decide +kernel
theorem dX9_smallestSet_140 : decode cX9_smallestSet 140 = .ok (.istore 8, 2) := by decide +kernel
theorem dX9_smallestSet_142 : decode cX9_smallestSet 142 = .ok (.iload 9, 2) := by decide +kernel
theorem dX9_smallestSet_144 : decode cX9_smallestSet 144 = .ok (.iload 11, 2) := by decide +kernel
theorem dX9_smallestSet_146 : decode cX9_smallestSet 146 = .ok (.ifCond .eq 32, 3) := by decide +kernel
theorem dX9_smallestSet_149 : decode cX9_smallestSet 149 = .ok (.aload_n 0, 1) := by decide +kernel
theorem dX9_smallestSet_150 : decode cX9_smallestSet 150 = .ok (.getfield 23, 3) := by decide +kernel
theorem dX9_smallestSet_153 : decode cX9_smallestSet 153 = .ok (.iload 10, 2) := by decide +kernel
theorem dX9_smallestSet_155 : decode cX9_smallestSet 155 = .ok (.invokestatic 68, 3) := by decide +kernel
theorem dX9_smallestSet_158 : decode cX9_smallestSet 158 = .ok (.iconst 1, 1) := by decide +kernel
theorem dX9_smallestSet_159 : decode cX9_smallestSet 159 = .ok (.iadd, 1) := by decide +kernel
theorem dX9_smallestSet_160 : decode cX9_smallestSet 160 = .ok (.iaload, 1) := by decide +kernel
theorem dX9_smallestSet_161 : decode cX9_smallestSet 161 = .ok (.iconst 1, 1) := by decide +kernel
theorem dX9_smallestSet_162 : decode cX9_smallestSet 162 = .ok (.if_icmp .ne 16, 3) := by decide +kernel
theorem dX9_smallestSet_165 : decode cX9_smallestSet 165 = .ok (.aload_n 0, 1) := by decide +kernel
theorem dX9_smallestSet_166 : decode cX9_smallestSet 166 = .ok (.getfield 23, 3) := by decide +kernel
theorem dX9_smallestSet_169 : decode cX9_smallestSet 169 = .ok (.iload 10, 2) := by decide +kernel
theorem dX9_smallestSet_171 : decode cX9_smallestSet 171 = .ok (.invokestatic 68, 3) := by decide +kernel
theorem dX9_smallestSet_174 : decode cX9_smallestSet 174 = .ok (.iaload, 1) := by decide +kernel
theorem dX9_smallestSet_175 : decode cX9_smallestSet 175 = .ok (.goto 4, 3) := by decide +kernel
theorem dX9_smallestSet_178 : decode cX9_smallestSet 178 = .ok (.iconst 0, 1) := by decide +kernel
theorem dX9_smallestSet_179 : decode cX9_smallestSet 179 = .ok (.iadd, 1) := by decide +kernel
theorem dX9_smallestSet_180 : decode cX9_smallestSet 180 = .ok (.istore 9, 2) := by decide +kernel
theorem dX9_smallestSet_182 : decode cX9_smallestSet 182 = .ok (.iinc 10 1, 3) := by decide +kernel
theorem dX9_smallestSet_185 : decode cX9_smallestSet 185 = .ok (.goto (-124), 3) := by decide +kernel
theorem dX9_smallestSet_188 : decode cX9_smallestSet 188 = .ok (.iload 8, 2) := by decide +kernel
theorem dX9_smallestSet_190 : decode cX9_smallestSet 190 = .ok (.iload 9, 2) := by decide +kernel
theorem dX9_smallestSet_192 : decode cX9_smallestSet 192 = .ok (.iadd, 1) := by decide +kernel
theorem dX9_smallestSet_193 : decode cX9_smallestSet 193 = .ok (.istore 10, 2) := by decide +kernel
theorem dX9_smallestSet_195 : decode cX9_smallestSet 195 = .ok (.iload 8, 2) := by decide +kernel
theorem dX9_smallestSet_197 : decode cX9_smallestSet 197 = .ok (.aload_n 0, 1) := by decide +kernel
theorem dX9_smallestSet_198 : decode cX9_smallestSet 198 = .ok (.getfield 23, 3) := by decide +kernel
theorem dX9_smallestSet_201 : decode cX9_smallestSet 201 = .ok (.bipush 18, 2) := by decide +kernel
theorem dX9_smallestSet_203 : decode cX9_smallestSet 203 = .ok (.iaload, 1) := by decide +kernel
theorem dX9_smallestSet_204 : decode cX9_smallestSet 204 = .ok (.if_icmp .gt 25, 3) := by decide +kernel
theorem dX9_smallestSet_207 : decode cX9_smallestSet 207 = .ok (.iload 9, 2) := by decide +kernel
theorem dX9_smallestSet_209 : decode cX9_smallestSet 209 = .ok (.aload_n 0, 1) := by decide +kernel
theorem dX9_smallestSet_210 : decode cX9_smallestSet 210 = .ok (.getfield 23, 3) := by decide +kernel
theorem dX9_smallestSet_213 : decode cX9_smallestSet 213 = .ok (.bipush 19, 2) := by decide +kernel
theorem dX9_smallestSet_215 : decode cX9_smallestSet 215 = .ok (.iaload, 1) := by decide +kernel
theorem dX9_smallestSet_216 : decode cX9_smallestSet 216 = .ok (.if_icmp .gt 13, 3) := by decide +kernel
theorem dX9_smallestSet_219 : decode cX9_smallestSet 219 = .ok (.iload 10, 2) := by decide +kernel
theorem dX9_smallestSet_221 : decode cX9_smallestSet 221 = .ok (.iload_n 1, 1) := by decide +kernel
theorem dX9_smallestSet_222 : decode cX9_smallestSet 222 = .ok (.if_icmp .lt 7, 3) := by decide +kernel
theorem dX9_smallestSet_225 : decode cX9_smallestSet 225 = .ok (.iconst 1, 1) := by decide +kernel
theorem dX9_smallestSet_226 : decode cX9_smallestSet 226 = .ok (.goto 4, 3) := by decide +kernel
theorem dX9_smallestSet_229 : decode cX9_smallestSet 229 = .ok (.iconst 0, 1) := by decide +kernel
theorem dX9_smallestSet_230 : decode cX9_smallestSet 230 = .ok (.istore 11, 2) := by decide +kernel
theorem dX9_smallestSet_232 : decode cX9_smallestSet 232 = .ok (.iload 11, 2) := by decide +kernel
theorem dX9_smallestSet_234 : decode cX9_smallestSet 234 = .ok (.ifCond .eq 41, 3) := by decide +kernel
theorem dX9_smallestSet_237 : decode cX9_smallestSet 237 = .ok (.iload_n 3, 1) := by decide +kernel
theorem dX9_smallestSet_238 : decode cX9_smallestSet 238 = .ok (.bipush (-9), 2) := by decide +kernel
theorem dX9_smallestSet_240 : decode cX9_smallestSet 240 = .ok (.if_icmp .eq 24, 3) := by decide +kernel
theorem dX9_smallestSet_243 : decode cX9_smallestSet 243 = .ok (.iload 7, 2) := by decide +kernel
theorem dX9_smallestSet_245 : decode cX9_smallestSet 245 = .ok (.iload 4, 2) := by decide +kernel
theorem dX9_smallestSet_247 : decode cX9_smallestSet 247 = .ok (.if_icmp .lt 17, 3) := by decide +kernel
theorem dX9_smallestSet_250 : decode cX9_smallestSet 250 = .ok (.iload 7, 2) := by decide +kernel
theorem dX9_smallestSet_252 : decode cX9_smallestSet 252 = .ok (.iload 4, 2) := by decide +kernel
theorem dX9_smallestSet_254 : decode cX9_smallestSet 254 = .ok (.if_icmp .ne 21, 3) := by decide +kernel
theorem dX9_smallestSet_257 : decode cX9_smallestSet 257 = .ok (.iload 10, 2) := by decide +kernel
theorem dX9_smallestSet_259 : decode cX9_smallestSet 259 = .ok (.iload 5, 2) := by decide +kernel
theorem dX9_smallestSet_261 : decode cX9_smallestSet 261 = .ok (.if_icmp .ge 14, 3) := by decide +kernel
theorem dX9_smallestSet_264 : decode cX9_smallestSet 264 = .ok (.iload 6, 2) := by decide +kernel
theorem dX9_smallestSet_266 : decode cX9_smallestSet 266 = .ok (.istore_n 3, 1) := by decide +kernel
theorem dX9_smallestSet_267 : decode cX9_smallestSet 267 = .ok (.iload 7, 2) := by decide +kernel
theorem dX9_smallestSet_269 : decode cX9_smallestSet 269 = .ok (.istore 4, 2) := by decide +kernel
theorem dX9_smallestSet_271 : decode cX9_smallestSet 271 = .ok (.iload 10, 2) := by decide +kernel
theorem dX9_smallestSet_273 : decode cX9_smallestSet 273 = .ok (.istore 5, 2) := by decide +kernel
theorem dX9_smallestSet_275 : decode cX9_smallestSet 275 = .ok (.iinc 6 1, 3) := by decide +kernel
theorem dX9_smallestSet_278 : decode cX9_smallestSet 278 = .ok (.goto (-240), 3) := by decide +kernel
theorem dX9_smallestSet_281 : decode cX9_smallestSet 281 = .ok (.iload_n 3, 1) := by decide +kernel
theorem dX9_smallestSet_282 : decode cX9_smallestSet 282 = .ok (.bipush (-9), 2) := by decide +kernel
theorem dX9_smallestSet_284 : decode cX9_smallestSet 284 = .ok (.if_icmp .eq 7, 3) := by decide +kernel
theorem dX9_smallestSet_287 : decode cX9_smallestSet 287 = .ok (.iload_n 2, 1) := by decide +kernel
theorem dX9_smallestSet_288 : decode cX9_smallestSet 288 = .ok (.ifCond .eq 7, 3) := by decide +kernel
theorem dX9_smallestSet_291 : decode cX9_smallestSet 291 = .ok (.iload_n 3, 1) := by decide +kernel
theorem dX9_smallestSet_292 : decode cX9_smallestSet 292 = .ok (.goto 5, 3) := by decide +kernel
theorem dX9_smallestSet_295 : decode cX9_smallestSet 295 = .ok (.iload 5, 2) := by decide +kernel
theorem dX9_smallestSet_297 : decode cX9_smallestSet 297 = .ok (.ireturn, 1) := by decide +kernel
theorem dX9_ahead_0 : decode cX9_ahead 0 = .ok (.aload_n 0, 1) := by decide +kernel
theorem dX9_ahead_1 : decode cX9_ahead 1 = .ok (.iload_n 1, 1) := by decide +kernel
theorem dX9_ahead_2 : decode cX9_ahead 2 = .ok (.iload_n 2, 1) := by decide +kernel
theorem dX9_ahead_3 : decode cX9_ahead 3 = .ok (.invokestatic 180, 3) := by decide +kernel
theorem dX9_ahead_6 : decode cX9_ahead 6 = .ok (.ifCond .eq 19, 3) := by decide +kernel
theorem dX9_ahead_9 : decode cX9_ahead 9 = .ok (.iload_n 3, 1) := by decide +kernel
theorem dX9_ahead_10 : decode cX9_ahead 10 = .ok (.i2l, 1) := by decide +kernel
theorem dX9_ahead_11 : decode cX9_ahead 11 = .ok (.lconst 0, 1) := by decide +kernel
theorem dX9_ahead_12 : decode cX9_ahead 12 = .ok (.ldc2_w 207, 3) := by decide +kernel
theorem dX9_ahead_15 : decode cX9_ahead 15 = .ok (.invokestatic 50, 3) := by decide +kernel
theorem dX9_ahead_18 : decode cX9_ahead 18 = .ok (.ifCond .eq 7, 3) := by decide +kernel
theorem dX9_ahead_21 : decode cX9_ahead 21 = .ok (.iconst 0, 1) := by decide +kernel
theorem dX9_ahead_22 : decode cX9_ahead 22 = .ok (.goto 4, 3) := by decide +kernel
theorem dX9_ahead_25 : decode cX9_ahead 25 = .ok (.iconst 1, 1) := by decide +kernel
theorem dX9_ahead_26 : decode cX9_ahead 26 = .ok (.invokevirtual 127, 3) := by decide +kernel
theorem dX9_ahead_29 : decode cX9_ahead 29 = .ok (.ifCond .eq 5, 3) := by decide +kernel
theorem dX9_ahead_32 : decode cX9_ahead 32 = .ok (.iconst 0, 1) := by decide +kernel
theorem dX9_ahead_33 : decode cX9_ahead 33 = .ok (.ireturn, 1) := by decide +kernel
theorem dX9_ahead_34 : decode cX9_ahead 34 = .ok (.aload_n 0, 1) := by decide +kernel
theorem dX9_ahead_35 : decode cX9_ahead 35 = .ok (.getfield 23, 3) := by decide +kernel
theorem dX9_ahead_38 : decode cX9_ahead 38 = .ok (.iconst 0, 1) := by decide +kernel
theorem dX9_ahead_39 : decode cX9_ahead 39 = .ok (.aload_n 0, 1) := by decide +kernel
theorem dX9_ahead_40 : decode cX9_ahead 40 = .ok (.getfield 26, 3) := by decide +kernel
theorem dX9_ahead_43 : decode cX9_ahead 43 = .ok (.iconst 0, 1) := by decide +kernel
theorem dX9_ahead_44 : decode cX9_ahead 44 = .ok (.invokestatic 156, 3) := by decide +kernel
theorem dX9_ahead_47 : decode cX9_ahead 47 = .ok (.bipush 99, 2) := by decide +kernel
theorem dX9_ahead_49 : decode cX9_ahead 49 = .ok (.istore 4, 2) := by decide +kernel
theorem dX9_ahead_51 : decode cX9_ahead 51 = .ok (.iconst 0, 1) := by decide +kernel
theorem dX9_ahead_52 : decode cX9_ahead 52 = .ok (.istore 5, 2) := by decide +kernel
theorem dX9_ahead_54 : decode cX9_ahead 54 = .ok (.iload 5, 2) := by decide +kernel
theorem dX9_ahead_56 : decode cX9_ahead 56 = .ok (.iload_n 1, 1) := by decide +kernel
theorem dX9_ahead_57 : decode cX9_ahead 57 = .ok (.if_icmp .ge 44, 3) := by decide +kernel
theorem dX9_ahead_60 : decode cX9_ahead 60 = .ok (.aload_n 0, 1) := by decide +kernel
theorem dX9_ahead_61 : decode cX9_ahead 61 = .ok (.aload_n 0, 1) := by decide +kernel
theorem dX9_ahead_62 : decode cX9_ahead 62 = .ok (.getfield 26, 3) := by decide +kernel
theorem dX9_ahead_65 : decode cX9_ahead 65 = .ok (.iload_n 2, 1) := by decide +kernel
theorem dX9_ahead_66 : decode cX9_ahead 66 = .ok (.invokevirtual 119, 3) := by decide +kernel
theorem dX9_ahead_69 : decode cX9_ahead 69 = .ok (.aload_n 0, 1) := by decide +kernel
theorem dX9_ahead_70 : decode cX9_ahead 70 = .ok (.aload_n 0, 1) := by decide +kernel
theorem dX9_ahead_71 : decode cX9_ahead 71 = .ok (.getfield 26, 3) := by decide +kernel
theorem dX9_ahead_74 : decode cX9_ahead 74 = .ok (.invokevirtual 87, 3) := by decide +kernel
theorem dX9_ahead_77 : decode cX9_ahead 77 = .ok (.istore 6, 2) := by decide +kernel
theorem dX9_ahead_79 : decode cX9_ahead 79 = .ok (.iload 6, 2) := by decide +kernel
theorem dX9_ahead_81 : decode cX9_ahead 81 = .ok (.iload 4, 2) := by decide +kernel
theorem dX9_ahead_83 : decode cX9_ahead 83 = .ok (.if_icmp .ge 8, 3) := by decide +kernel
theorem dX9_ahead_86 : decode cX9_ahead 86 = .ok (.iload 6, 2) := by decide +kernel
theorem dX9_ahead_88 : decode cX9_ahead 88 = .ok (.goto 5, 3) := by decide +kernel
theorem dX9_ahead_91 : decode cX9_ahead 91 = .ok (.iload 4, 2) := by decide +kernel
theorem dX9_ahead_93 : decode cX9_ahead 93 = .ok (.istore 4, 2) := by decide +kernel
theorem dX9_ahead_95 : decode cX9_ahead 95 = .ok (.iinc 5 1, 3) := by decide +kernel
theorem dX9_ahead_98 : decode cX9_ahead 98 = .ok (.goto (-44), 3) := by decide +kernel
theorem dX9_ahead_101 : decode cX9_ahead 101 = .ok (.iload_n 3, 1) := by decide +kernel
theorem dX9_ahead_102 : decode cX9_ahead 102 = .ok (.tableswitch 130 0 5 #[38, 47, 62, 78, 96, 114], 38) := by decide +kernel
theorem dX9_ahead_140 : decode cX9_ahead 140 = .ok (.aload_n 0, 1) := by decide +kernel
theorem dX9_ahead_141 : decode cX9_ahead 141 = .ok (.aload_n 0, 1) := by decide +kernel
theorem dX9_ahead_142 : decode cX9_ahead 142 = .ok (.getfield 26, 3) := by decide +kernel
theorem dX9_ahead_145 : decode cX9_ahead 145 = .ok (.invokevirtual 87, 3) := by decide +kernel
theorem dX9_ahead_148 : decode cX9_ahead 148 = .ok (.ireturn, 1) := by decide +kernel
theorem dX9_ahead_149 : decode cX9_ahead 149 = .ok (.aload_n 0, 1) := by decide +kernel
theorem dX9_ahead_150 : decode cX9_ahead 150 = .ok (.getfield 26, 3) := by decide +kernel
theorem dX9_ahead_153 : decode cX9_ahead 153 = .ok (.bipush 22, 2) := by decide +kernel
theorem dX9_ahead_155 : decode cX9_ahead 155 = .ok (.aload_n 0, 1) := by decide +kernel
theorem dX9_ahead_156 : decode cX9_ahead 156 = .ok (.getfield 17, 3) := by decide +kernel
theorem dX9_ahead_159 : decode cX9_ahead 159 = .ok (.iadd, 1) := by decide +kernel
theorem dX9_ahead_160 : decode cX9_ahead 160 = .ok (.iconst 1, 1) := by decide +kernel
theorem dX9_ahead_161 : decode cX9_ahead 161 = .ok (.isub, 1) := by decide +kernel
theorem dX9_ahead_162 : decode cX9_ahead 162 = .ok (.iaload, 1) := by decide +kernel
theorem dX9_ahead_163 : decode cX9_ahead 163 = .ok (.ireturn, 1) := by decide +kernel
theorem dX9_ahead_164 : decode cX9_ahead 164 = .ok (.aload_n 0, 1) := by decide +kernel
theorem dX9_ahead_165 : decode cX9_ahead 165 = .ok (.getfield 26, 3) := by decide +kernel
theorem dX9_ahead_168 : decode cX9_ahead 168 = .ok (.bipush 15, 2) := by decide +kernel
theorem dX9_ahead_170 : decode cX9_ahead 170 = .ok (.iaload, 1) := by decide +kernel
theorem dX9_ahead_171 : decode cX9_ahead 171 = .ok (.aload_n 0, 1) := by decide +kernel
theorem dX9_ahead_172 : decode cX9_ahead 172 = .ok (.getfield 23, 3) := by decide +kernel
theorem dX9_ahead_175 : decode cX9_ahead 175 = .ok (.bipush 15, 2) := by decide +kernel
theorem dX9_ahead_177 : decode cX9_ahead 177 = .ok (.iaload, 1) := by decide +kernel
theorem dX9_ahead_178 : decode cX9_ahead 178 = .ok (.isub, 1) := by decide +kernel
theorem dX9_ahead_179 : decode cX9_ahead 179 = .ok (.ireturn, 1) := by decide +kernel
theorem dX9_ahead_180 : decode cX9_ahead 180 = .ok (.aload_n 0, 1) := by decide +kernel
theorem dX9_ahead_181 : decode cX9_ahead 181 = .ok (.aload_n 0, 1) := by decide +kernel
theorem dX9_ahead_182 : decode cX9_ahead 182 = .ok (.getfield 26, 3) := by decide +kernel
theorem dX9_ahead_185 : decode cX9_ahead 185 = .ok (.invokevirtual 175, 3) := by decide +kernel
theorem dX9_ahead_188 : decode cX9_ahead 188 = .ok (.aload_n 0, 1) := by decide +kernel
theorem dX9_ahead_189 : decode cX9_ahead 189 = .ok (.aload_n 0, 1) := by decide +kernel
theorem dX9_ahead_190 : decode cX9_ahead 190 = .ok (.getfield 23, 3) := by decide +kernel
theorem dX9_ahead_193 : decode cX9_ahead 193 = .ok (.invokevirtual 175, 3) := by decide +kernel
theorem dX9_ahead_196 : decode cX9_ahead 196 = .ok (.isub, 1) := by decide +kernel
theorem dX9_ahead_197 : decode cX9_ahead 197 = .ok (.ireturn, 1) := by decide +kernel
theorem dX9_ahead_198 : decode cX9_ahead 198 = .ok (.aload_n 0, 1) := by decide +kernel
theorem dX9_ahead_199 : decode cX9_ahead 199 = .ok (.aload_n 0, 1) := by decide +kernel
theorem dX9_ahead_200 : decode cX9_ahead 200 = .ok (.getfield 26, 3) := by decide +kernel
theorem dX9_ahead_203 : decode cX9_ahead 203 = .ok (.invokevirtual 209, 3) := by decide +kernel
theorem dX9_ahead_206 : decode cX9_ahead 206 = .ok (.aload_n 0, 1) := by decide +kernel
theorem dX9_ahead_207 : decode cX9_ahead 207 = .ok (.aload_n 0, 1) := by decide +kernel
theorem dX9_ahead_208 : decode cX9_ahead 208 = .ok (.getfield 23, 3) := by decide +kernel
theorem dX9_ahead_211 : decode cX9_ahead 211 = .ok (.invokevirtual 209, 3) := by decide +kernel
theorem dX9_ahead_214 : decode cX9_ahead 214 = .ok (.isub, 1) := by decide +kernel
theorem dX9_ahead_215 : decode cX9_ahead 215 = .ok (.ireturn, 1) := by decide +kernel
theorem dX9_ahead_216 : decode cX9_ahead 216 = .ok (.aload_n 0, 1) := by decide +kernel
theorem dX9_ahead_217 : decode cX9_ahead 217 = .ok (.getfield 26, 3) := by decide +kernel
theorem dX9_ahead_220 : decode cX9_ahead 220 = .ok (.bipush 11, 2) := by decide +kernel
theorem dX9_ahead_222 : decode cX9_ahead 222 = .ok (.iaload, 1) := by decide +kernel
theorem dX9_ahead_223 : decode cX9_ahead 223 = .ok (.aload_n 0, 1) := by decide +kernel
theorem dX9_ahead_224 : decode cX9_ahead 224 = .ok (.getfield 23, 3) := by decide +kernel
theorem dX9_ahead_227 : decode cX9_ahead 227 = .ok (.bipush 11, 2) := by decide +kernel
theorem dX9_ahead_229 : decode cX9_ahead 229 = .ok (.iaload, 1) := by decide +kernel
theorem dX9_ahead_230 : decode cX9_ahead 230 = .ok (.isub, 1) := by decide +kernel
theorem dX9_ahead_231 : decode cX9_ahead 231 = .ok (.ireturn, 1) := by decide +kernel
theorem dX9_ahead_232 : decode cX9_ahead 232 = .ok (.iload 4, 2) := by decide +kernel
theorem dX9_ahead_234 : decode cX9_ahead 234 = .ok (.ireturn, 1) := by decide +kernel
theorem dX9_warmAfter_0 : decode cX9_warmAfter 0 = .ok (.aload_n 0, 1) := by decide +kernel
theorem dX9_warmAfter_1 : decode cX9_warmAfter 1 = .ok (.iload_n 1, 1) := by decide +kernel
theorem dX9_warmAfter_2 : decode cX9_warmAfter 2 = .ok (.i2l, 1) := by decide +kernel
theorem dX9_warmAfter_3 : decode cX9_warmAfter 3 = .ok (.lconst 0, 1) := by decide +kernel
theorem dX9_warmAfter_4 : decode cX9_warmAfter 4 = .ok (.ldc2_w 200, 3) := by decide +kernel
theorem dX9_warmAfter_7 : decode cX9_warmAfter 7 = .ok (.invokestatic 50, 3) := by decide +kernel
theorem dX9_warmAfter_10 : decode cX9_warmAfter 10 = .ok (.ifCond .eq 19, 3) := by decide +kernel
theorem dX9_warmAfter_13 : decode cX9_warmAfter 13 = .ok (.iload_n 2, 1) := by decide +kernel
theorem dX9_warmAfter_14 : decode cX9_warmAfter 14 = .ok (.i2l, 1) := by decide +kernel
theorem dX9_warmAfter_15 : decode cX9_warmAfter 15 = .ok (.lconst 0, 1) := by decide +kernel
theorem dX9_warmAfter_16 : decode cX9_warmAfter 16 = .ok (.ldc2_w 60, 3) := by decide +kernel
theorem dX9_warmAfter_19 : decode cX9_warmAfter 19 = .ok (.invokestatic 50, 3) := by decide +kernel
theorem dX9_warmAfter_22 : decode cX9_warmAfter 22 = .ok (.ifCond .eq 7, 3) := by decide +kernel
theorem dX9_warmAfter_25 : decode cX9_warmAfter 25 = .ok (.iconst 0, 1) := by decide +kernel
theorem dX9_warmAfter_26 : decode cX9_warmAfter 26 = .ok (.goto 4, 3) := by decide +kernel
theorem dX9_warmAfter_29 : decode cX9_warmAfter 29 = .ok (.iconst 1, 1) := by decide +kernel
theorem dX9_warmAfter_30 : decode cX9_warmAfter 30 = .ok (.invokevirtual 127, 3) := by decide +kernel
theorem dX9_warmAfter_33 : decode cX9_warmAfter 33 = .ok (.ifCond .eq 5, 3) := by decide +kernel
theorem dX9_warmAfter_36 : decode cX9_warmAfter 36 = .ok (.iconst 0, 1) := by decide +kernel
theorem dX9_warmAfter_37 : decode cX9_warmAfter 37 = .ok (.ireturn, 1) := by decide +kernel
theorem dX9_warmAfter_38 : decode cX9_warmAfter 38 = .ok (.aload_n 0, 1) := by decide +kernel
theorem dX9_warmAfter_39 : decode cX9_warmAfter 39 = .ok (.getfield 23, 3) := by decide +kernel
theorem dX9_warmAfter_42 : decode cX9_warmAfter 42 = .ok (.iconst 0, 1) := by decide +kernel
theorem dX9_warmAfter_43 : decode cX9_warmAfter 43 = .ok (.aload_n 0, 1) := by decide +kernel
theorem dX9_warmAfter_44 : decode cX9_warmAfter 44 = .ok (.getfield 26, 3) := by decide +kernel
theorem dX9_warmAfter_47 : decode cX9_warmAfter 47 = .ok (.iconst 0, 1) := by decide +kernel
theorem dX9_warmAfter_48 : decode cX9_warmAfter 48 = .ok (.invokestatic 156, 3) := by decide +kernel
theorem dX9_warmAfter_51 : decode cX9_warmAfter 51 = .ok (.iconst 0, 1) := by decide +kernel
theorem dX9_warmAfter_52 : decode cX9_warmAfter 52 = .ok (.istore_n 3, 1) := by decide +kernel
theorem dX9_warmAfter_53 : decode cX9_warmAfter 53 = .ok (.iload_n 3, 1) := by decide +kernel
theorem dX9_warmAfter_54 : decode cX9_warmAfter 54 = .ok (.sipush 200, 3) := by decide +kernel
theorem dX9_warmAfter_57 : decode cX9_warmAfter 57 = .ok (.if_icmp .gt 32, 3) := by decide +kernel
theorem dX9_warmAfter_60 : decode cX9_warmAfter 60 = .ok (.aload_n 0, 1) := by decide +kernel
theorem dX9_warmAfter_61 : decode cX9_warmAfter 61 = .ok (.aload_n 0, 1) := by decide +kernel
theorem dX9_warmAfter_62 : decode cX9_warmAfter 62 = .ok (.getfield 26, 3) := by decide +kernel
theorem dX9_warmAfter_65 : decode cX9_warmAfter 65 = .ok (.invokevirtual 87, 3) := by decide +kernel
theorem dX9_warmAfter_68 : decode cX9_warmAfter 68 = .ok (.iload_n 1, 1) := by decide +kernel
theorem dX9_warmAfter_69 : decode cX9_warmAfter 69 = .ok (.if_icmp .lt 5, 3) := by decide +kernel
theorem dX9_warmAfter_72 : decode cX9_warmAfter 72 = .ok (.iload_n 3, 1) := by decide +kernel
theorem dX9_warmAfter_73 : decode cX9_warmAfter 73 = .ok (.ireturn, 1) := by decide +kernel
theorem dX9_warmAfter_74 : decode cX9_warmAfter 74 = .ok (.aload_n 0, 1) := by decide +kernel
theorem dX9_warmAfter_75 : decode cX9_warmAfter 75 = .ok (.aload_n 0, 1) := by decide +kernel
theorem dX9_warmAfter_76 : decode cX9_warmAfter 76 = .ok (.getfield 26, 3) := by decide +kernel
theorem dX9_warmAfter_79 : decode cX9_warmAfter 79 = .ok (.iload_n 2, 1) := by decide +kernel
theorem dX9_warmAfter_80 : decode cX9_warmAfter 80 = .ok (.invokevirtual 119, 3) := by decide +kernel
theorem dX9_warmAfter_83 : decode cX9_warmAfter 83 = .ok (.iinc 3 1, 3) := by decide +kernel
theorem dX9_warmAfter_86 : decode cX9_warmAfter 86 = .ok (.goto (-33), 3) := by decide +kernel
theorem dX9_warmAfter_89 : decode cX9_warmAfter 89 = .ok (.bipush (-9), 2) := by decide +kernel
theorem dX9_warmAfter_91 : decode cX9_warmAfter 91 = .ok (.ireturn, 1) := by decide +kernel
theorem dX9_bearable_0 : decode cX9_bearable 0 = .ok (.aload_n 0, 1) := by decide +kernel
theorem dX9_bearable_1 : decode cX9_bearable 1 = .ok (.iload_n 1, 1) := by decide +kernel
theorem dX9_bearable_2 : decode cX9_bearable 2 = .ok (.i2l, 1) := by decide +kernel
theorem dX9_bearable_3 : decode cX9_bearable 3 = .ok (.lconst 1, 1) := by decide +kernel
theorem dX9_bearable_4 : decode cX9_bearable 4 = .ok (.ldc2_w 178, 3) := by decide +kernel
theorem dX9_bearable_7 : decode cX9_bearable 7 = .ok (.invokestatic 50, 3) := by decide +kernel
theorem dX9_bearable_10 : decode cX9_bearable 10 = .ok (.ifCond .eq 21, 3) := by decide +kernel
theorem dX9_bearable_13 : decode cX9_bearable 13 = .ok (.iload_n 2, 1) := by decide +kernel
theorem dX9_bearable_14 : decode cX9_bearable 14 = .ok (.i2l, 1) := by decide +kernel
theorem dX9_bearable_15 : decode cX9_bearable 15 = .ok (.ldc2_w 212, 3) := by decide +kernel
theorem dX9_bearable_18 : decode cX9_bearable 18 = .ok (.ldc2_w 56, 3) := by decide +kernel
theorem dX9_bearable_21 : decode cX9_bearable 21 = .ok (.invokestatic 50, 3) := by decide +kernel
theorem dX9_bearable_24 : decode cX9_bearable 24 = .ok (.ifCond .eq 7, 3) := by decide +kernel
theorem dX9_bearable_27 : decode cX9_bearable 27 = .ok (.iconst 0, 1) := by decide +kernel
theorem dX9_bearable_28 : decode cX9_bearable 28 = .ok (.goto 4, 3) := by decide +kernel
theorem dX9_bearable_31 : decode cX9_bearable 31 = .ok (.iconst 1, 1) := by decide +kernel
theorem dX9_bearable_32 : decode cX9_bearable 32 = .ok (.invokevirtual 127, 3) := by decide +kernel
theorem dX9_bearable_35 : decode cX9_bearable 35 = .ok (.ifCond .eq 5, 3) := by decide +kernel
theorem dX9_bearable_38 : decode cX9_bearable 38 = .ok (.iconst 0, 1) := by decide +kernel
theorem dX9_bearable_39 : decode cX9_bearable 39 = .ok (.ireturn, 1) := by decide +kernel
theorem dX9_bearable_40 : decode cX9_bearable 40 = .ok (.iconst 5, 1) := by decide +kernel
theorem dX9_bearable_41 : decode cX9_bearable 41 = .ok (.istore_n 3, 1) := by decide +kernel
theorem dX9_bearable_42 : decode cX9_bearable 42 = .ok (.iload_n 3, 1) := by decide +kernel
theorem dX9_bearable_43 : decode cX9_bearable 43 = .ok (.ifCond .lt 86, 3) := by decide +kernel
theorem dX9_bearable_46 : decode cX9_bearable 46 = .ok (.aload_n 0, 1) := by decide +kernel
theorem dX9_bearable_47 : decode cX9_bearable 47 = .ok (.getfield 23, 3) := by decide +kernel
theorem dX9_bearable_50 : decode cX9_bearable 50 = .ok (.iconst 0, 1) := by decide +kernel
theorem dX9_bearable_51 : decode cX9_bearable 51 = .ok (.aload_n 0, 1) := by decide +kernel
theorem dX9_bearable_52 : decode cX9_bearable 52 = .ok (.getfield 26, 3) := by decide +kernel
theorem dX9_bearable_55 : decode cX9_bearable 55 = .ok (.iconst 0, 1) := by decide +kernel
theorem dX9_bearable_56 : decode cX9_bearable 56 = .ok (.invokestatic 156, 3) := by decide +kernel
theorem dX9_bearable_59 : decode cX9_bearable 59 = .ok (.iconst 1, 1) := by decide +kernel
theorem dX9_bearable_60 : decode cX9_bearable 60 = .ok (.istore 4, 2) := by decide +kernel
theorem dX9_bearable_62 : decode cX9_bearable 62 = .ok (.iconst 0, 1) := by decide +kernel
theorem dX9_bearable_63 : decode cX9_bearable 63 = .ok (.istore 5, 2) := by decide +kernel
theorem dX9_bearable_65 : decode cX9_bearable 65 = .ok (.iload 5, 2) := by decide +kernel
theorem dX9_bearable_67 : decode cX9_bearable 67 = .ok (.iload_n 1, 1) := by decide +kernel
theorem dX9_bearable_68 : decode cX9_bearable 68 = .ok (.if_icmp .ge 48, 3) := by decide +kernel
theorem dX9_bearable_71 : decode cX9_bearable 71 = .ok (.iload 4, 2) := by decide +kernel
theorem dX9_bearable_73 : decode cX9_bearable 73 = .ok (.ifCond .eq 43, 3) := by decide +kernel
theorem dX9_bearable_76 : decode cX9_bearable 76 = .ok (.aload_n 0, 1) := by decide +kernel
theorem dX9_bearable_77 : decode cX9_bearable 77 = .ok (.aload_n 0, 1) := by decide +kernel
theorem dX9_bearable_78 : decode cX9_bearable 78 = .ok (.getfield 26, 3) := by decide +kernel
theorem dX9_bearable_81 : decode cX9_bearable 81 = .ok (.iload_n 3, 1) := by decide +kernel
theorem dX9_bearable_82 : decode cX9_bearable 82 = .ok (.invokevirtual 119, 3) := by decide +kernel
theorem dX9_bearable_85 : decode cX9_bearable 85 = .ok (.aload_n 0, 1) := by decide +kernel
theorem dX9_bearable_86 : decode cX9_bearable 86 = .ok (.getfield 26, 3) := by decide +kernel
theorem dX9_bearable_89 : decode cX9_bearable 89 = .ok (.bipush 22, 2) := by decide +kernel
theorem dX9_bearable_91 : decode cX9_bearable 91 = .ok (.aload_n 0, 1) := by decide +kernel
theorem dX9_bearable_92 : decode cX9_bearable 92 = .ok (.getfield 17, 3) := by decide +kernel
theorem dX9_bearable_95 : decode cX9_bearable 95 = .ok (.iadd, 1) := by decide +kernel
theorem dX9_bearable_96 : decode cX9_bearable 96 = .ok (.iconst 1, 1) := by decide +kernel
theorem dX9_bearable_97 : decode cX9_bearable 97 = .ok (.isub, 1) := by decide +kernel
theorem dX9_bearable_98 : decode cX9_bearable 98 = .ok (.iaload, 1) := by decide +kernel
theorem dX9_bearable_99 : decode cX9_bearable 99 = .ok (.iload_n 2, 1) := by decide +kernel
theorem dX9_bearable_100 : decode cX9_bearable 100 = .ok (.if_icmp .lt 7, 3) := by decide +kernel
theorem dX9_bearable_103 : decode cX9_bearable 103 = .ok (.iconst 1, 1) := by decide +kernel
theorem dX9_bearable_104 : decode cX9_bearable 104 = .ok (.goto 4, 3) := by decide +kernel
theorem dX9_bearable_107 : decode cX9_bearable 107 = .ok (.iconst 0, 1) := by decide +kernel
theorem dX9_bearable_108 : decode cX9_bearable 108 = .ok (.istore 4, 2) := by decide +kernel
theorem dX9_bearable_110 : decode cX9_bearable 110 = .ok (.iinc 5 1, 3) := by decide +kernel
theorem dX9_bearable_113 : decode cX9_bearable 113 = .ok (.goto (-48), 3) := by decide +kernel
theorem dX9_bearable_116 : decode cX9_bearable 116 = .ok (.iload 4, 2) := by decide +kernel
theorem dX9_bearable_118 : decode cX9_bearable 118 = .ok (.ifCond .eq 5, 3) := by decide +kernel
theorem dX9_bearable_121 : decode cX9_bearable 121 = .ok (.iload_n 3, 1) := by decide +kernel
theorem dX9_bearable_122 : decode cX9_bearable 122 = .ok (.ireturn, 1) := by decide +kernel
theorem dX9_bearable_123 : decode cX9_bearable 123 = .ok (.iinc 3 (-1), 3) := by decide +kernel
theorem dX9_bearable_126 : decode cX9_bearable 126 = .ok (.goto (-84), 3) := by decide +kernel
theorem dX9_bearable_129 : decode cX9_bearable 129 = .ok (.bipush (-9), 2) := by decide +kernel
theorem dX9_bearable_131 : decode cX9_bearable 131 = .ok (.ireturn, 1) := by decide +kernel
theorem dX9_cheapestPurge_0 : decode cX9_cheapestPurge 0 = .ok (.aload_n 0, 1) := by decide +kernel
theorem dX9_cheapestPurge_1 : decode cX9_cheapestPurge 1 = .ok (.iload_n 1, 1) := by decide +kernel
theorem dX9_cheapestPurge_2 : decode cX9_cheapestPurge 2 = .ok (.iload_n 2, 1) := by decide +kernel
theorem dX9_cheapestPurge_3 : decode cX9_cheapestPurge 3 = .ok (.invokestatic 180, 3) := by decide +kernel
theorem dX9_cheapestPurge_6 : decode cX9_cheapestPurge 6 = .ok (.ifCond .eq 7, 3) := by decide +kernel
theorem dX9_cheapestPurge_9 : decode cX9_cheapestPurge 9 = .ok (.iconst 0, 1) := by decide +kernel
theorem dX9_cheapestPurge_10 : decode cX9_cheapestPurge 10 = .ok (.goto 4, 3) := by decide +kernel
theorem dX9_cheapestPurge_13 : decode cX9_cheapestPurge 13 = .ok (.iconst 1, 1) := by decide +kernel
theorem dX9_cheapestPurge_14 : decode cX9_cheapestPurge 14 = .ok (.invokevirtual 127, 3) := by decide +kernel
theorem dX9_cheapestPurge_17 : decode cX9_cheapestPurge 17 = .ok (.ifCond .eq 5, 3) := by decide +kernel
theorem dX9_cheapestPurge_20 : decode cX9_cheapestPurge 20 = .ok (.iconst 0, 1) := by decide +kernel
theorem dX9_cheapestPurge_21 : decode cX9_cheapestPurge 21 = .ok (.ireturn, 1) := by decide +kernel
theorem dX9_cheapestPurge_22 : decode cX9_cheapestPurge 22 = .ok (.iconst 0, 1) := by decide +kernel
theorem dX9_cheapestPurge_23 : decode cX9_cheapestPurge 23 = .ok (.istore_n 3, 1) := by decide +kernel
theorem dX9_cheapestPurge_24 : decode cX9_cheapestPurge 24 = .ok (.iconst 0, 1) := by decide +kernel
theorem dX9_cheapestPurge_25 : decode cX9_cheapestPurge 25 = .ok (.istore 4, 2) := by decide +kernel
theorem dX9_cheapestPurge_27 : decode cX9_cheapestPurge 27 = .ok (.iconst 1, 1) := by decide +kernel
theorem dX9_cheapestPurge_28 : decode cX9_cheapestPurge 28 = .ok (.istore 5, 2) := by decide +kernel
theorem dX9_cheapestPurge_30 : decode cX9_cheapestPurge 30 = .ok (.iload 5, 2) := by decide +kernel
theorem dX9_cheapestPurge_32 : decode cX9_cheapestPurge 32 = .ok (.iconst 5, 1) := by decide +kernel
theorem dX9_cheapestPurge_33 : decode cX9_cheapestPurge 33 = .ok (.if_icmp .gt 94, 3) := by decide +kernel
theorem dX9_cheapestPurge_36 : decode cX9_cheapestPurge 36 = .ok (.aload_n 0, 1) := by decide +kernel
theorem dX9_cheapestPurge_37 : decode cX9_cheapestPurge 37 = .ok (.getfield 23, 3) := by decide +kernel
theorem dX9_cheapestPurge_40 : decode cX9_cheapestPurge 40 = .ok (.iconst 0, 1) := by decide +kernel
theorem dX9_cheapestPurge_41 : decode cX9_cheapestPurge 41 = .ok (.aload_n 0, 1) := by decide +kernel
theorem dX9_cheapestPurge_42 : decode cX9_cheapestPurge 42 = .ok (.getfield 26, 3) := by decide +kernel
theorem dX9_cheapestPurge_45 : decode cX9_cheapestPurge 45 = .ok (.iconst 0, 1) := by decide +kernel
theorem dX9_cheapestPurge_46 : decode cX9_cheapestPurge 46 = .ok (.invokestatic 156, 3) := by decide +kernel
theorem dX9_cheapestPurge_49 : decode cX9_cheapestPurge 49 = .ok (.aload_n 0, 1) := by decide +kernel
theorem dX9_cheapestPurge_50 : decode cX9_cheapestPurge 50 = .ok (.getfield 26, 3) := by decide +kernel
theorem dX9_cheapestPurge_53 : decode cX9_cheapestPurge 53 = .ok (.iconst 2, 1) := by decide +kernel
theorem dX9_cheapestPurge_54 : decode cX9_cheapestPurge 54 = .ok (.iload 5, 2) := by decide +kernel
theorem dX9_cheapestPurge_56 : decode cX9_cheapestPurge 56 = .ok (.iastore, 1) := by decide +kernel
theorem dX9_cheapestPurge_57 : decode cX9_cheapestPurge 57 = .ok (.aload_n 0, 1) := by decide +kernel
theorem dX9_cheapestPurge_58 : decode cX9_cheapestPurge 58 = .ok (.aload_n 0, 1) := by decide +kernel
theorem dX9_cheapestPurge_59 : decode cX9_cheapestPurge 59 = .ok (.getfield 26, 3) := by decide +kernel
theorem dX9_cheapestPurge_62 : decode cX9_cheapestPurge 62 = .ok (.iload_n 1, 1) := by decide +kernel
theorem dX9_cheapestPurge_63 : decode cX9_cheapestPurge 63 = .ok (.iload_n 2, 1) := by decide +kernel
theorem dX9_cheapestPurge_64 : decode cX9_cheapestPurge 64 = .ok (.invokevirtual 187, 3) := by decide +kernel
theorem dX9_cheapestPurge_67 : decode cX9_cheapestPurge 67 = .ok (.aload_n 0, 1) := by decide +kernel
theorem dX9_cheapestPurge_68 : decode cX9_cheapestPurge 68 = .ok (.aload_n 0, 1) := by decide +kernel
theorem dX9_cheapestPurge_69 : decode cX9_cheapestPurge 69 = .ok (.getfield 26, 3) := by decide +kernel
theorem dX9_cheapestPurge_72 : decode cX9_cheapestPurge 72 = .ok (.invokevirtual 175, 3) := by decide +kernel
theorem dX9_cheapestPurge_75 : decode cX9_cheapestPurge 75 = .ok (.istore 6, 2) := by decide +kernel
theorem dX9_cheapestPurge_77 : decode cX9_cheapestPurge 77 = .ok (.iload_n 3, 1) := by decide +kernel
theorem dX9_cheapestPurge_78 : decode cX9_cheapestPurge 78 = .ok (.ifCond .eq 10, 3) := by decide +kernel
theorem dX9_cheapestPurge_81 : decode cX9_cheapestPurge 81 = .ok (.iload 6, 2) := by decide +kernel
theorem dX9_cheapestPurge_83 : decode cX9_cheapestPurge 83 = .ok (.iload 4, 2) := by decide +kernel
theorem dX9_cheapestPurge_85 : decode cX9_cheapestPurge 85 = .ok (.if_icmp .ge 7, 3) := by decide +kernel
theorem dX9_cheapestPurge_88 : decode cX9_cheapestPurge 88 = .ok (.iconst 1, 1) := by decide +kernel
theorem dX9_cheapestPurge_89 : decode cX9_cheapestPurge 89 = .ok (.goto 4, 3) := by decide +kernel
theorem dX9_cheapestPurge_92 : decode cX9_cheapestPurge 92 = .ok (.iconst 0, 1) := by decide +kernel
theorem dX9_cheapestPurge_93 : decode cX9_cheapestPurge 93 = .ok (.istore 7, 2) := by decide +kernel
theorem dX9_cheapestPurge_95 : decode cX9_cheapestPurge 95 = .ok (.iload 7, 2) := by decide +kernel
theorem dX9_cheapestPurge_97 : decode cX9_cheapestPurge 97 = .ok (.ifCond .eq 8, 3) := by decide +kernel
theorem dX9_cheapestPurge_100 : decode cX9_cheapestPurge 100 = .ok (.iload 5, 2) := by decide +kernel
theorem dX9_cheapestPurge_102 : decode cX9_cheapestPurge 102 = .ok (.goto 4, 3) := by decide +kernel
theorem dX9_cheapestPurge_105 : decode cX9_cheapestPurge 105 = .ok (.iload_n 3, 1) := by decide +kernel
theorem dX9_cheapestPurge_106 : decode cX9_cheapestPurge 106 = .ok (.istore_n 3, 1) := by decide +kernel
theorem dX9_cheapestPurge_107 : decode cX9_cheapestPurge 107 = .ok (.iload 7, 2) := by decide +kernel
theorem dX9_cheapestPurge_109 : decode cX9_cheapestPurge 109 = .ok (.ifCond .eq 8, 3) := by decide +kernel
theorem dX9_cheapestPurge_112 : decode cX9_cheapestPurge 112 = .ok (.iload 6, 2) := by decide +kernel
theorem dX9_cheapestPurge_114 : decode cX9_cheapestPurge 114 = .ok (.goto 5, 3) := by decide +kernel
theorem dX9_cheapestPurge_117 : decode cX9_cheapestPurge 117 = .ok (.iload 4, 2) := by decide +kernel
theorem dX9_cheapestPurge_119 : decode cX9_cheapestPurge 119 = .ok (.istore 4, 2) := by decide +kernel
theorem dX9_cheapestPurge_121 : decode cX9_cheapestPurge 121 = .ok (.iinc 5 1, 3) := by decide +kernel
theorem dX9_cheapestPurge_124 : decode cX9_cheapestPurge 124 = .ok (.goto (-94), 3) := by decide +kernel
theorem dX9_cheapestPurge_127 : decode cX9_cheapestPurge 127 = .ok (.iload_n 3, 1) := by decide +kernel
theorem dX9_cheapestPurge_128 : decode cX9_cheapestPurge 128 = .ok (.ireturn, 1) := by decide +kernel
theorem dX9_does_0 : decode cX9_does 0 = .ok (.aload_n 0, 1) := by decide +kernel
theorem dX9_does_1 : decode cX9_does 1 = .ok (.iload_n 2, 1) := by decide +kernel
theorem dX9_does_2 : decode cX9_does 2 = .ok (.invokevirtual 168, 3) := by decide +kernel
theorem dX9_does_5 : decode cX9_does 5 = .ok (.istore 4, 2) := by decide +kernel
theorem dX9_does_7 : decode cX9_does 7 = .ok (.iload_n 1, 1) := by decide +kernel
theorem dX9_does_8 : decode cX9_does 8 = .ok (.tableswitch 330 1 9 #[52, 80, 110, 135, 169, 206, 243, 271, 303], 52) := by decide +kernel
theorem dX9_does_60 : decode cX9_does 60 = .ok (.iload_n 3, 1) := by decide +kernel
theorem dX9_does_61 : decode cX9_does 61 = .ok (.bipush 99, 2) := by decide +kernel
theorem dX9_does_63 : decode cX9_does 63 = .ok (.if_icmp .gt 11, 3) := by decide +kernel
theorem dX9_does_66 : decode cX9_does 66 = .ok (.iload_n 3, 1) := by decide +kernel
theorem dX9_does_67 : decode cX9_does 67 = .ok (.iload_n 2, 1) := by decide +kernel
theorem dX9_does_68 : decode cX9_does 68 = .ok (.invokestatic 180, 3) := by decide +kernel
theorem dX9_does_71 : decode cX9_does 71 = .ok (.ifCond .ne 5, 3) := by decide +kernel
theorem dX9_does_74 : decode cX9_does 74 = .ok (.iconst 0, 1) := by decide +kernel
theorem dX9_does_75 : decode cX9_does 75 = .ok (.ireturn, 1) := by decide +kernel
theorem dX9_does_76 : decode cX9_does 76 = .ok (.aload_n 0, 1) := by decide +kernel
theorem dX9_does_77 : decode cX9_does 77 = .ok (.aload_n 0, 1) := by decide +kernel
theorem dX9_does_78 : decode cX9_does 78 = .ok (.getfield 26, 3) := by decide +kernel
theorem dX9_does_81 : decode cX9_does 81 = .ok (.iload_n 3, 1) := by decide +kernel
theorem dX9_does_82 : decode cX9_does 82 = .ok (.iload_n 2, 1) := by decide +kernel
theorem dX9_does_83 : decode cX9_does 83 = .ok (.invokevirtual 187, 3) := by decide +kernel
theorem dX9_does_86 : decode cX9_does 86 = .ok (.iconst 1, 1) := by decide +kernel
theorem dX9_does_87 : decode cX9_does 87 = .ok (.ireturn, 1) := by decide +kernel
theorem dX9_does_88 : decode cX9_does 88 = .ok (.iload_n 2, 1) := by decide +kernel
theorem dX9_does_89 : decode cX9_does 89 = .ok (.ifCond .ne 15, 3) := by decide +kernel
theorem dX9_does_92 : decode cX9_does 92 = .ok (.iload_n 3, 1) := by decide +kernel
theorem dX9_does_93 : decode cX9_does 93 = .ok (.i2l, 1) := by decide +kernel
theorem dX9_does_94 : decode cX9_does 94 = .ok (.lconst 1, 1) := by decide +kernel
theorem dX9_does_95 : decode cX9_does 95 = .ok (.ldc2_w 191, 3) := by decide +kernel
theorem dX9_does_98 : decode cX9_does 98 = .ok (.invokestatic 50, 3) := by decide +kernel
theorem dX9_does_101 : decode cX9_does 101 = .ok (.ifCond .ne 5, 3) := by decide +kernel
theorem dX9_does_104 : decode cX9_does 104 = .ok (.iconst 0, 1) := by decide +kernel
theorem dX9_does_105 : decode cX9_does 105 = .ok (.ireturn, 1) := by decide +kernel
theorem dX9_does_106 : decode cX9_does 106 = .ok (.aload_n 0, 1) := by decide +kernel
theorem dX9_does_107 : decode cX9_does 107 = .ok (.aload_n 0, 1) := by decide +kernel
theorem dX9_does_108 : decode cX9_does 108 = .ok (.getfield 26, 3) := by decide +kernel
theorem dX9_does_111 : decode cX9_does 111 = .ok (.iload_n 3, 1) := by decide +kernel
theorem dX9_does_112 : decode cX9_does 112 = .ok (.invokevirtual 104, 3) := by decide +kernel
theorem dX9_does_115 : decode cX9_does 115 = .ok (.pop, 1) := by decide +kernel
theorem dX9_does_116 : decode cX9_does 116 = .ok (.iconst 1, 1) := by decide +kernel
theorem dX9_does_117 : decode cX9_does 117 = .ok (.ireturn, 1) := by decide +kernel
theorem dX9_does_118 : decode cX9_does 118 = .ok (.iload_n 3, 1) := by decide +kernel
theorem dX9_does_119 : decode cX9_does 119 = .ok (.bipush 99, 2) := by decide +kernel
theorem dX9_does_121 : decode cX9_does 121 = .ok (.if_icmp .gt 11, 3) := by decide +kernel
theorem dX9_does_124 : decode cX9_does 124 = .ok (.iload_n 2, 1) := by decide +kernel
theorem dX9_does_125 : decode cX9_does 125 = .ok (.iload_n 3, 1) := by decide +kernel
theorem dX9_does_126 : decode cX9_does 126 = .ok (.invokestatic 193, 3) := by decide +kernel
theorem dX9_does_129 : decode cX9_does 129 = .ok (.ifCond .ne 5, 3) := by decide +kernel
theorem dX9_does_132 : decode cX9_does 132 = .ok (.iconst 0, 1) := by decide +kernel
theorem dX9_does_133 : decode cX9_does 133 = .ok (.ireturn, 1) := by decide +kernel
theorem dX9_does_134 : decode cX9_does 134 = .ok (.aload_n 0, 1) := by decide +kernel
theorem dX9_does_135 : decode cX9_does 135 = .ok (.getfield 26, 3) := by decide +kernel
theorem dX9_does_138 : decode cX9_does 138 = .ok (.iload_n 2, 1) := by decide +kernel
theorem dX9_does_139 : decode cX9_does 139 = .ok (.iload_n 3, 1) := by decide +kernel
theorem dX9_does_140 : decode cX9_does 140 = .ok (.iastore, 1) := by decide +kernel
theorem dX9_does_141 : decode cX9_does 141 = .ok (.iconst 1, 1) := by decide +kernel
theorem dX9_does_142 : decode cX9_does 142 = .ok (.ireturn, 1) := by decide +kernel
theorem dX9_does_143 : decode cX9_does 143 = .ok (.iload_n 2, 1) := by decide +kernel
theorem dX9_does_144 : decode cX9_does 144 = .ok (.iconst 1, 1) := by decide +kernel
theorem dX9_does_145 : decode cX9_does 145 = .ok (.if_icmp .gt 8, 3) := by decide +kernel
theorem dX9_does_148 : decode cX9_does 148 = .ok (.iload_n 3, 1) := by decide +kernel
theorem dX9_does_149 : decode cX9_does 149 = .ok (.iconst 1, 1) := by decide +kernel
theorem dX9_does_150 : decode cX9_does 150 = .ok (.if_icmp .le 5, 3) := by decide +kernel
theorem dX9_does_153 : decode cX9_does 153 = .ok (.iconst 0, 1) := by decide +kernel
theorem dX9_does_154 : decode cX9_does 154 = .ok (.ireturn, 1) := by decide +kernel
theorem dX9_does_155 : decode cX9_does 155 = .ok (.aload_n 0, 1) := by decide +kernel
theorem dX9_does_156 : decode cX9_does 156 = .ok (.aload_n 0, 1) := by decide +kernel
theorem dX9_does_157 : decode cX9_does 157 = .ok (.getfield 26, 3) := by decide +kernel
theorem dX9_does_160 : decode cX9_does 160 = .ok (.iload_n 2, 1) := by decide +kernel
theorem dX9_does_161 : decode cX9_does 161 = .ok (.iload_n 3, 1) := by decide +kernel
theorem dX9_does_162 : decode cX9_does 162 = .ok (.iconst 1, 1) := by decide +kernel
theorem dX9_does_163 : decode cX9_does 163 = .ok (.if_icmp .ne 7, 3) := by decide +kernel
theorem dX9_does_166 : decode cX9_does 166 = .ok (.iconst 1, 1) := by decide +kernel
theorem dX9_does_167 : decode cX9_does 167 = .ok (.goto 4, 3) := by decide +kernel
theorem dX9_does_170 : decode cX9_does 170 = .ok (.iconst 0, 1) := by decide +kernel
theorem dX9_does_171 : decode cX9_does 171 = .ok (.invokevirtual 196, 3) := by decide +kernel
theorem dX9_does_174 : decode cX9_does 174 = .ok (.pop, 1) := by decide +kernel
theorem dX9_does_175 : decode cX9_does 175 = .ok (.iconst 1, 1) := by decide +kernel
theorem dX9_does_176 : decode cX9_does 176 = .ok (.ireturn, 1) := by decide +kernel
theorem dX9_does_177 : decode cX9_does 177 = .ok (.iload 4, 2) := by decide +kernel
theorem dX9_does_179 : decode cX9_does 179 = .ok (.ifCond .eq 22, 3) := by decide +kernel
theorem dX9_does_182 : decode cX9_does 182 = .ok (.iload_n 3, 1) := by decide +kernel
theorem dX9_does_183 : decode cX9_does 183 = .ok (.ifCond .ne 18, 3) := by decide +kernel
theorem dX9_does_186 : decode cX9_does 186 = .ok (.aload_n 0, 1) := by decide +kernel
theorem dX9_does_187 : decode cX9_does 187 = .ok (.getfield 26, 3) := by decide +kernel
theorem dX9_does_190 : decode cX9_does 190 = .ok (.iload_n 2, 1) := by decide +kernel
theorem dX9_does_191 : decode cX9_does 191 = .ok (.invokestatic 68, 3) := by decide +kernel
theorem dX9_does_194 : decode cX9_does 194 = .ok (.iconst 2, 1) := by decide +kernel
theorem dX9_does_195 : decode cX9_does 195 = .ok (.iadd, 1) := by decide +kernel
theorem dX9_does_196 : decode cX9_does 196 = .ok (.iaload, 1) := by decide +kernel
theorem dX9_does_197 : decode cX9_does 197 = .ok (.iconst 4, 1) := by decide +kernel
theorem dX9_does_198 : decode cX9_does 198 = .ok (.if_icmp .ne 5, 3) := by decide +kernel
theorem dX9_does_201 : decode cX9_does 201 = .ok (.iconst 0, 1) := by decide +kernel
theorem dX9_does_202 : decode cX9_does 202 = .ok (.ireturn, 1) := by decide +kernel
theorem dX9_does_203 : decode cX9_does 203 = .ok (.aload_n 0, 1) := by decide +kernel
theorem dX9_does_204 : decode cX9_does 204 = .ok (.getfield 26, 3) := by decide +kernel
theorem dX9_does_207 : decode cX9_does 207 = .ok (.iload_n 2, 1) := by decide +kernel
theorem dX9_does_208 : decode cX9_does 208 = .ok (.iconst 4, 1) := by decide +kernel
theorem dX9_does_209 : decode cX9_does 209 = .ok (.invokestatic 202, 3) := by decide +kernel
theorem dX9_does_212 : decode cX9_does 212 = .ok (.iconst 1, 1) := by decide +kernel
theorem dX9_does_213 : decode cX9_does 213 = .ok (.ireturn, 1) := by decide +kernel
theorem dX9_does_214 : decode cX9_does 214 = .ok (.iload 4, 2) := by decide +kernel
theorem dX9_does_216 : decode cX9_does 216 = .ok (.ifCond .eq 22, 3) := by decide +kernel
theorem dX9_does_219 : decode cX9_does 219 = .ok (.iload_n 3, 1) := by decide +kernel
theorem dX9_does_220 : decode cX9_does 220 = .ok (.ifCond .ne 18, 3) := by decide +kernel
theorem dX9_does_223 : decode cX9_does 223 = .ok (.aload_n 0, 1) := by decide +kernel
theorem dX9_does_224 : decode cX9_does 224 = .ok (.getfield 26, 3) := by decide +kernel
theorem dX9_does_227 : decode cX9_does 227 = .ok (.iload_n 2, 1) := by decide +kernel
theorem dX9_does_228 : decode cX9_does 228 = .ok (.invokestatic 68, 3) := by decide +kernel
theorem dX9_does_231 : decode cX9_does 231 = .ok (.iconst 2, 1) := by decide +kernel
theorem dX9_does_232 : decode cX9_does 232 = .ok (.iadd, 1) := by decide +kernel
theorem dX9_does_233 : decode cX9_does 233 = .ok (.iaload, 1) := by decide +kernel
theorem dX9_does_234 : decode cX9_does 234 = .ok (.iconst 4, 1) := by decide +kernel
theorem dX9_does_235 : decode cX9_does 235 = .ok (.if_icmp .eq 5, 3) := by decide +kernel
theorem dX9_does_238 : decode cX9_does 238 = .ok (.iconst 0, 1) := by decide +kernel
theorem dX9_does_239 : decode cX9_does 239 = .ok (.ireturn, 1) := by decide +kernel
theorem dX9_does_240 : decode cX9_does 240 = .ok (.aload_n 0, 1) := by decide +kernel
theorem dX9_does_241 : decode cX9_does 241 = .ok (.getfield 26, 3) := by decide +kernel
theorem dX9_does_244 : decode cX9_does 244 = .ok (.iload_n 2, 1) := by decide +kernel
theorem dX9_does_245 : decode cX9_does 245 = .ok (.iconst 0, 1) := by decide +kernel
theorem dX9_does_246 : decode cX9_does 246 = .ok (.invokestatic 202, 3) := by decide +kernel
theorem dX9_does_249 : decode cX9_does 249 = .ok (.iconst 1, 1) := by decide +kernel
theorem dX9_does_250 : decode cX9_does 250 = .ok (.ireturn, 1) := by decide +kernel
theorem dX9_does_251 : decode cX9_does 251 = .ok (.iload_n 2, 1) := by decide +kernel
theorem dX9_does_252 : decode cX9_does 252 = .ok (.ifCond .ne 25, 3) := by decide +kernel
theorem dX9_does_255 : decode cX9_does 255 = .ok (.iload_n 3, 1) := by decide +kernel
theorem dX9_does_256 : decode cX9_does 256 = .ok (.bipush 100, 2) := by decide +kernel
theorem dX9_does_258 : decode cX9_does 258 = .ok (.if_icmp .ge 19, 3) := by decide +kernel
theorem dX9_does_261 : decode cX9_does 261 = .ok (.aload_n 0, 1) := by decide +kernel
theorem dX9_does_262 : decode cX9_does 262 = .ok (.aload_n 0, 1) := by decide +kernel
theorem dX9_does_263 : decode cX9_does 263 = .ok (.getfield 26, 3) := by decide +kernel
theorem dX9_does_266 : decode cX9_does 266 = .ok (.invokevirtual 87, 3) := by decide +kernel
theorem dX9_does_269 : decode cX9_does 269 = .ok (.iload_n 3, 1) := by decide +kernel
theorem dX9_does_270 : decode cX9_does 270 = .ok (.if_icmp .lt 7, 3) := by decide +kernel
theorem dX9_does_273 : decode cX9_does 273 = .ok (.iconst 1, 1) := by decide +kernel
theorem dX9_does_274 : decode cX9_does 274 = .ok (.goto 4, 3) := by decide +kernel
theorem dX9_does_277 : decode cX9_does 277 = .ok (.iconst 0, 1) := by decide +kernel
theorem dX9_does_278 : decode cX9_does 278 = .ok (.ireturn, 1) := by decide +kernel
theorem dX9_does_279 : decode cX9_does 279 = .ok (.iload 4, 2) := by decide +kernel
theorem dX9_does_281 : decode cX9_does 281 = .ok (.ifCond .eq 28, 3) := by decide +kernel
theorem dX9_does_284 : decode cX9_does 284 = .ok (.iload_n 3, 1) := by decide +kernel
theorem dX9_does_285 : decode cX9_does 285 = .ok (.bipush 10, 2) := by decide +kernel
theorem dX9_does_287 : decode cX9_does 287 = .ok (.if_icmp .ge 22, 3) := by decide +kernel
theorem dX9_does_290 : decode cX9_does 290 = .ok (.aload_n 0, 1) := by decide +kernel
theorem dX9_does_291 : decode cX9_does 291 = .ok (.getfield 26, 3) := by decide +kernel
theorem dX9_does_294 : decode cX9_does 294 = .ok (.iload_n 2, 1) := by decide +kernel
theorem dX9_does_295 : decode cX9_does 295 = .ok (.invokestatic 68, 3) := by decide +kernel
theorem dX9_does_298 : decode cX9_does 298 = .ok (.iconst 2, 1) := by decide +kernel
theorem dX9_does_299 : decode cX9_does 299 = .ok (.iadd, 1) := by decide +kernel
theorem dX9_does_300 : decode cX9_does 300 = .ok (.iaload, 1) := by decide +kernel
theorem dX9_does_301 : decode cX9_does 301 = .ok (.iload_n 3, 1) := by decide +kernel
theorem dX9_does_302 : decode cX9_does 302 = .ok (.if_icmp .ne 7, 3) := by decide +kernel
theorem dX9_does_305 : decode cX9_does 305 = .ok (.iconst 1, 1) := by decide +kernel
theorem dX9_does_306 : decode cX9_does 306 = .ok (.goto 4, 3) := by decide +kernel
theorem dX9_does_309 : decode cX9_does 309 = .ok (.iconst 0, 1) := by decide +kernel
theorem dX9_does_310 : decode cX9_does 310 = .ok (.ireturn, 1) := by decide +kernel
theorem dX9_does_311 : decode cX9_does 311 = .ok (.iload_n 2, 1) := by decide +kernel
theorem dX9_does_312 : decode cX9_does 312 = .ok (.ifCond .ne 24, 3) := by decide +kernel
theorem dX9_does_315 : decode cX9_does 315 = .ok (.iload_n 3, 1) := by decide +kernel
theorem dX9_does_316 : decode cX9_does 316 = .ok (.bipush 10, 2) := by decide +kernel
theorem dX9_does_318 : decode cX9_does 318 = .ok (.if_icmp .ge 18, 3) := by decide +kernel
theorem dX9_does_321 : decode cX9_does 321 = .ok (.aload_n 0, 1) := by decide +kernel
theorem dX9_does_322 : decode cX9_does 322 = .ok (.getfield 26, 3) := by decide +kernel
theorem dX9_does_325 : decode cX9_does 325 = .ok (.bipush 11, 2) := by decide +kernel
theorem dX9_does_327 : decode cX9_does 327 = .ok (.iaload, 1) := by decide +kernel
theorem dX9_does_328 : decode cX9_does 328 = .ok (.iload_n 3, 1) := by decide +kernel
theorem dX9_does_329 : decode cX9_does 329 = .ok (.if_icmp .ne 7, 3) := by decide +kernel
theorem dX9_does_332 : decode cX9_does 332 = .ok (.iconst 1, 1) := by decide +kernel
theorem dX9_does_333 : decode cX9_does 333 = .ok (.goto 4, 3) := by decide +kernel
theorem dX9_does_336 : decode cX9_does 336 = .ok (.iconst 0, 1) := by decide +kernel
theorem dX9_does_337 : decode cX9_does 337 = .ok (.ireturn, 1) := by decide +kernel
theorem dX9_does_338 : decode cX9_does 338 = .ok (.iconst 0, 1) := by decide +kernel
theorem dX9_does_339 : decode cX9_does 339 = .ok (.ireturn, 1) := by decide +kernel
theorem dX9_runScript_0 : decode cX9_runScript 0 = .ok (.iload_n 1, 1) := by decide +kernel
theorem dX9_runScript_1 : decode cX9_runScript 1 = .ok (.iconst 1, 1) := by decide +kernel
theorem dX9_runScript_2 : decode cX9_runScript 2 = .ok (.if_icmp .ne 9, 3) := by decide +kernel
theorem dX9_runScript_5 : decode cX9_runScript 5 = .ok (.ldc2_w 214, 3) := by decide +kernel
theorem dX9_runScript_8 : decode cX9_runScript 8 = .ok (.goto 17, 3) := by decide +kernel
theorem dX9_runScript_11 : decode cX9_runScript 11 = .ok (.iload_n 1, 1) := by decide +kernel
theorem dX9_runScript_12 : decode cX9_runScript 12 = .ok (.iconst 2, 1) := by decide +kernel
theorem dX9_runScript_13 : decode cX9_runScript 13 = .ok (.if_icmp .ne 9, 3) := by decide +kernel
theorem dX9_runScript_16 : decode cX9_runScript 16 = .ok (.ldc2_w 216, 3) := by decide +kernel
theorem dX9_runScript_19 : decode cX9_runScript 19 = .ok (.goto 6, 3) := by decide +kernel
theorem dX9_runScript_22 : decode cX9_runScript 22 = .ok (.ldc2_w 218, 3) := by decide +kernel
theorem dX9_runScript_25 : decode cX9_runScript 25 = .ok (.lstore 4, 2) := by decide +kernel
theorem dX9_runScript_27 : decode cX9_runScript 27 = .ok (.aload_n 0, 1) := by decide +kernel
theorem dX9_runScript_28 : decode cX9_runScript 28 = .ok (.iload_n 1, 1) := by decide +kernel
theorem dX9_runScript_29 : decode cX9_runScript 29 = .ok (.i2l, 1) := by decide +kernel
theorem dX9_runScript_30 : decode cX9_runScript 30 = .ok (.lconst 1, 1) := by decide +kernel
theorem dX9_runScript_31 : decode cX9_runScript 31 = .ok (.ldc2_w 173, 3) := by decide +kernel
theorem dX9_runScript_34 : decode cX9_runScript 34 = .ok (.invokestatic 50, 3) := by decide +kernel
theorem dX9_runScript_37 : decode cX9_runScript 37 = .ok (.ifCond .eq 19, 3) := by decide +kernel
theorem dX9_runScript_40 : decode cX9_runScript 40 = .ok (.lload_n 2, 1) := by decide +kernel
theorem dX9_runScript_41 : decode cX9_runScript 41 = .ok (.lconst 0, 1) := by decide +kernel
theorem dX9_runScript_42 : decode cX9_runScript 42 = .ok (.lload 4, 2) := by decide +kernel
theorem dX9_runScript_44 : decode cX9_runScript 44 = .ok (.lconst 1, 1) := by decide +kernel
theorem dX9_runScript_45 : decode cX9_runScript 45 = .ok (.lsub, 1) := by decide +kernel
theorem dX9_runScript_46 : decode cX9_runScript 46 = .ok (.invokestatic 50, 3) := by decide +kernel
theorem dX9_runScript_49 : decode cX9_runScript 49 = .ok (.ifCond .eq 7, 3) := by decide +kernel
theorem dX9_runScript_52 : decode cX9_runScript 52 = .ok (.iconst 0, 1) := by decide +kernel
theorem dX9_runScript_53 : decode cX9_runScript 53 = .ok (.goto 4, 3) := by decide +kernel
theorem dX9_runScript_56 : decode cX9_runScript 56 = .ok (.iconst 1, 1) := by decide +kernel
theorem dX9_runScript_57 : decode cX9_runScript 57 = .ok (.invokevirtual 127, 3) := by decide +kernel
theorem dX9_runScript_60 : decode cX9_runScript 60 = .ok (.ifCond .eq 5, 3) := by decide +kernel
theorem dX9_runScript_63 : decode cX9_runScript 63 = .ok (.iconst 0, 1) := by decide +kernel
theorem dX9_runScript_64 : decode cX9_runScript 64 = .ok (.ireturn, 1) := by decide +kernel
theorem dX9_runScript_65 : decode cX9_runScript 65 = .ok (.aload_n 0, 1) := by decide +kernel
theorem dX9_runScript_66 : decode cX9_runScript 66 = .ok (.getfield 23, 3) := by decide +kernel
theorem dX9_runScript_69 : decode cX9_runScript 69 = .ok (.iconst 0, 1) := by decide +kernel
theorem dX9_runScript_70 : decode cX9_runScript 70 = .ok (.aload_n 0, 1) := by decide +kernel
theorem dX9_runScript_71 : decode cX9_runScript 71 = .ok (.getfield 26, 3) := by decide +kernel
theorem dX9_runScript_74 : decode cX9_runScript 74 = .ok (.iconst 0, 1) := by decide +kernel
theorem dX9_runScript_75 : decode cX9_runScript 75 = .ok (.invokestatic 156, 3) := by decide +kernel
theorem dX9_runScript_78 : decode cX9_runScript 78 = .ok (.lload_n 2, 1) := by decide +kernel
theorem dX9_runScript_79 : decode cX9_runScript 79 = .ok (.lstore 6, 2) := by decide +kernel
theorem dX9_runScript_81 : decode cX9_runScript 81 = .ok (.iconst 0, 1) := by decide +kernel
theorem dX9_runScript_82 : decode cX9_runScript 82 = .ok (.istore 8, 2) := by decide +kernel
theorem dX9_runScript_84 : decode cX9_runScript 84 = .ok (.iload 8, 2) := by decide +kernel
theorem dX9_runScript_86 : decode cX9_runScript 86 = .ok (.iload_n 1, 1) := by decide +kernel
theorem dX9_runScript_87 : decode cX9_runScript 87 = .ok (.if_icmp .ge 63, 3) := by decide +kernel
theorem dX9_runScript_90 : decode cX9_runScript 90 = .ok (.lload 4, 2) := by decide +kernel
theorem dX9_runScript_92 : decode cX9_runScript 92 = .ok (.ldc2_w 214, 3) := by decide +kernel
theorem dX9_runScript_95 : decode cX9_runScript 95 = .ok (.ldiv, 1) := by decide +kernel
theorem dX9_runScript_96 : decode cX9_runScript 96 = .ok (.lstore 4, 2) := by decide +kernel
theorem dX9_runScript_98 : decode cX9_runScript 98 = .ok (.lload 6, 2) := by decide +kernel
theorem dX9_runScript_100 : decode cX9_runScript 100 = .ok (.lload 4, 2) := by decide +kernel
theorem dX9_runScript_102 : decode cX9_runScript 102 = .ok (.ldiv, 1) := by decide +kernel
theorem dX9_runScript_103 : decode cX9_runScript 103 = .ok (.l2i, 1) := by decide +kernel
theorem dX9_runScript_104 : decode cX9_runScript 104 = .ok (.istore 9, 2) := by decide +kernel
theorem dX9_runScript_106 : decode cX9_runScript 106 = .ok (.lload 6, 2) := by decide +kernel
theorem dX9_runScript_108 : decode cX9_runScript 108 = .ok (.lload 4, 2) := by decide +kernel
theorem dX9_runScript_110 : decode cX9_runScript 110 = .ok (.lrem, 1) := by decide +kernel
theorem dX9_runScript_111 : decode cX9_runScript 111 = .ok (.lstore 6, 2) := by decide +kernel
theorem dX9_runScript_113 : decode cX9_runScript 113 = .ok (.aload_n 0, 1) := by decide +kernel
theorem dX9_runScript_114 : decode cX9_runScript 114 = .ok (.iload 9, 2) := by decide +kernel
theorem dX9_runScript_116 : decode cX9_runScript 116 = .ok (.sipush 10000, 3) := by decide +kernel
theorem dX9_runScript_119 : decode cX9_runScript 119 = .ok (.idiv, 1) := by decide +kernel
theorem dX9_runScript_120 : decode cX9_runScript 120 = .ok (.iload 9, 2) := by decide +kernel
theorem dX9_runScript_122 : decode cX9_runScript 122 = .ok (.sipush 1000, 3) := by decide +kernel
theorem dX9_runScript_125 : decode cX9_runScript 125 = .ok (.idiv, 1) := by decide +kernel
theorem dX9_runScript_126 : decode cX9_runScript 126 = .ok (.bipush 10, 2) := by decide +kernel
theorem dX9_runScript_128 : decode cX9_runScript 128 = .ok (.irem, 1) := by decide +kernel
theorem dX9_runScript_129 : decode cX9_runScript 129 = .ok (.iload 9, 2) := by decide +kernel
theorem dX9_runScript_131 : decode cX9_runScript 131 = .ok (.sipush 1000, 3) := by decide +kernel
theorem dX9_runScript_134 : decode cX9_runScript 134 = .ok (.irem, 1) := by decide +kernel
theorem dX9_runScript_135 : decode cX9_runScript 135 = .ok (.invokevirtual 220, 3) := by decide +kernel
theorem dX9_runScript_138 : decode cX9_runScript 138 = .ok (.ifCond .ne 6, 3) := by decide +kernel
theorem dX9_runScript_141 : decode cX9_runScript 141 = .ok (.iload 8, 2) := by decide +kernel
theorem dX9_runScript_143 : decode cX9_runScript 143 = .ok (.ireturn, 1) := by decide +kernel
theorem dX9_runScript_144 : decode cX9_runScript 144 = .ok (.iinc 8 1, 3) := by decide +kernel
theorem dX9_runScript_147 : decode cX9_runScript 147 = .ok (.goto (-63), 3) := by decide +kernel
theorem dX9_runScript_150 : decode cX9_runScript 150 = .ok (.bipush (-9), 2) := by decide +kernel
theorem dX9_runScript_152 : decode cX9_runScript 152 = .ok (.ireturn, 1) := by decide +kernel
theorem dX9_simulate_0 : decode cX9_simulate 0 = .ok (.aload_n 0, 1) := by decide +kernel
theorem dX9_simulate_1 : decode cX9_simulate 1 = .ok (.iload_n 3, 1) := by decide +kernel
theorem dX9_simulate_2 : decode cX9_simulate 2 = .ok (.i2l, 1) := by decide +kernel
theorem dX9_simulate_3 : decode cX9_simulate 3 = .ok (.lconst 1, 1) := by decide +kernel
theorem dX9_simulate_4 : decode cX9_simulate 4 = .ok (.ldc2_w 178, 3) := by decide +kernel
theorem dX9_simulate_7 : decode cX9_simulate 7 = .ok (.invokestatic 50, 3) := by decide +kernel
theorem dX9_simulate_10 : decode cX9_simulate 10 = .ok (.ifCond .eq 7, 3) := by decide +kernel
theorem dX9_simulate_13 : decode cX9_simulate 13 = .ok (.iconst 0, 1) := by decide +kernel
theorem dX9_simulate_14 : decode cX9_simulate 14 = .ok (.goto 4, 3) := by decide +kernel
theorem dX9_simulate_17 : decode cX9_simulate 17 = .ok (.iconst 1, 1) := by decide +kernel
theorem dX9_simulate_18 : decode cX9_simulate 18 = .ok (.invokevirtual 127, 3) := by decide +kernel
theorem dX9_simulate_21 : decode cX9_simulate 21 = .ok (.ifCond .eq 5, 3) := by decide +kernel
theorem dX9_simulate_24 : decode cX9_simulate 24 = .ok (.iconst 0, 1) := by decide +kernel
theorem dX9_simulate_25 : decode cX9_simulate 25 = .ok (.ireturn, 1) := by decide +kernel
theorem dX9_simulate_26 : decode cX9_simulate 26 = .ok (.aload_n 0, 1) := by decide +kernel
theorem dX9_simulate_27 : decode cX9_simulate 27 = .ok (.getfield 23, 3) := by decide +kernel
theorem dX9_simulate_30 : decode cX9_simulate 30 = .ok (.iconst 0, 1) := by decide +kernel
theorem dX9_simulate_31 : decode cX9_simulate 31 = .ok (.aload_n 0, 1) := by decide +kernel
theorem dX9_simulate_32 : decode cX9_simulate 32 = .ok (.getfield 26, 3) := by decide +kernel
theorem dX9_simulate_35 : decode cX9_simulate 35 = .ok (.iconst 0, 1) := by decide +kernel
theorem dX9_simulate_36 : decode cX9_simulate 36 = .ok (.invokestatic 156, 3) := by decide +kernel
theorem dX9_simulate_39 : decode cX9_simulate 39 = .ok (.lload_n 1, 1) := by decide +kernel
theorem dX9_simulate_40 : decode cX9_simulate 40 = .ok (.lstore 4, 2) := by decide +kernel
theorem dX9_simulate_42 : decode cX9_simulate 42 = .ok (.iconst 0, 1) := by decide +kernel
theorem dX9_simulate_43 : decode cX9_simulate 43 = .ok (.istore 6, 2) := by decide +kernel
theorem dX9_simulate_45 : decode cX9_simulate 45 = .ok (.iload 6, 2) := by decide +kernel
theorem dX9_simulate_47 : decode cX9_simulate 47 = .ok (.iload_n 3, 1) := by decide +kernel
theorem dX9_simulate_48 : decode cX9_simulate 48 = .ok (.if_icmp .ge 90, 3) := by decide +kernel
theorem dX9_simulate_51 : decode cX9_simulate 51 = .ok (.lload 4, 2) := by decide +kernel
theorem dX9_simulate_53 : decode cX9_simulate 53 = .ok (.ldc2_w 224, 3) := by decide +kernel
theorem dX9_simulate_56 : decode cX9_simulate 56 = .ok (.lmul, 1) := by decide +kernel
theorem dX9_simulate_57 : decode cX9_simulate 57 = .ok (.ldc2_w 226, 3) := by decide +kernel
theorem dX9_simulate_60 : decode cX9_simulate 60 = .ok (.ladd, 1) := by decide +kernel
theorem dX9_simulate_61 : decode cX9_simulate 61 = .ok (.lstore 4, 2) := by decide +kernel
theorem dX9_simulate_63 : decode cX9_simulate 63 = .ok (.lload 4, 2) := by decide +kernel
theorem dX9_simulate_65 : decode cX9_simulate 65 = .ok (.bipush 33, 2) := by decide +kernel
theorem dX9_simulate_67 : decode cX9_simulate 67 = .ok (.lushr, 1) := by decide +kernel
theorem dX9_simulate_68 : decode cX9_simulate 68 = .ok (.l2i, 1) := by decide +kernel
theorem dX9_simulate_69 : decode cX9_simulate 69 = .ok (.istore 7, 2) := by decide +kernel
theorem dX9_simulate_71 : decode cX9_simulate 71 = .ok (.iload 7, 2) := by decide +kernel
theorem dX9_simulate_73 : decode cX9_simulate 73 = .ok (.bipush 16, 2) := by decide +kernel
theorem dX9_simulate_75 : decode cX9_simulate 75 = .ok (.idiv, 1) := by decide +kernel
theorem dX9_simulate_76 : decode cX9_simulate 76 = .ok (.iconst 2, 1) := by decide +kernel
theorem dX9_simulate_77 : decode cX9_simulate 77 = .ok (.irem, 1) := by decide +kernel
theorem dX9_simulate_78 : decode cX9_simulate 78 = .ok (.istore 8, 2) := by decide +kernel
theorem dX9_simulate_80 : decode cX9_simulate 80 = .ok (.iload 7, 2) := by decide +kernel
theorem dX9_simulate_82 : decode cX9_simulate 82 = .ok (.bipush 16, 2) := by decide +kernel
theorem dX9_simulate_84 : decode cX9_simulate 84 = .ok (.irem, 1) := by decide +kernel
theorem dX9_simulate_85 : decode cX9_simulate 85 = .ok (.ifCond .ne 32, 3) := by decide +kernel
theorem dX9_simulate_88 : decode cX9_simulate 88 = .ok (.aload_n 0, 1) := by decide +kernel
theorem dX9_simulate_89 : decode cX9_simulate 89 = .ok (.aload_n 0, 1) := by decide +kernel
theorem dX9_simulate_90 : decode cX9_simulate 90 = .ok (.getfield 26, 3) := by decide +kernel
theorem dX9_simulate_93 : decode cX9_simulate 93 = .ok (.iload 8, 2) := by decide +kernel
theorem dX9_simulate_95 : decode cX9_simulate 95 = .ok (.aload_n 0, 1) := by decide +kernel
theorem dX9_simulate_96 : decode cX9_simulate 96 = .ok (.getfield 26, 3) := by decide +kernel
theorem dX9_simulate_99 : decode cX9_simulate 99 = .ok (.bipush 20, 2) := by decide +kernel
theorem dX9_simulate_101 : decode cX9_simulate 101 = .ok (.iload 8, 2) := by decide +kernel
theorem dX9_simulate_103 : decode cX9_simulate 103 = .ok (.iadd, 1) := by decide +kernel
theorem dX9_simulate_104 : decode cX9_simulate 104 = .ok (.iaload, 1) := by decide +kernel
theorem dX9_simulate_105 : decode cX9_simulate 105 = .ok (.ifCond .ne 7, 3) := by decide +kernel
theorem dX9_simulate_108 : decode cX9_simulate 108 = .ok (.iconst 1, 1) := by decide +kernel
theorem dX9_simulate_109 : decode cX9_simulate 109 = .ok (.goto 4, 3) := by decide +kernel
theorem dX9_simulate_112 : decode cX9_simulate 112 = .ok (.iconst 0, 1) := by decide +kernel
theorem dX9_simulate_113 : decode cX9_simulate 113 = .ok (.invokevirtual 196, 3) := by decide +kernel
theorem dX9_simulate_116 : decode cX9_simulate 116 = .ok (.pop, 1) := by decide +kernel
theorem dX9_simulate_117 : decode cX9_simulate 117 = .ok (.aload_n 0, 1) := by decide +kernel
theorem dX9_simulate_118 : decode cX9_simulate 118 = .ok (.aload_n 0, 1) := by decide +kernel
theorem dX9_simulate_119 : decode cX9_simulate 119 = .ok (.getfield 26, 3) := by decide +kernel
theorem dX9_simulate_122 : decode cX9_simulate 122 = .ok (.iload 7, 2) := by decide +kernel
theorem dX9_simulate_124 : decode cX9_simulate 124 = .ok (.bipush 64, 2) := by decide +kernel
theorem dX9_simulate_126 : decode cX9_simulate 126 = .ok (.idiv, 1) := by decide +kernel
theorem dX9_simulate_127 : decode cX9_simulate 127 = .ok (.iconst 4, 1) := by decide +kernel
theorem dX9_simulate_128 : decode cX9_simulate 128 = .ok (.irem, 1) := by decide +kernel
theorem dX9_simulate_129 : decode cX9_simulate 129 = .ok (.invokevirtual 119, 3) := by decide +kernel
theorem dX9_simulate_132 : decode cX9_simulate 132 = .ok (.iinc 6 1, 3) := by decide +kernel
theorem dX9_simulate_135 : decode cX9_simulate 135 = .ok (.goto (-90), 3) := by decide +kernel
theorem dX9_simulate_138 : decode cX9_simulate 138 = .ok (.sipush 1000, 3) := by decide +kernel
theorem dX9_simulate_141 : decode cX9_simulate 141 = .ok (.aload_n 0, 1) := by decide +kernel
theorem dX9_simulate_142 : decode cX9_simulate 142 = .ok (.aload_n 0, 1) := by decide +kernel
theorem dX9_simulate_143 : decode cX9_simulate 143 = .ok (.getfield 26, 3) := by decide +kernel
theorem dX9_simulate_146 : decode cX9_simulate 146 = .ok (.invokevirtual 175, 3) := by decide +kernel
theorem dX9_simulate_149 : decode cX9_simulate 149 = .ok (.aload_n 0, 1) := by decide +kernel
theorem dX9_simulate_150 : decode cX9_simulate 150 = .ok (.aload_n 0, 1) := by decide +kernel
theorem dX9_simulate_151 : decode cX9_simulate 151 = .ok (.getfield 23, 3) := by decide +kernel
theorem dX9_simulate_154 : decode cX9_simulate 154 = .ok (.invokevirtual 175, 3) := by decide +kernel
theorem dX9_simulate_157 : decode cX9_simulate 157 = .ok (.isub, 1) := by decide +kernel
theorem dX9_simulate_158 : decode cX9_simulate 158 = .ok (.imul, 1) := by decide +kernel
theorem dX9_simulate_159 : decode cX9_simulate 159 = .ok (.aload_n 0, 1) := by decide +kernel
theorem dX9_simulate_160 : decode cX9_simulate 160 = .ok (.aload_n 0, 1) := by decide +kernel
theorem dX9_simulate_161 : decode cX9_simulate 161 = .ok (.getfield 26, 3) := by decide +kernel
theorem dX9_simulate_164 : decode cX9_simulate 164 = .ok (.invokevirtual 87, 3) := by decide +kernel
theorem dX9_simulate_167 : decode cX9_simulate 167 = .ok (.iadd, 1) := by decide +kernel
theorem dX9_simulate_168 : decode cX9_simulate 168 = .ok (.ireturn, 1) := by decide +kernel
theorem dX9_save_0 : decode cX9_save 0 = .ok (.aload_n 0, 1) := by decide +kernel
theorem dX9_save_1 : decode cX9_save 1 = .ok (.iload_n 1, 1) := by decide +kernel
theorem dX9_save_2 : decode cX9_save 2 = .ok (.i2l, 1) := by decide +kernel
theorem dX9_save_3 : decode cX9_save 3 = .ok (.lconst 0, 1) := by decide +kernel
theorem dX9_save_4 : decode cX9_save 4 = .ok (.lconst 1, 1) := by decide +kernel
theorem dX9_save_5 : decode cX9_save 5 = .ok (.invokestatic 50, 3) := by decide +kernel
theorem dX9_save_8 : decode cX9_save 8 = .ok (.ifCond .eq 7, 3) := by decide +kernel
theorem dX9_save_11 : decode cX9_save 11 = .ok (.iconst 0, 1) := by decide +kernel
theorem dX9_save_12 : decode cX9_save 12 = .ok (.goto 4, 3) := by decide +kernel
theorem dX9_save_15 : decode cX9_save 15 = .ok (.iconst 1, 1) := by decide +kernel
theorem dX9_save_16 : decode cX9_save 16 = .ok (.invokevirtual 127, 3) := by decide +kernel
theorem dX9_save_19 : decode cX9_save 19 = .ok (.ifCond .eq 5, 3) := by decide +kernel
theorem dX9_save_22 : decode cX9_save 22 = .ok (.iconst 0, 1) := by decide +kernel
theorem dX9_save_23 : decode cX9_save 23 = .ok (.ireturn, 1) := by decide +kernel
theorem dX9_save_24 : decode cX9_save 24 = .ok (.aload_n 0, 1) := by decide +kernel
theorem dX9_save_25 : decode cX9_save 25 = .ok (.getfield 35, 3) := by decide +kernel
theorem dX9_save_28 : decode cX9_save 28 = .ok (.iload_n 1, 1) := by decide +kernel
theorem dX9_save_29 : decode cX9_save 29 = .ok (.iconst 1, 1) := by decide +kernel
theorem dX9_save_30 : decode cX9_save 30 = .ok (.bastore, 1) := by decide +kernel
theorem dX9_save_31 : decode cX9_save 31 = .ok (.aload_n 0, 1) := by decide +kernel
theorem dX9_save_32 : decode cX9_save 32 = .ok (.getfield 23, 3) := by decide +kernel
theorem dX9_save_35 : decode cX9_save 35 = .ok (.iconst 0, 1) := by decide +kernel
theorem dX9_save_36 : decode cX9_save 36 = .ok (.aload_n 0, 1) := by decide +kernel
theorem dX9_save_37 : decode cX9_save 37 = .ok (.getfield 32, 3) := by decide +kernel
theorem dX9_save_40 : decode cX9_save 40 = .ok (.bipush 65, 2) := by decide +kernel
theorem dX9_save_42 : decode cX9_save 42 = .ok (.iload_n 1, 1) := by decide +kernel
theorem dX9_save_43 : decode cX9_save 43 = .ok (.imul, 1) := by decide +kernel
theorem dX9_save_44 : decode cX9_save 44 = .ok (.invokestatic 156, 3) := by decide +kernel
theorem dX9_save_47 : decode cX9_save 47 = .ok (.aload_n 0, 1) := by decide +kernel
theorem dX9_save_48 : decode cX9_save 48 = .ok (.getfield 23, 3) := by decide +kernel
theorem dX9_save_51 : decode cX9_save 51 = .ok (.bipush 6, 2) := by decide +kernel
theorem dX9_save_53 : decode cX9_save 53 = .ok (.iaload, 1) := by decide +kernel
theorem dX9_save_54 : decode cX9_save 54 = .ok (.ireturn, 1) := by decide +kernel
theorem dX9_restore_0 : decode cX9_restore 0 = .ok (.aload_n 0, 1) := by decide +kernel
theorem dX9_restore_1 : decode cX9_restore 1 = .ok (.iload_n 1, 1) := by decide +kernel
theorem dX9_restore_2 : decode cX9_restore 2 = .ok (.i2l, 1) := by decide +kernel
theorem dX9_restore_3 : decode cX9_restore 3 = .ok (.lconst 0, 1) := by decide +kernel
theorem dX9_restore_4 : decode cX9_restore 4 = .ok (.lconst 1, 1) := by decide +kernel
theorem dX9_restore_5 : decode cX9_restore 5 = .ok (.invokestatic 50, 3) := by decide +kernel
theorem dX9_restore_8 : decode cX9_restore 8 = .ok (.ifCond .ne 7, 3) := by decide +kernel
theorem dX9_restore_11 : decode cX9_restore 11 = .ok (.iconst 1, 1) := by decide +kernel
theorem dX9_restore_12 : decode cX9_restore 12 = .ok (.goto 17, 3) := by decide +kernel
theorem dX9_restore_15 : decode cX9_restore 15 = .ok (.aload_n 0, 1) := by decide +kernel
theorem dX9_restore_16 : decode cX9_restore 16 = .ok (.getfield 35, 3) := by decide +kernel
theorem dX9_restore_19 : decode cX9_restore 19 = .ok (.iload_n 1, 1) := by decide +kernel
theorem dX9_restore_20 : decode cX9_restore 20 = .ok (.baload, 1) := by decide +kernel
theorem dX9_restore_21 : decode cX9_restore 21 = .ok (.ifCond .ne 7, 3) := by decide +kernel
theorem dX9_restore_24 : decode cX9_restore 24 = .ok (.iconst 2, 1) := by decide +kernel
theorem dX9_restore_25 : decode cX9_restore 25 = .ok (.goto 4, 3) := by decide +kernel
theorem dX9_restore_28 : decode cX9_restore 28 = .ok (.iconst 0, 1) := by decide +kernel
theorem dX9_restore_29 : decode cX9_restore 29 = .ok (.invokevirtual 127, 3) := by decide +kernel
theorem dX9_restore_32 : decode cX9_restore 32 = .ok (.ifCond .eq 5, 3) := by decide +kernel
theorem dX9_restore_35 : decode cX9_restore 35 = .ok (.iconst 0, 1) := by decide +kernel
theorem dX9_restore_36 : decode cX9_restore 36 = .ok (.ireturn, 1) := by decide +kernel
theorem dX9_restore_37 : decode cX9_restore 37 = .ok (.aload_n 0, 1) := by decide +kernel
theorem dX9_restore_38 : decode cX9_restore 38 = .ok (.getfield 32, 3) := by decide +kernel
theorem dX9_restore_41 : decode cX9_restore 41 = .ok (.bipush 65, 2) := by decide +kernel
theorem dX9_restore_43 : decode cX9_restore 43 = .ok (.iload_n 1, 1) := by decide +kernel
theorem dX9_restore_44 : decode cX9_restore 44 = .ok (.imul, 1) := by decide +kernel
theorem dX9_restore_45 : decode cX9_restore 45 = .ok (.aload_n 0, 1) := by decide +kernel
theorem dX9_restore_46 : decode cX9_restore 46 = .ok (.getfield 23, 3) := by decide +kernel
theorem dX9_restore_49 : decode cX9_restore 49 = .ok (.iconst 0, 1) := by decide +kernel
theorem dX9_restore_50 : decode cX9_restore 50 = .ok (.invokestatic 156, 3) := by decide +kernel
theorem dX9_restore_53 : decode cX9_restore 53 = .ok (.aload_n 0, 1) := by decide +kernel
theorem dX9_restore_54 : decode cX9_restore 54 = .ok (.iconst 0, 1) := by decide +kernel
theorem dX9_restore_55 : decode cX9_restore 55 = .ok (.putfield 160, 3) := by decide +kernel
theorem dX9_restore_58 : decode cX9_restore 58 = .ok (.aload_n 0, 1) := by decide +kernel
theorem dX9_restore_59 : decode cX9_restore 59 = .ok (.getfield 23, 3) := by decide +kernel
theorem dX9_restore_62 : decode cX9_restore 62 = .ok (.bipush 6, 2) := by decide +kernel
theorem dX9_restore_64 : decode cX9_restore 64 = .ok (.iaload, 1) := by decide +kernel
theorem dX9_restore_65 : decode cX9_restore 65 = .ok (.ireturn, 1) := by decide +kernel
theorem dJ6_bitCount_0f7a4_0 : decode cJ6_bitCount_0f7a4 0 = .ok (.iload_n 0, 1) := by decide +kernel
theorem dJ6_bitCount_0f7a4_1 : decode cJ6_bitCount_0f7a4 1 = .ok (.iload_n 0, 1) := by decide +kernel
theorem dJ6_bitCount_0f7a4_2 : decode cJ6_bitCount_0f7a4 2 = .ok (.iconst 1, 1) := by decide +kernel
theorem dJ6_bitCount_0f7a4_3 : decode cJ6_bitCount_0f7a4 3 = .ok (.iushr, 1) := by decide +kernel
theorem dJ6_bitCount_0f7a4_4 : decode cJ6_bitCount_0f7a4 4 = .ok (.ldc_w 265, 3) := by decide +kernel
theorem dJ6_bitCount_0f7a4_7 : decode cJ6_bitCount_0f7a4 7 = .ok (.iand, 1) := by decide +kernel
theorem dJ6_bitCount_0f7a4_8 : decode cJ6_bitCount_0f7a4 8 = .ok (.isub, 1) := by decide +kernel
theorem dJ6_bitCount_0f7a4_9 : decode cJ6_bitCount_0f7a4 9 = .ok (.istore_n 0, 1) := by decide +kernel
theorem dJ6_bitCount_0f7a4_10 : decode cJ6_bitCount_0f7a4 10 = .ok (.iload_n 0, 1) := by decide +kernel
theorem dJ6_bitCount_0f7a4_11 : decode cJ6_bitCount_0f7a4 11 = .ok (.ldc_w 266, 3) := by decide +kernel
theorem dJ6_bitCount_0f7a4_14 : decode cJ6_bitCount_0f7a4 14 = .ok (.iand, 1) := by decide +kernel
theorem dJ6_bitCount_0f7a4_15 : decode cJ6_bitCount_0f7a4 15 = .ok (.iload_n 0, 1) := by decide +kernel
theorem dJ6_bitCount_0f7a4_16 : decode cJ6_bitCount_0f7a4 16 = .ok (.iconst 2, 1) := by decide +kernel
theorem dJ6_bitCount_0f7a4_17 : decode cJ6_bitCount_0f7a4 17 = .ok (.iushr, 1) := by decide +kernel
theorem dJ6_bitCount_0f7a4_18 : decode cJ6_bitCount_0f7a4 18 = .ok (.ldc_w 266, 3) := by decide +kernel
theorem dJ6_bitCount_0f7a4_21 : decode cJ6_bitCount_0f7a4 21 = .ok (.iand, 1) := by decide +kernel
theorem dJ6_bitCount_0f7a4_22 : decode cJ6_bitCount_0f7a4 22 = .ok (.iadd, 1) := by decide +kernel
theorem dJ6_bitCount_0f7a4_23 : decode cJ6_bitCount_0f7a4 23 = .ok (.istore_n 0, 1) := by decide +kernel
theorem dJ6_bitCount_0f7a4_24 : decode cJ6_bitCount_0f7a4 24 = .ok (.iload_n 0, 1) := by decide +kernel
theorem dJ6_bitCount_0f7a4_25 : decode cJ6_bitCount_0f7a4 25 = .ok (.iload_n 0, 1) := by decide +kernel
theorem dJ6_bitCount_0f7a4_26 : decode cJ6_bitCount_0f7a4 26 = .ok (.iconst 4, 1) := by decide +kernel
theorem dJ6_bitCount_0f7a4_27 : decode cJ6_bitCount_0f7a4 27 = .ok (.iushr, 1) := by decide +kernel
theorem dJ6_bitCount_0f7a4_28 : decode cJ6_bitCount_0f7a4 28 = .ok (.iadd, 1) := by decide +kernel
theorem dJ6_bitCount_0f7a4_29 : decode cJ6_bitCount_0f7a4 29 = .ok (.ldc_w 267, 3) := by decide +kernel
theorem dJ6_bitCount_0f7a4_32 : decode cJ6_bitCount_0f7a4 32 = .ok (.iand, 1) := by decide +kernel
theorem dJ6_bitCount_0f7a4_33 : decode cJ6_bitCount_0f7a4 33 = .ok (.istore_n 0, 1) := by decide +kernel
theorem dJ6_bitCount_0f7a4_34 : decode cJ6_bitCount_0f7a4 34 = .ok (.iload_n 0, 1) := by decide +kernel
theorem dJ6_bitCount_0f7a4_35 : decode cJ6_bitCount_0f7a4 35 = .ok (.iload_n 0, 1) := by decide +kernel
theorem dJ6_bitCount_0f7a4_36 : decode cJ6_bitCount_0f7a4 36 = .ok (.bipush 8, 2) := by decide +kernel
theorem dJ6_bitCount_0f7a4_38 : decode cJ6_bitCount_0f7a4 38 = .ok (.iushr, 1) := by decide +kernel
theorem dJ6_bitCount_0f7a4_39 : decode cJ6_bitCount_0f7a4 39 = .ok (.iadd, 1) := by decide +kernel
theorem dJ6_bitCount_0f7a4_40 : decode cJ6_bitCount_0f7a4 40 = .ok (.istore_n 0, 1) := by decide +kernel
theorem dJ6_bitCount_0f7a4_41 : decode cJ6_bitCount_0f7a4 41 = .ok (.iload_n 0, 1) := by decide +kernel
theorem dJ6_bitCount_0f7a4_42 : decode cJ6_bitCount_0f7a4 42 = .ok (.iload_n 0, 1) := by decide +kernel
theorem dJ6_bitCount_0f7a4_43 : decode cJ6_bitCount_0f7a4 43 = .ok (.bipush 16, 2) := by decide +kernel
theorem dJ6_bitCount_0f7a4_45 : decode cJ6_bitCount_0f7a4 45 = .ok (.iushr, 1) := by decide +kernel
theorem dJ6_bitCount_0f7a4_46 : decode cJ6_bitCount_0f7a4 46 = .ok (.iadd, 1) := by decide +kernel
theorem dJ6_bitCount_0f7a4_47 : decode cJ6_bitCount_0f7a4 47 = .ok (.istore_n 0, 1) := by decide +kernel
theorem dJ6_bitCount_0f7a4_48 : decode cJ6_bitCount_0f7a4 48 = .ok (.iload_n 0, 1) := by decide +kernel
theorem dJ6_bitCount_0f7a4_49 : decode cJ6_bitCount_0f7a4 49 = .ok (.bipush 63, 2) := by decide +kernel
theorem dJ6_bitCount_0f7a4_51 : decode cJ6_bitCount_0f7a4 51 = .ok (.iand, 1) := by decide +kernel
theorem dJ6_bitCount_0f7a4_52 : decode cJ6_bitCount_0f7a4 52 = .ok (.ireturn, 1) := by decide +kernel
theorem dJ9_min_7cf53_0 : decode cJ9_min_7cf53 0 = .ok (.iload_n 0, 1) := by decide +kernel
theorem dJ9_min_7cf53_1 : decode cJ9_min_7cf53 1 = .ok (.iload_n 1, 1) := by decide +kernel
theorem dJ9_min_7cf53_2 : decode cJ9_min_7cf53 2 = .ok (.if_icmp .gt 7, 3) := by decide +kernel
theorem dJ9_min_7cf53_5 : decode cJ9_min_7cf53 5 = .ok (.iload_n 0, 1) := by decide +kernel
theorem dJ9_min_7cf53_6 : decode cJ9_min_7cf53 6 = .ok (.goto 4, 3) := by decide +kernel
theorem dJ9_min_7cf53_9 : decode cJ9_min_7cf53 9 = .ok (.iload_n 1, 1) := by decide +kernel
theorem dJ9_min_7cf53_10 : decode cJ9_min_7cf53 10 = .ok (.ireturn, 1) := by decide +kernel
theorem dL_append_0 : decode cL_append 0 = .ok (.aload_n 2, 1) := by decide +kernel
theorem dL_append_1 : decode cL_append 1 = .ok (.iconst 0, 1) := by decide +kernel
theorem dL_append_2 : decode cL_append 2 = .ok (.aload_n 0, 1) := by decide +kernel
theorem dL_append_3 : decode cL_append 3 = .ok (.iload_n 1, 1) := by decide +kernel
theorem dL_append_4 : decode cL_append 4 = .ok (.invokevirtual 7, 3) := by decide +kernel
theorem dL_append_7 : decode cL_append 7 = .ok (.i2l, 1) := by decide +kernel
theorem dL_append_8 : decode cL_append 8 = .ok (.lastore, 1) := by decide +kernel
theorem dL_append_9 : decode cL_append 9 = .ok (.goto 9, 3) := by decide +kernel
theorem dL_append_12 : decode cL_append 12 = .ok (.astore_n 3, 1) := by decide +kernel
theorem dL_append_13 : decode cL_append 13 = .ok (.iconst 1, 1) := by decide +kernel
theorem dL_append_14 : decode cL_append 14 = .ok (.ireturn, 1) := by decide +kernel
theorem dL_append_15 : decode cL_append 15 = .ok (.astore_n 3, 1) := by decide +kernel
theorem dL_append_16 : decode cL_append 16 = .ok (.iconst 2, 1) := by decide +kernel
theorem dL_append_17 : decode cL_append 17 = .ok (.ireturn, 1) := by decide +kernel
theorem dL_append_18 : decode cL_append 18 = .ok (.iconst 0, 1) := by decide +kernel
theorem dL_append_19 : decode cL_append 19 = .ok (.ireturn, 1) := by decide +kernel
theorem dL_load_0 : decode cL_load 0 = .ok (.aload_n 1, 1) := by decide +kernel
theorem dL_load_1 : decode cL_load 1 = .ok (.iconst 0, 1) := by decide +kernel
theorem dL_load_2 : decode cL_load 2 = .ok (.aload_n 0, 1) := by decide +kernel
theorem dL_load_3 : decode cL_load 3 = .ok (.invokevirtual 17, 3) := by decide +kernel
theorem dL_load_6 : decode cL_load 6 = .ok (.i2l, 1) := by decide +kernel
theorem dL_load_7 : decode cL_load 7 = .ok (.lastore, 1) := by decide +kernel
theorem dL_load_8 : decode cL_load 8 = .ok (.goto 6, 3) := by decide +kernel
theorem dL_load_11 : decode cL_load 11 = .ok (.astore_n 2, 1) := by decide +kernel
theorem dL_load_12 : decode cL_load 12 = .ok (.iconst 1, 1) := by decide +kernel
theorem dL_load_13 : decode cL_load 13 = .ok (.ireturn, 1) := by decide +kernel
theorem dL_load_14 : decode cL_load 14 = .ok (.iconst 0, 1) := by decide +kernel
theorem dL_load_15 : decode cL_load 15 = .ok (.ireturn, 1) := by decide +kernel
theorem dL_about_0 : decode cL_about 0 = .ok (.aload_n 2, 1) := by decide +kernel
theorem dL_about_1 : decode cL_about 1 = .ok (.iconst 0, 1) := by decide +kernel
theorem dL_about_2 : decode cL_about 2 = .ok (.aload_n 0, 1) := by decide +kernel
theorem dL_about_3 : decode cL_about 3 = .ok (.iload_n 1, 1) := by decide +kernel
theorem dL_about_4 : decode cL_about 4 = .ok (.invokevirtual 21, 3) := by decide +kernel
theorem dL_about_7 : decode cL_about 7 = .ok (.i2l, 1) := by decide +kernel
theorem dL_about_8 : decode cL_about 8 = .ok (.lastore, 1) := by decide +kernel
theorem dL_about_9 : decode cL_about 9 = .ok (.goto 6, 3) := by decide +kernel
theorem dL_about_12 : decode cL_about 12 = .ok (.astore_n 3, 1) := by decide +kernel
theorem dL_about_13 : decode cL_about 13 = .ok (.iconst 1, 1) := by decide +kernel
theorem dL_about_14 : decode cL_about 14 = .ok (.ireturn, 1) := by decide +kernel
theorem dL_about_15 : decode cL_about 15 = .ok (.iconst 0, 1) := by decide +kernel
theorem dL_about_16 : decode cL_about 16 = .ok (.ireturn, 1) := by decide +kernel
theorem dL_boiler_0 : decode cL_boiler 0 = .ok (.aload_n 3, 1) := by decide +kernel
theorem dL_boiler_1 : decode cL_boiler 1 = .ok (.iconst 0, 1) := by decide +kernel
theorem dL_boiler_2 : decode cL_boiler 2 = .ok (.aload_n 0, 1) := by decide +kernel
theorem dL_boiler_3 : decode cL_boiler 3 = .ok (.iload_n 1, 1) := by decide +kernel
theorem dL_boiler_4 : decode cL_boiler 4 = .ok (.iload_n 2, 1) := by decide +kernel
theorem dL_boiler_5 : decode cL_boiler 5 = .ok (.invokevirtual 24, 3) := by decide +kernel
theorem dL_boiler_8 : decode cL_boiler 8 = .ok (.i2l, 1) := by decide +kernel
theorem dL_boiler_9 : decode cL_boiler 9 = .ok (.lastore, 1) := by decide +kernel
theorem dL_boiler_10 : decode cL_boiler 10 = .ok (.goto 11, 3) := by decide +kernel
theorem dL_boiler_13 : decode cL_boiler 13 = .ok (.astore 4, 2) := by decide +kernel
theorem dL_boiler_15 : decode cL_boiler 15 = .ok (.iconst 1, 1) := by decide +kernel
theorem dL_boiler_16 : decode cL_boiler 16 = .ok (.ireturn, 1) := by decide +kernel
theorem dL_boiler_17 : decode cL_boiler 17 = .ok (.astore 4, 2) := by decide +kernel
theorem dL_boiler_19 : decode cL_boiler 19 = .ok (.iconst 2, 1) := by decide +kernel
theorem dL_boiler_20 : decode cL_boiler 20 = .ok (.ireturn, 1) := by decide +kernel
theorem dL_boiler_21 : decode cL_boiler 21 = .ok (.iconst 0, 1) := by decide +kernel
theorem dL_boiler_22 : decode cL_boiler 22 = .ok (.ireturn, 1) := by decide +kernel
theorem dL_flue_0 : decode cL_flue 0 = .ok (.aload_n 3, 1) := by decide +kernel
theorem dL_flue_1 : decode cL_flue 1 = .ok (.iconst 0, 1) := by decide +kernel
theorem dL_flue_2 : decode cL_flue 2 = .ok (.aload_n 0, 1) := by decide +kernel
theorem dL_flue_3 : decode cL_flue 3 = .ok (.iload_n 1, 1) := by decide +kernel
theorem dL_flue_4 : decode cL_flue 4 = .ok (.iload_n 2, 1) := by decide +kernel
theorem dL_flue_5 : decode cL_flue 5 = .ok (.invokevirtual 30, 3) := by decide +kernel
theorem dL_flue_8 : decode cL_flue 8 = .ok (.i2l, 1) := by decide +kernel
theorem dL_flue_9 : decode cL_flue 9 = .ok (.lastore, 1) := by decide +kernel
theorem dL_flue_10 : decode cL_flue 10 = .ok (.goto 11, 3) := by decide +kernel
theorem dL_flue_13 : decode cL_flue 13 = .ok (.astore 4, 2) := by decide +kernel
theorem dL_flue_15 : decode cL_flue 15 = .ok (.iconst 1, 1) := by decide +kernel
theorem dL_flue_16 : decode cL_flue 16 = .ok (.ireturn, 1) := by decide +kernel
theorem dL_flue_17 : decode cL_flue 17 = .ok (.astore 4, 2) := by decide +kernel
theorem dL_flue_19 : decode cL_flue 19 = .ok (.iconst 2, 1) := by decide +kernel
theorem dL_flue_20 : decode cL_flue 20 = .ok (.ireturn, 1) := by decide +kernel
theorem dL_flue_21 : decode cL_flue 21 = .ok (.iconst 0, 1) := by decide +kernel
theorem dL_flue_22 : decode cL_flue 22 = .ok (.ireturn, 1) := by decide +kernel
theorem dL_layer_0 : decode cL_layer 0 = .ok (.aload_n 2, 1) := by decide +kernel
theorem dL_layer_1 : decode cL_layer 1 = .ok (.iconst 0, 1) := by decide +kernel
theorem dL_layer_2 : decode cL_layer 2 = .ok (.aload_n 0, 1) := by decide +kernel
theorem dL_layer_3 : decode cL_layer 3 = .ok (.iload_n 1, 1) := by decide +kernel
theorem dL_layer_4 : decode cL_layer 4 = .ok (.invokevirtual 33, 3) := by decide +kernel
theorem dL_layer_7 : decode cL_layer 7 = .ok (.i2l, 1) := by decide +kernel
theorem dL_layer_8 : decode cL_layer 8 = .ok (.lastore, 1) := by decide +kernel
theorem dL_layer_9 : decode cL_layer 9 = .ok (.goto 6, 3) := by decide +kernel
theorem dL_layer_12 : decode cL_layer 12 = .ok (.astore_n 3, 1) := by decide +kernel
theorem dL_layer_13 : decode cL_layer 13 = .ok (.iconst 1, 1) := by decide +kernel
theorem dL_layer_14 : decode cL_layer 14 = .ok (.ireturn, 1) := by decide +kernel
theorem dL_layer_15 : decode cL_layer 15 = .ok (.iconst 0, 1) := by decide +kernel
theorem dL_layer_16 : decode cL_layer 16 = .ok (.ireturn, 1) := by decide +kernel
theorem dL_account_0 : decode cL_account 0 = .ok (.aload_n 2, 1) := by decide +kernel
theorem dL_account_1 : decode cL_account 1 = .ok (.iconst 0, 1) := by decide +kernel
theorem dL_account_2 : decode cL_account 2 = .ok (.aload_n 0, 1) := by decide +kernel
theorem dL_account_3 : decode cL_account 3 = .ok (.iload_n 1, 1) := by decide +kernel
theorem dL_account_4 : decode cL_account 4 = .ok (.invokevirtual 36, 3) := by decide +kernel
theorem dL_account_7 : decode cL_account 7 = .ok (.i2l, 1) := by decide +kernel
theorem dL_account_8 : decode cL_account 8 = .ok (.lastore, 1) := by decide +kernel
theorem dL_account_9 : decode cL_account 9 = .ok (.goto 6, 3) := by decide +kernel
theorem dL_account_12 : decode cL_account 12 = .ok (.astore_n 3, 1) := by decide +kernel
theorem dL_account_13 : decode cL_account 13 = .ok (.iconst 1, 1) := by decide +kernel
theorem dL_account_14 : decode cL_account 14 = .ok (.ireturn, 1) := by decide +kernel
theorem dL_account_15 : decode cL_account 15 = .ok (.iconst 0, 1) := by decide +kernel
theorem dL_account_16 : decode cL_account 16 = .ok (.ireturn, 1) := by decide +kernel
theorem dL_tick_0 : decode cL_tick 0 = .ok (.aload_n 3, 1) := by decide +kernel
theorem dL_tick_1 : decode cL_tick 1 = .ok (.iconst 0, 1) := by decide +kernel
theorem dL_tick_2 : decode cL_tick 2 = .ok (.aload_n 0, 1) := by decide +kernel
theorem dL_tick_3 : decode cL_tick 3 = .ok (.iload_n 1, 1) := by decide +kernel
theorem dL_tick_4 : decode cL_tick 4 = .ok (.iload_n 2, 1) := by decide +kernel
theorem dL_tick_5 : decode cL_tick 5 = .ok (.invokevirtual 39, 3) := by decide +kernel
theorem dL_tick_8 : decode cL_tick 8 = .ok (.i2l, 1) := by decide +kernel
theorem dL_tick_9 : decode cL_tick 9 = .ok (.lastore, 1) := by decide +kernel
theorem dL_tick_10 : decode cL_tick 10 = .ok (.goto 7, 3) := by decide +kernel
theorem dL_tick_13 : decode cL_tick 13 = .ok (.astore 4, 2) := by decide +kernel
theorem dL_tick_15 : decode cL_tick 15 = .ok (.iconst 1, 1) := by decide +kernel
theorem dL_tick_16 : decode cL_tick 16 = .ok (.ireturn, 1) := by decide +kernel
theorem dL_tick_17 : decode cL_tick 17 = .ok (.iconst 0, 1) := by decide +kernel
theorem dL_tick_18 : decode cL_tick 18 = .ok (.ireturn, 1) := by decide +kernel
theorem dL_draw_0 : decode cL_draw 0 = .ok (.aload_n 2, 1) := by decide +kernel
theorem dL_draw_1 : decode cL_draw 1 = .ok (.iconst 0, 1) := by decide +kernel
theorem dL_draw_2 : decode cL_draw 2 = .ok (.aload_n 0, 1) := by decide +kernel
theorem dL_draw_3 : decode cL_draw 3 = .ok (.iload_n 1, 1) := by decide +kernel
theorem dL_draw_4 : decode cL_draw 4 = .ok (.invokevirtual 42, 3) := by decide +kernel
theorem dL_draw_7 : decode cL_draw 7 = .ok (.i2l, 1) := by decide +kernel
theorem dL_draw_8 : decode cL_draw 8 = .ok (.lastore, 1) := by decide +kernel
theorem dL_draw_9 : decode cL_draw 9 = .ok (.goto 6, 3) := by decide +kernel
theorem dL_draw_12 : decode cL_draw 12 = .ok (.astore_n 3, 1) := by decide +kernel
theorem dL_draw_13 : decode cL_draw 13 = .ok (.iconst 1, 1) := by decide +kernel
theorem dL_draw_14 : decode cL_draw 14 = .ok (.ireturn, 1) := by decide +kernel
theorem dL_draw_15 : decode cL_draw 15 = .ok (.iconst 0, 1) := by decide +kernel
theorem dL_draw_16 : decode cL_draw 16 = .ok (.ireturn, 1) := by decide +kernel
theorem dL_set_0 : decode cL_set 0 = .ok (.aload_n 3, 1) := by decide +kernel
theorem dL_set_1 : decode cL_set 1 = .ok (.iconst 0, 1) := by decide +kernel
theorem dL_set_2 : decode cL_set 2 = .ok (.aload_n 0, 1) := by decide +kernel
theorem dL_set_3 : decode cL_set 3 = .ok (.iload_n 1, 1) := by decide +kernel
theorem dL_set_4 : decode cL_set 4 = .ok (.iload_n 2, 1) := by decide +kernel
theorem dL_set_5 : decode cL_set 5 = .ok (.invokevirtual 45, 3) := by decide +kernel
theorem dL_set_8 : decode cL_set 8 = .ok (.i2l, 1) := by decide +kernel
theorem dL_set_9 : decode cL_set 9 = .ok (.lastore, 1) := by decide +kernel
theorem dL_set_10 : decode cL_set 10 = .ok (.goto 7, 3) := by decide +kernel
theorem dL_set_13 : decode cL_set 13 = .ok (.astore 4, 2) := by decide +kernel
theorem dL_set_15 : decode cL_set 15 = .ok (.iconst 1, 1) := by decide +kernel
theorem dL_set_16 : decode cL_set 16 = .ok (.ireturn, 1) := by decide +kernel
theorem dL_set_17 : decode cL_set 17 = .ok (.iconst 0, 1) := by decide +kernel
theorem dL_set_18 : decode cL_set 18 = .ok (.ireturn, 1) := by decide +kernel
theorem dL_setFlue_0 : decode cL_setFlue 0 = .ok (.aload_n 3, 1) := by decide +kernel
theorem dL_setFlue_1 : decode cL_setFlue 1 = .ok (.iconst 0, 1) := by decide +kernel
theorem dL_setFlue_2 : decode cL_setFlue 2 = .ok (.aload_n 0, 1) := by decide +kernel
theorem dL_setFlue_3 : decode cL_setFlue 3 = .ok (.iload_n 1, 1) := by decide +kernel
theorem dL_setFlue_4 : decode cL_setFlue 4 = .ok (.iload_n 2, 1) := by decide +kernel
theorem dL_setFlue_5 : decode cL_setFlue 5 = .ok (.invokevirtual 48, 3) := by decide +kernel
theorem dL_setFlue_8 : decode cL_setFlue 8 = .ok (.i2l, 1) := by decide +kernel
theorem dL_setFlue_9 : decode cL_setFlue 9 = .ok (.lastore, 1) := by decide +kernel
theorem dL_setFlue_10 : decode cL_setFlue 10 = .ok (.goto 7, 3) := by decide +kernel
theorem dL_setFlue_13 : decode cL_setFlue 13 = .ok (.astore 4, 2) := by decide +kernel
theorem dL_setFlue_15 : decode cL_setFlue 15 = .ok (.iconst 1, 1) := by decide +kernel
theorem dL_setFlue_16 : decode cL_setFlue 16 = .ok (.ireturn, 1) := by decide +kernel
theorem dL_setFlue_17 : decode cL_setFlue 17 = .ok (.iconst 0, 1) := by decide +kernel
theorem dL_setFlue_18 : decode cL_setFlue 18 = .ok (.ireturn, 1) := by decide +kernel
theorem dL_setDraft_0 : decode cL_setDraft 0 = .ok (.aload_n 3, 1) := by decide +kernel
theorem dL_setDraft_1 : decode cL_setDraft 1 = .ok (.iconst 0, 1) := by decide +kernel
theorem dL_setDraft_2 : decode cL_setDraft 2 = .ok (.aload_n 0, 1) := by decide +kernel
theorem dL_setDraft_3 : decode cL_setDraft 3 = .ok (.iload_n 1, 1) := by decide +kernel
theorem dL_setDraft_4 : decode cL_setDraft 4 = .ok (.iload_n 2, 1) := by decide +kernel
theorem dL_setDraft_5 : decode cL_setDraft 5 = .ok (.invokevirtual 52, 3) := by decide +kernel
theorem dL_setDraft_8 : decode cL_setDraft 8 = .ok (.i2l, 1) := by decide +kernel
theorem dL_setDraft_9 : decode cL_setDraft 9 = .ok (.lastore, 1) := by decide +kernel
theorem dL_setDraft_10 : decode cL_setDraft 10 = .ok (.goto 11, 3) := by decide +kernel
theorem dL_setDraft_13 : decode cL_setDraft 13 = .ok (.astore 4, 2) := by decide +kernel
theorem dL_setDraft_15 : decode cL_setDraft 15 = .ok (.iconst 1, 1) := by decide +kernel
theorem dL_setDraft_16 : decode cL_setDraft 16 = .ok (.ireturn, 1) := by decide +kernel
theorem dL_setDraft_17 : decode cL_setDraft 17 = .ok (.astore 4, 2) := by decide +kernel
theorem dL_setDraft_19 : decode cL_setDraft 19 = .ok (.iconst 2, 1) := by decide +kernel
theorem dL_setDraft_20 : decode cL_setDraft 20 = .ok (.ireturn, 1) := by decide +kernel
theorem dL_setDraft_21 : decode cL_setDraft 21 = .ok (.iconst 0, 1) := by decide +kernel
theorem dL_setDraft_22 : decode cL_setDraft 22 = .ok (.ireturn, 1) := by decide +kernel
theorem dL_lock_0 : decode cL_lock 0 = .ok (.aload_n 2, 1) := by decide +kernel
theorem dL_lock_1 : decode cL_lock 1 = .ok (.iconst 0, 1) := by decide +kernel
theorem dL_lock_2 : decode cL_lock 2 = .ok (.aload_n 0, 1) := by decide +kernel
theorem dL_lock_3 : decode cL_lock 3 = .ok (.iload_n 1, 1) := by decide +kernel
theorem dL_lock_4 : decode cL_lock 4 = .ok (.invokevirtual 55, 3) := by decide +kernel
theorem dL_lock_7 : decode cL_lock 7 = .ok (.i2l, 1) := by decide +kernel
theorem dL_lock_8 : decode cL_lock 8 = .ok (.lastore, 1) := by decide +kernel
theorem dL_lock_9 : decode cL_lock 9 = .ok (.goto 9, 3) := by decide +kernel
theorem dL_lock_12 : decode cL_lock 12 = .ok (.astore_n 3, 1) := by decide +kernel
theorem dL_lock_13 : decode cL_lock 13 = .ok (.iconst 1, 1) := by decide +kernel
theorem dL_lock_14 : decode cL_lock 14 = .ok (.ireturn, 1) := by decide +kernel
theorem dL_lock_15 : decode cL_lock 15 = .ok (.astore_n 3, 1) := by decide +kernel
theorem dL_lock_16 : decode cL_lock 16 = .ok (.iconst 2, 1) := by decide +kernel
theorem dL_lock_17 : decode cL_lock 17 = .ok (.ireturn, 1) := by decide +kernel
theorem dL_lock_18 : decode cL_lock 18 = .ok (.iconst 0, 1) := by decide +kernel
theorem dL_lock_19 : decode cL_lock 19 = .ok (.ireturn, 1) := by decide +kernel
theorem dL_unlock_0 : decode cL_unlock 0 = .ok (.aload_n 2, 1) := by decide +kernel
theorem dL_unlock_1 : decode cL_unlock 1 = .ok (.iconst 0, 1) := by decide +kernel
theorem dL_unlock_2 : decode cL_unlock 2 = .ok (.aload_n 0, 1) := by decide +kernel
theorem dL_unlock_3 : decode cL_unlock 3 = .ok (.iload_n 1, 1) := by decide +kernel
theorem dL_unlock_4 : decode cL_unlock 4 = .ok (.invokevirtual 58, 3) := by decide +kernel
theorem dL_unlock_7 : decode cL_unlock 7 = .ok (.i2l, 1) := by decide +kernel
theorem dL_unlock_8 : decode cL_unlock 8 = .ok (.lastore, 1) := by decide +kernel
theorem dL_unlock_9 : decode cL_unlock 9 = .ok (.goto 9, 3) := by decide +kernel
theorem dL_unlock_12 : decode cL_unlock 12 = .ok (.astore_n 3, 1) := by decide +kernel
theorem dL_unlock_13 : decode cL_unlock 13 = .ok (.iconst 1, 1) := by decide +kernel
theorem dL_unlock_14 : decode cL_unlock 14 = .ok (.ireturn, 1) := by decide +kernel
theorem dL_unlock_15 : decode cL_unlock 15 = .ok (.astore_n 3, 1) := by decide +kernel
theorem dL_unlock_16 : decode cL_unlock 16 = .ok (.iconst 2, 1) := by decide +kernel
theorem dL_unlock_17 : decode cL_unlock 17 = .ok (.ireturn, 1) := by decide +kernel
theorem dL_unlock_18 : decode cL_unlock 18 = .ok (.iconst 0, 1) := by decide +kernel
theorem dL_unlock_19 : decode cL_unlock 19 = .ok (.ireturn, 1) := by decide +kernel
theorem dL_putOff_0 : decode cL_putOff 0 = .ok (.aload_n 2, 1) := by decide +kernel
theorem dL_putOff_1 : decode cL_putOff 1 = .ok (.iconst 0, 1) := by decide +kernel
theorem dL_putOff_2 : decode cL_putOff 2 = .ok (.aload_n 0, 1) := by decide +kernel
theorem dL_putOff_3 : decode cL_putOff 3 = .ok (.iload_n 1, 1) := by decide +kernel
theorem dL_putOff_4 : decode cL_putOff 4 = .ok (.invokevirtual 61, 3) := by decide +kernel
theorem dL_putOff_7 : decode cL_putOff 7 = .ok (.i2l, 1) := by decide +kernel
theorem dL_putOff_8 : decode cL_putOff 8 = .ok (.lastore, 1) := by decide +kernel
theorem dL_putOff_9 : decode cL_putOff 9 = .ok (.goto 9, 3) := by decide +kernel
theorem dL_putOff_12 : decode cL_putOff 12 = .ok (.astore_n 3, 1) := by decide +kernel
theorem dL_putOff_13 : decode cL_putOff 13 = .ok (.iconst 1, 1) := by decide +kernel
theorem dL_putOff_14 : decode cL_putOff 14 = .ok (.ireturn, 1) := by decide +kernel
theorem dL_putOff_15 : decode cL_putOff 15 = .ok (.astore_n 3, 1) := by decide +kernel
theorem dL_putOff_16 : decode cL_putOff 16 = .ok (.iconst 2, 1) := by decide +kernel
theorem dL_putOff_17 : decode cL_putOff 17 = .ok (.ireturn, 1) := by decide +kernel
theorem dL_putOff_18 : decode cL_putOff 18 = .ok (.iconst 0, 1) := by decide +kernel
theorem dL_putOff_19 : decode cL_putOff 19 = .ok (.ireturn, 1) := by decide +kernel
theorem dL_undo_0 : decode cL_undo 0 = .ok (.aload_n 1, 1) := by decide +kernel
theorem dL_undo_1 : decode cL_undo 1 = .ok (.iconst 0, 1) := by decide +kernel
theorem dL_undo_2 : decode cL_undo 2 = .ok (.aload_n 0, 1) := by decide +kernel
theorem dL_undo_3 : decode cL_undo 3 = .ok (.invokevirtual 64, 3) := by decide +kernel
theorem dL_undo_6 : decode cL_undo 6 = .ok (.i2l, 1) := by decide +kernel
theorem dL_undo_7 : decode cL_undo 7 = .ok (.lastore, 1) := by decide +kernel
theorem dL_undo_8 : decode cL_undo 8 = .ok (.goto 6, 3) := by decide +kernel
theorem dL_undo_11 : decode cL_undo 11 = .ok (.astore_n 2, 1) := by decide +kernel
theorem dL_undo_12 : decode cL_undo 12 = .ok (.iconst 1, 1) := by decide +kernel
theorem dL_undo_13 : decode cL_undo 13 = .ok (.ireturn, 1) := by decide +kernel
theorem dL_undo_14 : decode cL_undo 14 = .ok (.iconst 0, 1) := by decide +kernel
theorem dL_undo_15 : decode cL_undo 15 = .ok (.ireturn, 1) := by decide +kernel
theorem dL_whyNot_0 : decode cL_whyNot 0 = .ok (.aload_n 2, 1) := by decide +kernel
theorem dL_whyNot_1 : decode cL_whyNot 1 = .ok (.iconst 0, 1) := by decide +kernel
theorem dL_whyNot_2 : decode cL_whyNot 2 = .ok (.aload_n 0, 1) := by decide +kernel
theorem dL_whyNot_3 : decode cL_whyNot 3 = .ok (.iload_n 1, 1) := by decide +kernel
theorem dL_whyNot_4 : decode cL_whyNot 4 = .ok (.invokevirtual 67, 3) := by decide +kernel
theorem dL_whyNot_7 : decode cL_whyNot 7 = .ok (.i2l, 1) := by decide +kernel
theorem dL_whyNot_8 : decode cL_whyNot 8 = .ok (.lastore, 1) := by decide +kernel
theorem dL_whyNot_9 : decode cL_whyNot 9 = .ok (.goto 6, 3) := by decide +kernel
theorem dL_whyNot_12 : decode cL_whyNot 12 = .ok (.astore_n 3, 1) := by decide +kernel
theorem dL_whyNot_13 : decode cL_whyNot 13 = .ok (.iconst 1, 1) := by decide +kernel
theorem dL_whyNot_14 : decode cL_whyNot 14 = .ok (.ireturn, 1) := by decide +kernel
theorem dL_whyNot_15 : decode cL_whyNot 15 = .ok (.iconst 0, 1) := by decide +kernel
theorem dL_whyNot_16 : decode cL_whyNot 16 = .ok (.ireturn, 1) := by decide +kernel
theorem dL_smallestSet_0 : decode cL_smallestSet 0 = .ok (.aload_n 3, 1) := by decide +kernel
theorem dL_smallestSet_1 : decode cL_smallestSet 1 = .ok (.iconst 0, 1) := by decide +kernel
theorem dL_smallestSet_2 : decode cL_smallestSet 2 = .ok (.aload_n 0, 1) := by decide +kernel
theorem dL_smallestSet_3 : decode cL_smallestSet 3 = .ok (.iload_n 1, 1) := by decide +kernel
theorem dL_smallestSet_4 : decode cL_smallestSet 4 = .ok (.iload_n 2, 1) := by decide +kernel
theorem dL_smallestSet_5 : decode cL_smallestSet 5 = .ok (.invokevirtual 70, 3) := by decide +kernel
theorem dL_smallestSet_8 : decode cL_smallestSet 8 = .ok (.i2l, 1) := by decide +kernel
theorem dL_smallestSet_9 : decode cL_smallestSet 9 = .ok (.lastore, 1) := by decide +kernel
theorem dL_smallestSet_10 : decode cL_smallestSet 10 = .ok (.goto 7, 3) := by decide +kernel
theorem dL_smallestSet_13 : decode cL_smallestSet 13 = .ok (.astore 4, 2) := by decide +kernel
theorem dL_smallestSet_15 : decode cL_smallestSet 15 = .ok (.iconst 1, 1) := by decide +kernel
theorem dL_smallestSet_16 : decode cL_smallestSet 16 = .ok (.ireturn, 1) := by decide +kernel
theorem dL_smallestSet_17 : decode cL_smallestSet 17 = .ok (.iconst 0, 1) := by decide +kernel
theorem dL_smallestSet_18 : decode cL_smallestSet 18 = .ok (.ireturn, 1) := by decide +kernel
theorem dL_ahead_0 : decode cL_ahead 0 = .ok (.aload 4, 2) := by decide +kernel
theorem dL_ahead_2 : decode cL_ahead 2 = .ok (.iconst 0, 1) := by decide +kernel
theorem dL_ahead_3 : decode cL_ahead 3 = .ok (.aload_n 0, 1) := by decide +kernel
theorem dL_ahead_4 : decode cL_ahead 4 = .ok (.iload_n 1, 1) := by decide +kernel
theorem dL_ahead_5 : decode cL_ahead 5 = .ok (.iload_n 2, 1) := by decide +kernel
theorem dL_ahead_6 : decode cL_ahead 6 = .ok (.iload_n 3, 1) := by decide +kernel
theorem dL_ahead_7 : decode cL_ahead 7 = .ok (.invokevirtual 73, 3) := by decide +kernel
theorem dL_ahead_10 : decode cL_ahead 10 = .ok (.i2l, 1) := by decide +kernel
theorem dL_ahead_11 : decode cL_ahead 11 = .ok (.lastore, 1) := by decide +kernel
theorem dL_ahead_12 : decode cL_ahead 12 = .ok (.goto 7, 3) := by decide +kernel
theorem dL_ahead_15 : decode cL_ahead 15 = .ok (.astore 5, 2) := by decide +kernel
theorem dL_ahead_17 : decode cL_ahead 17 = .ok (.iconst 1, 1) := by decide +kernel
theorem dL_ahead_18 : decode cL_ahead 18 = .ok (.ireturn, 1) := by decide +kernel
theorem dL_ahead_19 : decode cL_ahead 19 = .ok (.iconst 0, 1) := by decide +kernel
theorem dL_ahead_20 : decode cL_ahead 20 = .ok (.ireturn, 1) := by decide +kernel
theorem dL_warmAfter_0 : decode cL_warmAfter 0 = .ok (.aload_n 3, 1) := by decide +kernel
theorem dL_warmAfter_1 : decode cL_warmAfter 1 = .ok (.iconst 0, 1) := by decide +kernel
theorem dL_warmAfter_2 : decode cL_warmAfter 2 = .ok (.aload_n 0, 1) := by decide +kernel
theorem dL_warmAfter_3 : decode cL_warmAfter 3 = .ok (.iload_n 1, 1) := by decide +kernel
theorem dL_warmAfter_4 : decode cL_warmAfter 4 = .ok (.iload_n 2, 1) := by decide +kernel
theorem dL_warmAfter_5 : decode cL_warmAfter 5 = .ok (.invokevirtual 77, 3) := by decide +kernel
theorem dL_warmAfter_8 : decode cL_warmAfter 8 = .ok (.i2l, 1) := by decide +kernel
theorem dL_warmAfter_9 : decode cL_warmAfter 9 = .ok (.lastore, 1) := by decide +kernel
theorem dL_warmAfter_10 : decode cL_warmAfter 10 = .ok (.goto 7, 3) := by decide +kernel
theorem dL_warmAfter_13 : decode cL_warmAfter 13 = .ok (.astore 4, 2) := by decide +kernel
theorem dL_warmAfter_15 : decode cL_warmAfter 15 = .ok (.iconst 1, 1) := by decide +kernel
theorem dL_warmAfter_16 : decode cL_warmAfter 16 = .ok (.ireturn, 1) := by decide +kernel
theorem dL_warmAfter_17 : decode cL_warmAfter 17 = .ok (.iconst 0, 1) := by decide +kernel
theorem dL_warmAfter_18 : decode cL_warmAfter 18 = .ok (.ireturn, 1) := by decide +kernel
theorem dL_bearable_0 : decode cL_bearable 0 = .ok (.aload_n 3, 1) := by decide +kernel
theorem dL_bearable_1 : decode cL_bearable 1 = .ok (.iconst 0, 1) := by decide +kernel
theorem dL_bearable_2 : decode cL_bearable 2 = .ok (.aload_n 0, 1) := by decide +kernel
theorem dL_bearable_3 : decode cL_bearable 3 = .ok (.iload_n 1, 1) := by decide +kernel
theorem dL_bearable_4 : decode cL_bearable 4 = .ok (.iload_n 2, 1) := by decide +kernel
theorem dL_bearable_5 : decode cL_bearable 5 = .ok (.invokevirtual 80, 3) := by decide +kernel
theorem dL_bearable_8 : decode cL_bearable 8 = .ok (.i2l, 1) := by decide +kernel
theorem dL_bearable_9 : decode cL_bearable 9 = .ok (.lastore, 1) := by decide +kernel
theorem dL_bearable_10 : decode cL_bearable 10 = .ok (.goto 7, 3) := by decide +kernel
theorem dL_bearable_13 : decode cL_bearable 13 = .ok (.astore 4, 2) := by decide +kernel
theorem dL_bearable_15 : decode cL_bearable 15 = .ok (.iconst 1, 1) := by decide +kernel
theorem dL_bearable_16 : decode cL_bearable 16 = .ok (.ireturn, 1) := by decide +kernel
theorem dL_bearable_17 : decode cL_bearable 17 = .ok (.iconst 0, 1) := by decide +kernel
theorem dL_bearable_18 : decode cL_bearable 18 = .ok (.ireturn, 1) := by decide +kernel
theorem dL_cheapestPurge_0 : decode cL_cheapestPurge 0 = .ok (.aload_n 3, 1) := by decide +kernel
theorem dL_cheapestPurge_1 : decode cL_cheapestPurge 1 = .ok (.iconst 0, 1) := by decide +kernel
theorem dL_cheapestPurge_2 : decode cL_cheapestPurge 2 = .ok (.aload_n 0, 1) := by decide +kernel
theorem dL_cheapestPurge_3 : decode cL_cheapestPurge 3 = .ok (.iload_n 1, 1) := by decide +kernel
theorem dL_cheapestPurge_4 : decode cL_cheapestPurge 4 = .ok (.iload_n 2, 1) := by decide +kernel
theorem dL_cheapestPurge_5 : decode cL_cheapestPurge 5 = .ok (.invokevirtual 83, 3) := by decide +kernel
theorem dL_cheapestPurge_8 : decode cL_cheapestPurge 8 = .ok (.i2l, 1) := by decide +kernel
theorem dL_cheapestPurge_9 : decode cL_cheapestPurge 9 = .ok (.lastore, 1) := by decide +kernel
theorem dL_cheapestPurge_10 : decode cL_cheapestPurge 10 = .ok (.goto 7, 3) := by decide +kernel
theorem dL_cheapestPurge_13 : decode cL_cheapestPurge 13 = .ok (.astore 4, 2) := by decide +kernel
theorem dL_cheapestPurge_15 : decode cL_cheapestPurge 15 = .ok (.iconst 1, 1) := by decide +kernel
theorem dL_cheapestPurge_16 : decode cL_cheapestPurge 16 = .ok (.ireturn, 1) := by decide +kernel
theorem dL_cheapestPurge_17 : decode cL_cheapestPurge 17 = .ok (.iconst 0, 1) := by decide +kernel
theorem dL_cheapestPurge_18 : decode cL_cheapestPurge 18 = .ok (.ireturn, 1) := by decide +kernel
theorem dL_runScript_0 : decode cL_runScript 0 = .ok (.aload 4, 2) := by decide +kernel
theorem dL_runScript_2 : decode cL_runScript 2 = .ok (.iconst 0, 1) := by decide +kernel
theorem dL_runScript_3 : decode cL_runScript 3 = .ok (.aload_n 0, 1) := by decide +kernel
theorem dL_runScript_4 : decode cL_runScript 4 = .ok (.iload_n 1, 1) := by decide +kernel
theorem dL_runScript_5 : decode cL_runScript 5 = .ok (.lload_n 2, 1) := by decide +kernel
theorem dL_runScript_6 : decode cL_runScript 6 = .ok (.invokevirtual 86, 3) := by decide +kernel
theorem dL_runScript_9 : decode cL_runScript 9 = .ok (.i2l, 1) := by decide +kernel
theorem dL_runScript_10 : decode cL_runScript 10 = .ok (.lastore, 1) := by decide +kernel
theorem dL_runScript_11 : decode cL_runScript 11 = .ok (.goto 7, 3) := by decide +kernel
theorem dL_runScript_14 : decode cL_runScript 14 = .ok (.astore 5, 2) := by decide +kernel
theorem dL_runScript_16 : decode cL_runScript 16 = .ok (.iconst 1, 1) := by decide +kernel
theorem dL_runScript_17 : decode cL_runScript 17 = .ok (.ireturn, 1) := by decide +kernel
theorem dL_runScript_18 : decode cL_runScript 18 = .ok (.iconst 0, 1) := by decide +kernel
theorem dL_runScript_19 : decode cL_runScript 19 = .ok (.ireturn, 1) := by decide +kernel
theorem dL_simulate_0 : decode cL_simulate 0 = .ok (.aload 4, 2) := by decide +kernel
theorem dL_simulate_2 : decode cL_simulate 2 = .ok (.iconst 0, 1) := by decide +kernel
theorem dL_simulate_3 : decode cL_simulate 3 = .ok (.aload_n 0, 1) := by decide +kernel
theorem dL_simulate_4 : decode cL_simulate 4 = .ok (.lload_n 1, 1) := by decide +kernel
theorem dL_simulate_5 : decode cL_simulate 5 = .ok (.iload_n 3, 1) := by decide +kernel
theorem dL_simulate_6 : decode cL_simulate 6 = .ok (.invokevirtual 90, 3) := by decide +kernel
theorem dL_simulate_9 : decode cL_simulate 9 = .ok (.i2l, 1) := by decide +kernel
theorem dL_simulate_10 : decode cL_simulate 10 = .ok (.lastore, 1) := by decide +kernel
theorem dL_simulate_11 : decode cL_simulate 11 = .ok (.goto 7, 3) := by decide +kernel
theorem dL_simulate_14 : decode cL_simulate 14 = .ok (.astore 5, 2) := by decide +kernel
theorem dL_simulate_16 : decode cL_simulate 16 = .ok (.iconst 1, 1) := by decide +kernel
theorem dL_simulate_17 : decode cL_simulate 17 = .ok (.ireturn, 1) := by decide +kernel
theorem dL_simulate_18 : decode cL_simulate 18 = .ok (.iconst 0, 1) := by decide +kernel
theorem dL_simulate_19 : decode cL_simulate 19 = .ok (.ireturn, 1) := by decide +kernel
theorem dL_save_0 : decode cL_save 0 = .ok (.aload_n 2, 1) := by decide +kernel
theorem dL_save_1 : decode cL_save 1 = .ok (.iconst 0, 1) := by decide +kernel
theorem dL_save_2 : decode cL_save 2 = .ok (.aload_n 0, 1) := by decide +kernel
theorem dL_save_3 : decode cL_save 3 = .ok (.iload_n 1, 1) := by decide +kernel
theorem dL_save_4 : decode cL_save 4 = .ok (.invokevirtual 94, 3) := by decide +kernel
theorem dL_save_7 : decode cL_save 7 = .ok (.i2l, 1) := by decide +kernel
theorem dL_save_8 : decode cL_save 8 = .ok (.lastore, 1) := by decide +kernel
theorem dL_save_9 : decode cL_save 9 = .ok (.goto 6, 3) := by decide +kernel
theorem dL_save_12 : decode cL_save 12 = .ok (.astore_n 3, 1) := by decide +kernel
theorem dL_save_13 : decode cL_save 13 = .ok (.iconst 1, 1) := by decide +kernel
theorem dL_save_14 : decode cL_save 14 = .ok (.ireturn, 1) := by decide +kernel
theorem dL_save_15 : decode cL_save 15 = .ok (.iconst 0, 1) := by decide +kernel
theorem dL_save_16 : decode cL_save 16 = .ok (.ireturn, 1) := by decide +kernel
theorem dL_restore_0 : decode cL_restore 0 = .ok (.aload_n 2, 1) := by decide +kernel
theorem dL_restore_1 : decode cL_restore 1 = .ok (.iconst 0, 1) := by decide +kernel
theorem dL_restore_2 : decode cL_restore 2 = .ok (.aload_n 0, 1) := by decide +kernel
theorem dL_restore_3 : decode cL_restore 3 = .ok (.iload_n 1, 1) := by decide +kernel
theorem dL_restore_4 : decode cL_restore 4 = .ok (.invokevirtual 97, 3) := by decide +kernel
theorem dL_restore_7 : decode cL_restore 7 = .ok (.i2l, 1) := by decide +kernel
theorem dL_restore_8 : decode cL_restore 8 = .ok (.lastore, 1) := by decide +kernel
theorem dL_restore_9 : decode cL_restore 9 = .ok (.goto 9, 3) := by decide +kernel
theorem dL_restore_12 : decode cL_restore 12 = .ok (.astore_n 3, 1) := by decide +kernel
theorem dL_restore_13 : decode cL_restore 13 = .ok (.iconst 1, 1) := by decide +kernel
theorem dL_restore_14 : decode cL_restore 14 = .ok (.ireturn, 1) := by decide +kernel
theorem dL_restore_15 : decode cL_restore 15 = .ok (.astore_n 3, 1) := by decide +kernel
theorem dL_restore_16 : decode cL_restore 16 = .ok (.iconst 2, 1) := by decide +kernel
theorem dL_restore_17 : decode cL_restore 17 = .ok (.ireturn, 1) := by decide +kernel
theorem dL_restore_18 : decode cL_restore 18 = .ok (.iconst 0, 1) := by decide +kernel
theorem dL_restore_19 : decode cL_restore 19 = .ok (.ireturn, 1) := by decide +kernel
theorem dL_law_0 : decode cL_law 0 = .ok (.new 8, 3) := by decide +kernel
theorem dL_law_3 : decode cL_law 3 = .ok (.dup, 1) := by decide +kernel
theorem dL_law_4 : decode cL_law 4 = .ok (.invokespecial 100, 3) := by decide +kernel
theorem dL_law_7 : decode cL_law 7 = .ok (.astore_n 1, 1) := by decide +kernel
theorem dL_law_8 : decode cL_law 8 = .ok (.new 101, 3) := by decide +kernel
theorem dL_law_11 : decode cL_law 11 = .ok (.dup, 1) := by decide +kernel
theorem dL_law_12 : decode cL_law 12 = .ok (.invokespecial 103, 3) := by decide +kernel
theorem dL_law_15 : decode cL_law 15 = .ok (.astore_n 2, 1) := by decide +kernel
theorem dL_law_16 : decode cL_law 16 = .ok (.iconst 1, 1) := by decide +kernel
theorem dL_law_17 : decode cL_law 17 = .ok (.newarray .long, 2) := by decide +kernel
theorem dL_law_19 : decode cL_law 19 = .ok (.astore_n 3, 1) := by decide +kernel
theorem dL_law_20 : decode cL_law 20 = .ok (.iconst 0, 1) := by decide +kernel
theorem dL_law_21 : decode cL_law 21 = .ok (.istore 4, 2) := by decide +kernel
theorem dL_law_23 : decode cL_law 23 = .ok (.iload 4, 2) := by decide +kernel
theorem dL_law_25 : decode cL_law 25 = .ok (.aload_n 0, 1) := by decide +kernel
theorem dL_law_26 : decode cL_law 26 = .ok (.arraylength, 1) := by decide +kernel
theorem dL_law_27 : decode cL_law 27 = .ok (.iconst 4, 1) := by decide +kernel
theorem dL_law_28 : decode cL_law 28 = .ok (.isub, 1) := by decide +kernel
theorem dL_law_29 : decode cL_law 29 = .ok (.if_icmp .gt 1880, 3) := by decide +kernel
theorem dL_law_32 : decode cL_law 32 = .ok (.aload_n 0, 1) := by decide +kernel
theorem dL_law_33 : decode cL_law 33 = .ok (.iload 4, 2) := by decide +kernel
theorem dL_law_35 : decode cL_law 35 = .ok (.iaload, 1) := by decide +kernel
theorem dL_law_36 : decode cL_law 36 = .ok (.bipush 31, 2) := by decide +kernel
theorem dL_law_38 : decode cL_law 38 = .ok (.iand, 1) := by decide +kernel
theorem dL_law_39 : decode cL_law 39 = .ok (.tableswitch 1864 0 28 #[129, 185, 198, 211, 255, 311, 379, 447, 503, 559, 627, 683, 751, 835, 903, 959, 1015, 1071, 1115, 1128, 1184, 1268, 1348, 1416, 1484, 1552, 1652, 1752, 1808], 129) := by decide +kernel
theorem dL_law_168 : decode cL_law 168 = .ok (.aload_n 1, 1) := by decide +kernel
theorem dL_law_169 : decode cL_law 169 = .ok (.aload_n 0, 1) := by decide +kernel
theorem dL_law_170 : decode cL_law 170 = .ok (.iload 4, 2) := by decide +kernel
theorem dL_law_172 : decode cL_law 172 = .ok (.iconst 1, 1) := by decide +kernel
theorem dL_law_173 : decode cL_law 173 = .ok (.iadd, 1) := by decide +kernel
theorem dL_law_174 : decode cL_law 174 = .ok (.iaload, 1) := by decide +kernel
theorem dL_law_175 : decode cL_law 175 = .ok (.aload_n 3, 1) := by decide +kernel
theorem dL_law_176 : decode cL_law 176 = .ok (.invokestatic 104, 3) := by decide +kernel
theorem dL_law_179 : decode cL_law 179 = .ok (.istore 5, 2) := by decide +kernel
theorem dL_law_181 : decode cL_law 181 = .ok (.aload_n 2, 1) := by decide +kernel
theorem dL_law_182 : decode cL_law 182 = .ok (.aload_n 0, 1) := by decide +kernel
theorem dL_law_183 : decode cL_law 183 = .ok (.iload 4, 2) := by decide +kernel
theorem dL_law_185 : decode cL_law 185 = .ok (.iconst 1, 1) := by decide +kernel
theorem dL_law_186 : decode cL_law 186 = .ok (.iadd, 1) := by decide +kernel
theorem dL_law_187 : decode cL_law 187 = .ok (.iaload, 1) := by decide +kernel
theorem dL_law_188 : decode cL_law 188 = .ok (.invokevirtual 109, 3) := by decide +kernel
theorem dL_law_191 : decode cL_law 191 = .ok (.istore 6, 2) := by decide +kernel
theorem dL_law_193 : decode cL_law 193 = .ok (.aload_n 2, 1) := by decide +kernel
theorem dL_law_194 : decode cL_law 194 = .ok (.invokevirtual 110, 3) := by decide +kernel
theorem dL_law_197 : decode cL_law 197 = .ok (.iload 5, 2) := by decide +kernel
theorem dL_law_199 : decode cL_law 199 = .ok (.if_icmp .eq 5, 3) := by decide +kernel
theorem dL_law_202 : decode cL_law 202 = .ok (.iconst 0, 1) := by decide +kernel
theorem dL_law_203 : decode cL_law 203 = .ok (.ireturn, 1) := by decide +kernel
theorem dL_law_204 : decode cL_law 204 = .ok (.iload 5, 2) := by decide +kernel
theorem dL_law_206 : decode cL_law 206 = .ok (.ifCond .ne 15, 3) := by decide +kernel
theorem dL_law_209 : decode cL_law 209 = .ok (.aload_n 3, 1) := by decide +kernel
theorem dL_law_210 : decode cL_law 210 = .ok (.iconst 0, 1) := by decide +kernel
theorem dL_law_211 : decode cL_law 211 = .ok (.laload, 1) := by decide +kernel
theorem dL_law_212 : decode cL_law 212 = .ok (.iload 6, 2) := by decide +kernel
theorem dL_law_214 : decode cL_law 214 = .ok (.i2l, 1) := by decide +kernel
theorem dL_law_215 : decode cL_law 215 = .ok (.lcmp, 1) := by decide +kernel
theorem dL_law_216 : decode cL_law 216 = .ok (.ifCond .eq 5, 3) := by decide +kernel
theorem dL_law_219 : decode cL_law 219 = .ok (.iconst 0, 1) := by decide +kernel
theorem dL_law_220 : decode cL_law 220 = .ok (.ireturn, 1) := by decide +kernel
theorem dL_law_221 : decode cL_law 221 = .ok (.goto 1682, 3) := by decide +kernel
theorem dL_law_224 : decode cL_law 224 = .ok (.aload_n 1, 1) := by decide +kernel
theorem dL_law_225 : decode cL_law 225 = .ok (.invokevirtual 113, 3) := by decide +kernel
theorem dL_law_228 : decode cL_law 228 = .ok (.aload_n 2, 1) := by decide +kernel
theorem dL_law_229 : decode cL_law 229 = .ok (.invokevirtual 116, 3) := by decide +kernel
theorem dL_law_232 : decode cL_law 232 = .ok (.if_icmp .eq 1671, 3) := by decide +kernel
theorem dL_law_235 : decode cL_law 235 = .ok (.iconst 0, 1) := by decide +kernel
theorem dL_law_236 : decode cL_law 236 = .ok (.ireturn, 1) := by decide +kernel
theorem dL_law_237 : decode cL_law 237 = .ok (.aload_n 1, 1) := by decide +kernel
theorem dL_law_238 : decode cL_law 238 = .ok (.invokevirtual 117, 3) := by decide +kernel
theorem dL_law_241 : decode cL_law 241 = .ok (.aload_n 2, 1) := by decide +kernel
theorem dL_law_242 : decode cL_law 242 = .ok (.invokevirtual 120, 3) := by decide +kernel
theorem dL_law_245 : decode cL_law 245 = .ok (.if_icmp .eq 1658, 3) := by decide +kernel
theorem dL_law_248 : decode cL_law 248 = .ok (.iconst 0, 1) := by decide +kernel
theorem dL_law_249 : decode cL_law 249 = .ok (.ireturn, 1) := by decide +kernel
theorem dL_law_250 : decode cL_law 250 = .ok (.aload_n 1, 1) := by decide +kernel
theorem dL_law_251 : decode cL_law 251 = .ok (.aload_n 3, 1) := by decide +kernel
theorem dL_law_252 : decode cL_law 252 = .ok (.invokestatic 121, 3) := by decide +kernel
theorem dL_law_255 : decode cL_law 255 = .ok (.istore 5, 2) := by decide +kernel
theorem dL_law_257 : decode cL_law 257 = .ok (.aload_n 2, 1) := by decide +kernel
theorem dL_law_258 : decode cL_law 258 = .ok (.invokevirtual 124, 3) := by decide +kernel
theorem dL_law_261 : decode cL_law 261 = .ok (.istore 6, 2) := by decide +kernel
theorem dL_law_263 : decode cL_law 263 = .ok (.aload_n 2, 1) := by decide +kernel
theorem dL_law_264 : decode cL_law 264 = .ok (.invokevirtual 110, 3) := by decide +kernel
theorem dL_law_267 : decode cL_law 267 = .ok (.iload 5, 2) := by decide +kernel
theorem dL_law_269 : decode cL_law 269 = .ok (.if_icmp .eq 5, 3) := by decide +kernel
theorem dL_law_272 : decode cL_law 272 = .ok (.iconst 0, 1) := by decide +kernel
theorem dL_law_273 : decode cL_law 273 = .ok (.ireturn, 1) := by decide +kernel
theorem dL_law_274 : decode cL_law 274 = .ok (.iload 5, 2) := by decide +kernel
theorem dL_law_276 : decode cL_law 276 = .ok (.ifCond .ne 15, 3) := by decide +kernel
theorem dL_law_279 : decode cL_law 279 = .ok (.aload_n 3, 1) := by decide +kernel
theorem dL_law_280 : decode cL_law 280 = .ok (.iconst 0, 1) := by decide +kernel
theorem dL_law_281 : decode cL_law 281 = .ok (.laload, 1) := by decide +kernel
theorem dL_law_282 : decode cL_law 282 = .ok (.iload 6, 2) := by decide +kernel
theorem dL_law_284 : decode cL_law 284 = .ok (.i2l, 1) := by decide +kernel
theorem dL_law_285 : decode cL_law 285 = .ok (.lcmp, 1) := by decide +kernel
theorem dL_law_286 : decode cL_law 286 = .ok (.ifCond .eq 5, 3) := by decide +kernel
theorem dL_law_289 : decode cL_law 289 = .ok (.iconst 0, 1) := by decide +kernel
theorem dL_law_290 : decode cL_law 290 = .ok (.ireturn, 1) := by decide +kernel
theorem dL_law_291 : decode cL_law 291 = .ok (.goto 1612, 3) := by decide +kernel
theorem dL_law_294 : decode cL_law 294 = .ok (.aload_n 1, 1) := by decide +kernel
theorem dL_law_295 : decode cL_law 295 = .ok (.aload_n 0, 1) := by decide +kernel
theorem dL_law_296 : decode cL_law 296 = .ok (.iload 4, 2) := by decide +kernel
theorem dL_law_298 : decode cL_law 298 = .ok (.iconst 1, 1) := by decide +kernel
theorem dL_law_299 : decode cL_law 299 = .ok (.iadd, 1) := by decide +kernel
theorem dL_law_300 : decode cL_law 300 = .ok (.iaload, 1) := by decide +kernel
theorem dL_law_301 : decode cL_law 301 = .ok (.aload_n 3, 1) := by decide +kernel
theorem dL_law_302 : decode cL_law 302 = .ok (.invokestatic 125, 3) := by decide +kernel
theorem dL_law_305 : decode cL_law 305 = .ok (.istore 5, 2) := by decide +kernel
theorem dL_law_307 : decode cL_law 307 = .ok (.aload_n 2, 1) := by decide +kernel
theorem dL_law_308 : decode cL_law 308 = .ok (.aload_n 0, 1) := by decide +kernel
theorem dL_law_309 : decode cL_law 309 = .ok (.iload 4, 2) := by decide +kernel
theorem dL_law_311 : decode cL_law 311 = .ok (.iconst 1, 1) := by decide +kernel
theorem dL_law_312 : decode cL_law 312 = .ok (.iadd, 1) := by decide +kernel
theorem dL_law_313 : decode cL_law 313 = .ok (.iaload, 1) := by decide +kernel
theorem dL_law_314 : decode cL_law 314 = .ok (.invokevirtual 127, 3) := by decide +kernel
theorem dL_law_317 : decode cL_law 317 = .ok (.istore 6, 2) := by decide +kernel
theorem dL_law_319 : decode cL_law 319 = .ok (.aload_n 2, 1) := by decide +kernel
theorem dL_law_320 : decode cL_law 320 = .ok (.invokevirtual 110, 3) := by decide +kernel
theorem dL_law_323 : decode cL_law 323 = .ok (.iload 5, 2) := by decide +kernel
theorem dL_law_325 : decode cL_law 325 = .ok (.if_icmp .eq 5, 3) := by decide +kernel
theorem dL_law_328 : decode cL_law 328 = .ok (.iconst 0, 1) := by decide +kernel
theorem dL_law_329 : decode cL_law 329 = .ok (.ireturn, 1) := by decide +kernel
theorem dL_law_330 : decode cL_law 330 = .ok (.iload 5, 2) := by decide +kernel
theorem dL_law_332 : decode cL_law 332 = .ok (.ifCond .ne 15, 3) := by decide +kernel
theorem dL_law_335 : decode cL_law 335 = .ok (.aload_n 3, 1) := by decide +kernel
theorem dL_law_336 : decode cL_law 336 = .ok (.iconst 0, 1) := by decide +kernel
theorem dL_law_337 : decode cL_law 337 = .ok (.laload, 1) := by decide +kernel
theorem dL_law_338 : decode cL_law 338 = .ok (.iload 6, 2) := by decide +kernel
theorem dL_law_340 : decode cL_law 340 = .ok (.i2l, 1) := by decide +kernel
theorem dL_law_341 : decode cL_law 341 = .ok (.lcmp, 1) := by decide +kernel
theorem dL_law_342 : decode cL_law 342 = .ok (.ifCond .eq 5, 3) := by decide +kernel
theorem dL_law_345 : decode cL_law 345 = .ok (.iconst 0, 1) := by decide +kernel
theorem dL_law_346 : decode cL_law 346 = .ok (.ireturn, 1) := by decide +kernel
theorem dL_law_347 : decode cL_law 347 = .ok (.goto 1556, 3) := by decide +kernel
theorem dL_law_350 : decode cL_law 350 = .ok (.aload_n 1, 1) := by decide +kernel
theorem dL_law_351 : decode cL_law 351 = .ok (.aload_n 0, 1) := by decide +kernel
theorem dL_law_352 : decode cL_law 352 = .ok (.iload 4, 2) := by decide +kernel
theorem dL_law_354 : decode cL_law 354 = .ok (.iconst 1, 1) := by decide +kernel
theorem dL_law_355 : decode cL_law 355 = .ok (.iadd, 1) := by decide +kernel
theorem dL_law_356 : decode cL_law 356 = .ok (.iaload, 1) := by decide +kernel
theorem dL_law_357 : decode cL_law 357 = .ok (.aload_n 0, 1) := by decide +kernel
theorem dL_law_358 : decode cL_law 358 = .ok (.iload 4, 2) := by decide +kernel
theorem dL_law_360 : decode cL_law 360 = .ok (.iconst 2, 1) := by decide +kernel
theorem dL_law_361 : decode cL_law 361 = .ok (.iadd, 1) := by decide +kernel
theorem dL_law_362 : decode cL_law 362 = .ok (.iaload, 1) := by decide +kernel
theorem dL_law_363 : decode cL_law 363 = .ok (.aload_n 3, 1) := by decide +kernel
theorem dL_law_364 : decode cL_law 364 = .ok (.invokestatic 128, 3) := by decide +kernel
theorem dL_law_367 : decode cL_law 367 = .ok (.istore 5, 2) := by decide +kernel
theorem dL_law_369 : decode cL_law 369 = .ok (.aload_n 2, 1) := by decide +kernel
theorem dL_law_370 : decode cL_law 370 = .ok (.aload_n 0, 1) := by decide +kernel
theorem dL_law_371 : decode cL_law 371 = .ok (.iload 4, 2) := by decide +kernel
theorem dL_law_373 : decode cL_law 373 = .ok (.iconst 1, 1) := by decide +kernel
theorem dL_law_374 : decode cL_law 374 = .ok (.iadd, 1) := by decide +kernel
theorem dL_law_375 : decode cL_law 375 = .ok (.iaload, 1) := by decide +kernel
theorem dL_law_376 : decode cL_law 376 = .ok (.aload_n 0, 1) := by decide +kernel
theorem dL_law_377 : decode cL_law 377 = .ok (.iload 4, 2) := by decide +kernel
theorem dL_law_379 : decode cL_law 379 = .ok (.iconst 2, 1) := by decide +kernel
theorem dL_law_380 : decode cL_law 380 = .ok (.iadd, 1) := by decide +kernel
theorem dL_law_381 : decode cL_law 381 = .ok (.iaload, 1) := by decide +kernel
theorem dL_law_382 : decode cL_law 382 = .ok (.invokevirtual 131, 3) := by decide +kernel
theorem dL_law_385 : decode cL_law 385 = .ok (.istore 6, 2) := by decide +kernel
theorem dL_law_387 : decode cL_law 387 = .ok (.aload_n 2, 1) := by decide +kernel
theorem dL_law_388 : decode cL_law 388 = .ok (.invokevirtual 110, 3) := by decide +kernel
theorem dL_law_391 : decode cL_law 391 = .ok (.iload 5, 2) := by decide +kernel
theorem dL_law_393 : decode cL_law 393 = .ok (.if_icmp .eq 5, 3) := by decide +kernel
theorem dL_law_396 : decode cL_law 396 = .ok (.iconst 0, 1) := by decide +kernel
theorem dL_law_397 : decode cL_law 397 = .ok (.ireturn, 1) := by decide +kernel
theorem dL_law_398 : decode cL_law 398 = .ok (.iload 5, 2) := by decide +kernel
theorem dL_law_400 : decode cL_law 400 = .ok (.ifCond .ne 15, 3) := by decide +kernel
theorem dL_law_403 : decode cL_law 403 = .ok (.aload_n 3, 1) := by decide +kernel
theorem dL_law_404 : decode cL_law 404 = .ok (.iconst 0, 1) := by decide +kernel
theorem dL_law_405 : decode cL_law 405 = .ok (.laload, 1) := by decide +kernel
theorem dL_law_406 : decode cL_law 406 = .ok (.iload 6, 2) := by decide +kernel
theorem dL_law_408 : decode cL_law 408 = .ok (.i2l, 1) := by decide +kernel
theorem dL_law_409 : decode cL_law 409 = .ok (.lcmp, 1) := by decide +kernel
theorem dL_law_410 : decode cL_law 410 = .ok (.ifCond .eq 5, 3) := by decide +kernel
theorem dL_law_413 : decode cL_law 413 = .ok (.iconst 0, 1) := by decide +kernel
theorem dL_law_414 : decode cL_law 414 = .ok (.ireturn, 1) := by decide +kernel
theorem dL_law_415 : decode cL_law 415 = .ok (.goto 1488, 3) := by decide +kernel
theorem dL_law_418 : decode cL_law 418 = .ok (.aload_n 1, 1) := by decide +kernel
theorem dL_law_419 : decode cL_law 419 = .ok (.aload_n 0, 1) := by decide +kernel
theorem dL_law_420 : decode cL_law 420 = .ok (.iload 4, 2) := by decide +kernel
theorem dL_law_422 : decode cL_law 422 = .ok (.iconst 1, 1) := by decide +kernel
theorem dL_law_423 : decode cL_law 423 = .ok (.iadd, 1) := by decide +kernel
theorem dL_law_424 : decode cL_law 424 = .ok (.iaload, 1) := by decide +kernel
theorem dL_law_425 : decode cL_law 425 = .ok (.aload_n 0, 1) := by decide +kernel
theorem dL_law_426 : decode cL_law 426 = .ok (.iload 4, 2) := by decide +kernel
theorem dL_law_428 : decode cL_law 428 = .ok (.iconst 2, 1) := by decide +kernel
theorem dL_law_429 : decode cL_law 429 = .ok (.iadd, 1) := by decide +kernel
theorem dL_law_430 : decode cL_law 430 = .ok (.iaload, 1) := by decide +kernel
theorem dL_law_431 : decode cL_law 431 = .ok (.aload_n 3, 1) := by decide +kernel
theorem dL_law_432 : decode cL_law 432 = .ok (.invokestatic 132, 3) := by decide +kernel
theorem dL_law_435 : decode cL_law 435 = .ok (.istore 5, 2) := by decide +kernel
theorem dL_law_437 : decode cL_law 437 = .ok (.aload_n 2, 1) := by decide +kernel
theorem dL_law_438 : decode cL_law 438 = .ok (.aload_n 0, 1) := by decide +kernel
theorem dL_law_439 : decode cL_law 439 = .ok (.iload 4, 2) := by decide +kernel
theorem dL_law_441 : decode cL_law 441 = .ok (.iconst 1, 1) := by decide +kernel
theorem dL_law_442 : decode cL_law 442 = .ok (.iadd, 1) := by decide +kernel
theorem dL_law_443 : decode cL_law 443 = .ok (.iaload, 1) := by decide +kernel
theorem dL_law_444 : decode cL_law 444 = .ok (.aload_n 0, 1) := by decide +kernel
theorem dL_law_445 : decode cL_law 445 = .ok (.iload 4, 2) := by decide +kernel
theorem dL_law_447 : decode cL_law 447 = .ok (.iconst 2, 1) := by decide +kernel
theorem dL_law_448 : decode cL_law 448 = .ok (.iadd, 1) := by decide +kernel
theorem dL_law_449 : decode cL_law 449 = .ok (.iaload, 1) := by decide +kernel
theorem dL_law_450 : decode cL_law 450 = .ok (.invokevirtual 134, 3) := by decide +kernel
theorem dL_law_453 : decode cL_law 453 = .ok (.istore 6, 2) := by decide +kernel
theorem dL_law_455 : decode cL_law 455 = .ok (.aload_n 2, 1) := by decide +kernel
theorem dL_law_456 : decode cL_law 456 = .ok (.invokevirtual 110, 3) := by decide +kernel
theorem dL_law_459 : decode cL_law 459 = .ok (.iload 5, 2) := by decide +kernel
theorem dL_law_461 : decode cL_law 461 = .ok (.if_icmp .eq 5, 3) := by decide +kernel
theorem dL_law_464 : decode cL_law 464 = .ok (.iconst 0, 1) := by decide +kernel
theorem dL_law_465 : decode cL_law 465 = .ok (.ireturn, 1) := by decide +kernel
theorem dL_law_466 : decode cL_law 466 = .ok (.iload 5, 2) := by decide +kernel
theorem dL_law_468 : decode cL_law 468 = .ok (.ifCond .ne 15, 3) := by decide +kernel
theorem dL_law_471 : decode cL_law 471 = .ok (.aload_n 3, 1) := by decide +kernel
theorem dL_law_472 : decode cL_law 472 = .ok (.iconst 0, 1) := by decide +kernel
theorem dL_law_473 : decode cL_law 473 = .ok (.laload, 1) := by decide +kernel
theorem dL_law_474 : decode cL_law 474 = .ok (.iload 6, 2) := by decide +kernel
theorem dL_law_476 : decode cL_law 476 = .ok (.i2l, 1) := by decide +kernel
theorem dL_law_477 : decode cL_law 477 = .ok (.lcmp, 1) := by decide +kernel
theorem dL_law_478 : decode cL_law 478 = .ok (.ifCond .eq 5, 3) := by decide +kernel
theorem dL_law_481 : decode cL_law 481 = .ok (.iconst 0, 1) := by decide +kernel
theorem dL_law_482 : decode cL_law 482 = .ok (.ireturn, 1) := by decide +kernel
theorem dL_law_483 : decode cL_law 483 = .ok (.goto 1420, 3) := by decide +kernel
theorem dL_law_486 : decode cL_law 486 = .ok (.aload_n 1, 1) := by decide +kernel
theorem dL_law_487 : decode cL_law 487 = .ok (.aload_n 0, 1) := by decide +kernel
theorem dL_law_488 : decode cL_law 488 = .ok (.iload 4, 2) := by decide +kernel
theorem dL_law_490 : decode cL_law 490 = .ok (.iconst 1, 1) := by decide +kernel
theorem dL_law_491 : decode cL_law 491 = .ok (.iadd, 1) := by decide +kernel
theorem dL_law_492 : decode cL_law 492 = .ok (.iaload, 1) := by decide +kernel
theorem dL_law_493 : decode cL_law 493 = .ok (.aload_n 3, 1) := by decide +kernel
theorem dL_law_494 : decode cL_law 494 = .ok (.invokestatic 135, 3) := by decide +kernel
theorem dL_law_497 : decode cL_law 497 = .ok (.istore 5, 2) := by decide +kernel
theorem dL_law_499 : decode cL_law 499 = .ok (.aload_n 2, 1) := by decide +kernel
theorem dL_law_500 : decode cL_law 500 = .ok (.aload_n 0, 1) := by decide +kernel
theorem dL_law_501 : decode cL_law 501 = .ok (.iload 4, 2) := by decide +kernel
theorem dL_law_503 : decode cL_law 503 = .ok (.iconst 1, 1) := by decide +kernel
theorem dL_law_504 : decode cL_law 504 = .ok (.iadd, 1) := by decide +kernel
theorem dL_law_505 : decode cL_law 505 = .ok (.iaload, 1) := by decide +kernel
theorem dL_law_506 : decode cL_law 506 = .ok (.invokevirtual 137, 3) := by decide +kernel
theorem dL_law_509 : decode cL_law 509 = .ok (.istore 6, 2) := by decide +kernel
theorem dL_law_511 : decode cL_law 511 = .ok (.aload_n 2, 1) := by decide +kernel
theorem dL_law_512 : decode cL_law 512 = .ok (.invokevirtual 110, 3) := by decide +kernel
theorem dL_law_515 : decode cL_law 515 = .ok (.iload 5, 2) := by decide +kernel
theorem dL_law_517 : decode cL_law 517 = .ok (.if_icmp .eq 5, 3) := by decide +kernel
theorem dL_law_520 : decode cL_law 520 = .ok (.iconst 0, 1) := by decide +kernel
theorem dL_law_521 : decode cL_law 521 = .ok (.ireturn, 1) := by decide +kernel
theorem dL_law_522 : decode cL_law 522 = .ok (.iload 5, 2) := by decide +kernel
theorem dL_law_524 : decode cL_law 524 = .ok (.ifCond .ne 15, 3) := by decide +kernel
theorem dL_law_527 : decode cL_law 527 = .ok (.aload_n 3, 1) := by decide +kernel
theorem dL_law_528 : decode cL_law 528 = .ok (.iconst 0, 1) := by decide +kernel
theorem dL_law_529 : decode cL_law 529 = .ok (.laload, 1) := by decide +kernel
theorem dL_law_530 : decode cL_law 530 = .ok (.iload 6, 2) := by decide +kernel
theorem dL_law_532 : decode cL_law 532 = .ok (.i2l, 1) := by decide +kernel
theorem dL_law_533 : decode cL_law 533 = .ok (.lcmp, 1) := by decide +kernel
theorem dL_law_534 : decode cL_law 534 = .ok (.ifCond .eq 5, 3) := by decide +kernel
theorem dL_law_537 : decode cL_law 537 = .ok (.iconst 0, 1) := by decide +kernel
theorem dL_law_538 : decode cL_law 538 = .ok (.ireturn, 1) := by decide +kernel
theorem dL_law_539 : decode cL_law 539 = .ok (.goto 1364, 3) := by decide +kernel
theorem dL_law_542 : decode cL_law 542 = .ok (.aload_n 1, 1) := by decide +kernel
theorem dL_law_543 : decode cL_law 543 = .ok (.aload_n 0, 1) := by decide +kernel
theorem dL_law_544 : decode cL_law 544 = .ok (.iload 4, 2) := by decide +kernel
theorem dL_law_546 : decode cL_law 546 = .ok (.iconst 1, 1) := by decide +kernel
theorem dL_law_547 : decode cL_law 547 = .ok (.iadd, 1) := by decide +kernel
theorem dL_law_548 : decode cL_law 548 = .ok (.iaload, 1) := by decide +kernel
theorem dL_law_549 : decode cL_law 549 = .ok (.aload_n 3, 1) := by decide +kernel
theorem dL_law_550 : decode cL_law 550 = .ok (.invokestatic 138, 3) := by decide +kernel
theorem dL_law_553 : decode cL_law 553 = .ok (.istore 5, 2) := by decide +kernel
theorem dL_law_555 : decode cL_law 555 = .ok (.aload_n 2, 1) := by decide +kernel
theorem dL_law_556 : decode cL_law 556 = .ok (.aload_n 0, 1) := by decide +kernel
theorem dL_law_557 : decode cL_law 557 = .ok (.iload 4, 2) := by decide +kernel
theorem dL_law_559 : decode cL_law 559 = .ok (.iconst 1, 1) := by decide +kernel
theorem dL_law_560 : decode cL_law 560 = .ok (.iadd, 1) := by decide +kernel
theorem dL_law_561 : decode cL_law 561 = .ok (.iaload, 1) := by decide +kernel
theorem dL_law_562 : decode cL_law 562 = .ok (.invokevirtual 140, 3) := by decide +kernel
theorem dL_law_565 : decode cL_law 565 = .ok (.istore 6, 2) := by decide +kernel
theorem dL_law_567 : decode cL_law 567 = .ok (.aload_n 2, 1) := by decide +kernel
theorem dL_law_568 : decode cL_law 568 = .ok (.invokevirtual 110, 3) := by decide +kernel
theorem dL_law_571 : decode cL_law 571 = .ok (.iload 5, 2) := by decide +kernel
theorem dL_law_573 : decode cL_law 573 = .ok (.if_icmp .eq 5, 3) := by decide +kernel
theorem dL_law_576 : decode cL_law 576 = .ok (.iconst 0, 1) := by decide +kernel
theorem dL_law_577 : decode cL_law 577 = .ok (.ireturn, 1) := by decide +kernel
theorem dL_law_578 : decode cL_law 578 = .ok (.iload 5, 2) := by decide +kernel
theorem dL_law_580 : decode cL_law 580 = .ok (.ifCond .ne 15, 3) := by decide +kernel
theorem dL_law_583 : decode cL_law 583 = .ok (.aload_n 3, 1) := by decide +kernel
theorem dL_law_584 : decode cL_law 584 = .ok (.iconst 0, 1) := by decide +kernel
theorem dL_law_585 : decode cL_law 585 = .ok (.laload, 1) := by decide +kernel
theorem dL_law_586 : decode cL_law 586 = .ok (.iload 6, 2) := by decide +kernel
theorem dL_law_588 : decode cL_law 588 = .ok (.i2l, 1) := by decide +kernel
theorem dL_law_589 : decode cL_law 589 = .ok (.lcmp, 1) := by decide +kernel
theorem dL_law_590 : decode cL_law 590 = .ok (.ifCond .eq 5, 3) := by decide +kernel
theorem dL_law_593 : decode cL_law 593 = .ok (.iconst 0, 1) := by decide +kernel
theorem dL_law_594 : decode cL_law 594 = .ok (.ireturn, 1) := by decide +kernel
theorem dL_law_595 : decode cL_law 595 = .ok (.goto 1308, 3) := by decide +kernel
theorem dL_law_598 : decode cL_law 598 = .ok (.aload_n 1, 1) := by decide +kernel
theorem dL_law_599 : decode cL_law 599 = .ok (.aload_n 0, 1) := by decide +kernel
theorem dL_law_600 : decode cL_law 600 = .ok (.iload 4, 2) := by decide +kernel
theorem dL_law_602 : decode cL_law 602 = .ok (.iconst 1, 1) := by decide +kernel
theorem dL_law_603 : decode cL_law 603 = .ok (.iadd, 1) := by decide +kernel
theorem dL_law_604 : decode cL_law 604 = .ok (.iaload, 1) := by decide +kernel
theorem dL_law_605 : decode cL_law 605 = .ok (.aload_n 0, 1) := by decide +kernel
theorem dL_law_606 : decode cL_law 606 = .ok (.iload 4, 2) := by decide +kernel
theorem dL_law_608 : decode cL_law 608 = .ok (.iconst 2, 1) := by decide +kernel
theorem dL_law_609 : decode cL_law 609 = .ok (.iadd, 1) := by decide +kernel
theorem dL_law_610 : decode cL_law 610 = .ok (.iaload, 1) := by decide +kernel
theorem dL_law_611 : decode cL_law 611 = .ok (.aload_n 3, 1) := by decide +kernel
theorem dL_law_612 : decode cL_law 612 = .ok (.invokestatic 141, 3) := by decide +kernel
theorem dL_law_615 : decode cL_law 615 = .ok (.istore 5, 2) := by decide +kernel
theorem dL_law_617 : decode cL_law 617 = .ok (.aload_n 2, 1) := by decide +kernel
theorem dL_law_618 : decode cL_law 618 = .ok (.aload_n 0, 1) := by decide +kernel
theorem dL_law_619 : decode cL_law 619 = .ok (.iload 4, 2) := by decide +kernel
theorem dL_law_621 : decode cL_law 621 = .ok (.iconst 1, 1) := by decide +kernel
theorem dL_law_622 : decode cL_law 622 = .ok (.iadd, 1) := by decide +kernel
theorem dL_law_623 : decode cL_law 623 = .ok (.iaload, 1) := by decide +kernel
theorem dL_law_624 : decode cL_law 624 = .ok (.aload_n 0, 1) := by decide +kernel
theorem dL_law_625 : decode cL_law 625 = .ok (.iload 4, 2) := by decide +kernel
theorem dL_law_627 : decode cL_law 627 = .ok (.iconst 2, 1) := by decide +kernel
theorem dL_law_628 : decode cL_law 628 = .ok (.iadd, 1) := by decide +kernel
theorem dL_law_629 : decode cL_law 629 = .ok (.iaload, 1) := by decide +kernel
theorem dL_law_630 : decode cL_law 630 = .ok (.invokevirtual 143, 3) := by decide +kernel
theorem dL_law_633 : decode cL_law 633 = .ok (.istore 6, 2) := by decide +kernel
theorem dL_law_635 : decode cL_law 635 = .ok (.aload_n 2, 1) := by decide +kernel
theorem dL_law_636 : decode cL_law 636 = .ok (.invokevirtual 110, 3) := by decide +kernel
theorem dL_law_639 : decode cL_law 639 = .ok (.iload 5, 2) := by decide +kernel
theorem dL_law_641 : decode cL_law 641 = .ok (.if_icmp .eq 5, 3) := by decide +kernel
theorem dL_law_644 : decode cL_law 644 = .ok (.iconst 0, 1) := by decide +kernel
theorem dL_law_645 : decode cL_law 645 = .ok (.ireturn, 1) := by decide +kernel
theorem dL_law_646 : decode cL_law 646 = .ok (.iload 5, 2) := by decide +kernel
theorem dL_law_648 : decode cL_law 648 = .ok (.ifCond .ne 15, 3) := by decide +kernel
theorem dL_law_651 : decode cL_law 651 = .ok (.aload_n 3, 1) := by decide +kernel
theorem dL_law_652 : decode cL_law 652 = .ok (.iconst 0, 1) := by decide +kernel
theorem dL_law_653 : decode cL_law 653 = .ok (.laload, 1) := by decide +kernel
theorem dL_law_654 : decode cL_law 654 = .ok (.iload 6, 2) := by decide +kernel
theorem dL_law_656 : decode cL_law 656 = .ok (.i2l, 1) := by decide +kernel
theorem dL_law_657 : decode cL_law 657 = .ok (.lcmp, 1) := by decide +kernel
theorem dL_law_658 : decode cL_law 658 = .ok (.ifCond .eq 5, 3) := by decide +kernel
theorem dL_law_661 : decode cL_law 661 = .ok (.iconst 0, 1) := by decide +kernel
theorem dL_law_662 : decode cL_law 662 = .ok (.ireturn, 1) := by decide +kernel
theorem dL_law_663 : decode cL_law 663 = .ok (.goto 1240, 3) := by decide +kernel
theorem dL_law_666 : decode cL_law 666 = .ok (.aload_n 1, 1) := by decide +kernel
theorem dL_law_667 : decode cL_law 667 = .ok (.aload_n 0, 1) := by decide +kernel
theorem dL_law_668 : decode cL_law 668 = .ok (.iload 4, 2) := by decide +kernel
theorem dL_law_670 : decode cL_law 670 = .ok (.iconst 1, 1) := by decide +kernel
theorem dL_law_671 : decode cL_law 671 = .ok (.iadd, 1) := by decide +kernel
theorem dL_law_672 : decode cL_law 672 = .ok (.iaload, 1) := by decide +kernel
theorem dL_law_673 : decode cL_law 673 = .ok (.aload_n 3, 1) := by decide +kernel
theorem dL_law_674 : decode cL_law 674 = .ok (.invokestatic 144, 3) := by decide +kernel
theorem dL_law_677 : decode cL_law 677 = .ok (.istore 5, 2) := by decide +kernel
theorem dL_law_679 : decode cL_law 679 = .ok (.aload_n 2, 1) := by decide +kernel
theorem dL_law_680 : decode cL_law 680 = .ok (.aload_n 0, 1) := by decide +kernel
theorem dL_law_681 : decode cL_law 681 = .ok (.iload 4, 2) := by decide +kernel
theorem dL_law_683 : decode cL_law 683 = .ok (.iconst 1, 1) := by decide +kernel
theorem dL_law_684 : decode cL_law 684 = .ok (.iadd, 1) := by decide +kernel
theorem dL_law_685 : decode cL_law 685 = .ok (.iaload, 1) := by decide +kernel
theorem dL_law_686 : decode cL_law 686 = .ok (.invokevirtual 146, 3) := by decide +kernel
theorem dL_law_689 : decode cL_law 689 = .ok (.istore 6, 2) := by decide +kernel
theorem dL_law_691 : decode cL_law 691 = .ok (.aload_n 2, 1) := by decide +kernel
theorem dL_law_692 : decode cL_law 692 = .ok (.invokevirtual 110, 3) := by decide +kernel
theorem dL_law_695 : decode cL_law 695 = .ok (.iload 5, 2) := by decide +kernel
theorem dL_law_697 : decode cL_law 697 = .ok (.if_icmp .eq 5, 3) := by decide +kernel
theorem dL_law_700 : decode cL_law 700 = .ok (.iconst 0, 1) := by decide +kernel
theorem dL_law_701 : decode cL_law 701 = .ok (.ireturn, 1) := by decide +kernel
theorem dL_law_702 : decode cL_law 702 = .ok (.iload 5, 2) := by decide +kernel
theorem dL_law_704 : decode cL_law 704 = .ok (.ifCond .ne 15, 3) := by decide +kernel
theorem dL_law_707 : decode cL_law 707 = .ok (.aload_n 3, 1) := by decide +kernel
theorem dL_law_708 : decode cL_law 708 = .ok (.iconst 0, 1) := by decide +kernel
theorem dL_law_709 : decode cL_law 709 = .ok (.laload, 1) := by decide +kernel
theorem dL_law_710 : decode cL_law 710 = .ok (.iload 6, 2) := by decide +kernel
theorem dL_law_712 : decode cL_law 712 = .ok (.i2l, 1) := by decide +kernel
theorem dL_law_713 : decode cL_law 713 = .ok (.lcmp, 1) := by decide +kernel
theorem dL_law_714 : decode cL_law 714 = .ok (.ifCond .eq 5, 3) := by decide +kernel
theorem dL_law_717 : decode cL_law 717 = .ok (.iconst 0, 1) := by decide +kernel
theorem dL_law_718 : decode cL_law 718 = .ok (.ireturn, 1) := by decide +kernel
theorem dL_law_719 : decode cL_law 719 = .ok (.goto 1184, 3) := by decide +kernel
theorem dL_law_722 : decode cL_law 722 = .ok (.aload_n 1, 1) := by decide +kernel
theorem dL_law_723 : decode cL_law 723 = .ok (.aload_n 0, 1) := by decide +kernel
theorem dL_law_724 : decode cL_law 724 = .ok (.iload 4, 2) := by decide +kernel
theorem dL_law_726 : decode cL_law 726 = .ok (.iconst 1, 1) := by decide +kernel
theorem dL_law_727 : decode cL_law 727 = .ok (.iadd, 1) := by decide +kernel
theorem dL_law_728 : decode cL_law 728 = .ok (.iaload, 1) := by decide +kernel
theorem dL_law_729 : decode cL_law 729 = .ok (.aload_n 0, 1) := by decide +kernel
theorem dL_law_730 : decode cL_law 730 = .ok (.iload 4, 2) := by decide +kernel
theorem dL_law_732 : decode cL_law 732 = .ok (.iconst 2, 1) := by decide +kernel
theorem dL_law_733 : decode cL_law 733 = .ok (.iadd, 1) := by decide +kernel
theorem dL_law_734 : decode cL_law 734 = .ok (.iaload, 1) := by decide +kernel
theorem dL_law_735 : decode cL_law 735 = .ok (.aload_n 3, 1) := by decide +kernel
theorem dL_law_736 : decode cL_law 736 = .ok (.invokestatic 147, 3) := by decide +kernel
theorem dL_law_739 : decode cL_law 739 = .ok (.istore 5, 2) := by decide +kernel
theorem dL_law_741 : decode cL_law 741 = .ok (.aload_n 2, 1) := by decide +kernel
theorem dL_law_742 : decode cL_law 742 = .ok (.aload_n 0, 1) := by decide +kernel
theorem dL_law_743 : decode cL_law 743 = .ok (.iload 4, 2) := by decide +kernel
theorem dL_law_745 : decode cL_law 745 = .ok (.iconst 1, 1) := by decide +kernel
theorem dL_law_746 : decode cL_law 746 = .ok (.iadd, 1) := by decide +kernel
theorem dL_law_747 : decode cL_law 747 = .ok (.iaload, 1) := by decide +kernel
theorem dL_law_748 : decode cL_law 748 = .ok (.aload_n 0, 1) := by decide +kernel
theorem dL_law_749 : decode cL_law 749 = .ok (.iload 4, 2) := by decide +kernel
theorem dL_law_751 : decode cL_law 751 = .ok (.iconst 2, 1) := by decide +kernel
theorem dL_law_752 : decode cL_law 752 = .ok (.iadd, 1) := by decide +kernel
theorem dL_law_753 : decode cL_law 753 = .ok (.iaload, 1) := by decide +kernel
theorem dL_law_754 : decode cL_law 754 = .ok (.invokevirtual 149, 3) := by decide +kernel
theorem dL_law_757 : decode cL_law 757 = .ok (.istore 6, 2) := by decide +kernel
theorem dL_law_759 : decode cL_law 759 = .ok (.aload_n 2, 1) := by decide +kernel
theorem dL_law_760 : decode cL_law 760 = .ok (.invokevirtual 110, 3) := by decide +kernel
theorem dL_law_763 : decode cL_law 763 = .ok (.iload 5, 2) := by decide +kernel
theorem dL_law_765 : decode cL_law 765 = .ok (.if_icmp .eq 5, 3) := by decide +kernel
theorem dL_law_768 : decode cL_law 768 = .ok (.iconst 0, 1) := by decide +kernel
theorem dL_law_769 : decode cL_law 769 = .ok (.ireturn, 1) := by decide +kernel
theorem dL_law_770 : decode cL_law 770 = .ok (.iload 5, 2) := by decide +kernel
theorem dL_law_772 : decode cL_law 772 = .ok (.ifCond .ne 15, 3) := by decide +kernel
theorem dL_law_775 : decode cL_law 775 = .ok (.aload_n 3, 1) := by decide +kernel
theorem dL_law_776 : decode cL_law 776 = .ok (.iconst 0, 1) := by decide +kernel
theorem dL_law_777 : decode cL_law 777 = .ok (.laload, 1) := by decide +kernel
theorem dL_law_778 : decode cL_law 778 = .ok (.iload 6, 2) := by decide +kernel
theorem dL_law_780 : decode cL_law 780 = .ok (.i2l, 1) := by decide +kernel
theorem dL_law_781 : decode cL_law 781 = .ok (.lcmp, 1) := by decide +kernel
theorem dL_law_782 : decode cL_law 782 = .ok (.ifCond .eq 5, 3) := by decide +kernel
theorem dL_law_785 : decode cL_law 785 = .ok (.iconst 0, 1) := by decide +kernel
theorem dL_law_786 : decode cL_law 786 = .ok (.ireturn, 1) := by decide +kernel
theorem dL_law_787 : decode cL_law 787 = .ok (.goto 1116, 3) := by decide +kernel
theorem dL_law_790 : decode cL_law 790 = .ok (.aload_n 1, 1) := by decide +kernel
theorem dL_law_791 : decode cL_law 791 = .ok (.aload_n 0, 1) := by decide +kernel
theorem dL_law_792 : decode cL_law 792 = .ok (.iload 4, 2) := by decide +kernel
theorem dL_law_794 : decode cL_law 794 = .ok (.iconst 1, 1) := by decide +kernel
theorem dL_law_795 : decode cL_law 795 = .ok (.iadd, 1) := by decide +kernel
theorem dL_law_796 : decode cL_law 796 = .ok (.iaload, 1) := by decide +kernel
theorem dL_law_797 : decode cL_law 797 = .ok (.aload_n 0, 1) := by decide +kernel
theorem dL_law_798 : decode cL_law 798 = .ok (.iload 4, 2) := by decide +kernel
theorem dL_law_800 : decode cL_law 800 = .ok (.iconst 2, 1) := by decide +kernel
theorem dL_law_801 : decode cL_law 801 = .ok (.iadd, 1) := by decide +kernel
theorem dL_law_802 : decode cL_law 802 = .ok (.iaload, 1) := by decide +kernel
theorem dL_law_803 : decode cL_law 803 = .ok (.ifCond .eq 7, 3) := by decide +kernel
theorem dL_law_806 : decode cL_law 806 = .ok (.iconst 1, 1) := by decide +kernel
theorem dL_law_807 : decode cL_law 807 = .ok (.goto 4, 3) := by decide +kernel
theorem dL_law_810 : decode cL_law 810 = .ok (.iconst 0, 1) := by decide +kernel
theorem dL_law_811 : decode cL_law 811 = .ok (.aload_n 3, 1) := by decide +kernel
theorem dL_law_812 : decode cL_law 812 = .ok (.invokestatic 150, 3) := by decide +kernel
theorem dL_law_815 : decode cL_law 815 = .ok (.istore 5, 2) := by decide +kernel
theorem dL_law_817 : decode cL_law 817 = .ok (.aload_n 2, 1) := by decide +kernel
theorem dL_law_818 : decode cL_law 818 = .ok (.aload_n 0, 1) := by decide +kernel
theorem dL_law_819 : decode cL_law 819 = .ok (.iload 4, 2) := by decide +kernel
theorem dL_law_821 : decode cL_law 821 = .ok (.iconst 1, 1) := by decide +kernel
theorem dL_law_822 : decode cL_law 822 = .ok (.iadd, 1) := by decide +kernel
theorem dL_law_823 : decode cL_law 823 = .ok (.iaload, 1) := by decide +kernel
theorem dL_law_824 : decode cL_law 824 = .ok (.aload_n 0, 1) := by decide +kernel
theorem dL_law_825 : decode cL_law 825 = .ok (.iload 4, 2) := by decide +kernel
theorem dL_law_827 : decode cL_law 827 = .ok (.iconst 2, 1) := by decide +kernel
theorem dL_law_828 : decode cL_law 828 = .ok (.iadd, 1) := by decide +kernel
theorem dL_law_829 : decode cL_law 829 = .ok (.iaload, 1) := by decide +kernel
theorem dL_law_830 : decode cL_law 830 = .ok (.ifCond .eq 7, 3) := by decide +kernel
theorem dL_law_833 : decode cL_law 833 = .ok (.iconst 1, 1) := by decide +kernel
theorem dL_law_834 : decode cL_law 834 = .ok (.goto 4, 3) := by decide +kernel
theorem dL_law_837 : decode cL_law 837 = .ok (.iconst 0, 1) := by decide +kernel
theorem dL_law_838 : decode cL_law 838 = .ok (.invokevirtual 153, 3) := by decide +kernel
theorem dL_law_841 : decode cL_law 841 = .ok (.istore 6, 2) := by decide +kernel
theorem dL_law_843 : decode cL_law 843 = .ok (.aload_n 2, 1) := by decide +kernel
theorem dL_law_844 : decode cL_law 844 = .ok (.invokevirtual 110, 3) := by decide +kernel
theorem dL_law_847 : decode cL_law 847 = .ok (.iload 5, 2) := by decide +kernel
theorem dL_law_849 : decode cL_law 849 = .ok (.if_icmp .eq 5, 3) := by decide +kernel
theorem dL_law_852 : decode cL_law 852 = .ok (.iconst 0, 1) := by decide +kernel
theorem dL_law_853 : decode cL_law 853 = .ok (.ireturn, 1) := by decide +kernel
theorem dL_law_854 : decode cL_law 854 = .ok (.iload 5, 2) := by decide +kernel
theorem dL_law_856 : decode cL_law 856 = .ok (.ifCond .ne 15, 3) := by decide +kernel
theorem dL_law_859 : decode cL_law 859 = .ok (.aload_n 3, 1) := by decide +kernel
theorem dL_law_860 : decode cL_law 860 = .ok (.iconst 0, 1) := by decide +kernel
theorem dL_law_861 : decode cL_law 861 = .ok (.laload, 1) := by decide +kernel
theorem dL_law_862 : decode cL_law 862 = .ok (.iload 6, 2) := by decide +kernel
theorem dL_law_864 : decode cL_law 864 = .ok (.i2l, 1) := by decide +kernel
theorem dL_law_865 : decode cL_law 865 = .ok (.lcmp, 1) := by decide +kernel
theorem dL_law_866 : decode cL_law 866 = .ok (.ifCond .eq 5, 3) := by decide +kernel
theorem dL_law_869 : decode cL_law 869 = .ok (.iconst 0, 1) := by decide +kernel
theorem dL_law_870 : decode cL_law 870 = .ok (.ireturn, 1) := by decide +kernel
theorem dL_law_871 : decode cL_law 871 = .ok (.goto 1032, 3) := by decide +kernel
theorem dL_law_874 : decode cL_law 874 = .ok (.aload_n 1, 1) := by decide +kernel
theorem dL_law_875 : decode cL_law 875 = .ok (.aload_n 0, 1) := by decide +kernel
theorem dL_law_876 : decode cL_law 876 = .ok (.iload 4, 2) := by decide +kernel
theorem dL_law_878 : decode cL_law 878 = .ok (.iconst 1, 1) := by decide +kernel
theorem dL_law_879 : decode cL_law 879 = .ok (.iadd, 1) := by decide +kernel
theorem dL_law_880 : decode cL_law 880 = .ok (.iaload, 1) := by decide +kernel
theorem dL_law_881 : decode cL_law 881 = .ok (.aload_n 0, 1) := by decide +kernel
theorem dL_law_882 : decode cL_law 882 = .ok (.iload 4, 2) := by decide +kernel
theorem dL_law_884 : decode cL_law 884 = .ok (.iconst 2, 1) := by decide +kernel
theorem dL_law_885 : decode cL_law 885 = .ok (.iadd, 1) := by decide +kernel
theorem dL_law_886 : decode cL_law 886 = .ok (.iaload, 1) := by decide +kernel
theorem dL_law_887 : decode cL_law 887 = .ok (.aload_n 3, 1) := by decide +kernel
theorem dL_law_888 : decode cL_law 888 = .ok (.invokestatic 154, 3) := by decide +kernel
theorem dL_law_891 : decode cL_law 891 = .ok (.istore 5, 2) := by decide +kernel
theorem dL_law_893 : decode cL_law 893 = .ok (.aload_n 2, 1) := by decide +kernel
theorem dL_law_894 : decode cL_law 894 = .ok (.aload_n 0, 1) := by decide +kernel
theorem dL_law_895 : decode cL_law 895 = .ok (.iload 4, 2) := by decide +kernel
theorem dL_law_897 : decode cL_law 897 = .ok (.iconst 1, 1) := by decide +kernel
theorem dL_law_898 : decode cL_law 898 = .ok (.iadd, 1) := by decide +kernel
theorem dL_law_899 : decode cL_law 899 = .ok (.iaload, 1) := by decide +kernel
theorem dL_law_900 : decode cL_law 900 = .ok (.aload_n 0, 1) := by decide +kernel
theorem dL_law_901 : decode cL_law 901 = .ok (.iload 4, 2) := by decide +kernel
theorem dL_law_903 : decode cL_law 903 = .ok (.iconst 2, 1) := by decide +kernel
theorem dL_law_904 : decode cL_law 904 = .ok (.iadd, 1) := by decide +kernel
theorem dL_law_905 : decode cL_law 905 = .ok (.iaload, 1) := by decide +kernel
theorem dL_law_906 : decode cL_law 906 = .ok (.invokevirtual 156, 3) := by decide +kernel
theorem dL_law_909 : decode cL_law 909 = .ok (.istore 6, 2) := by decide +kernel
theorem dL_law_911 : decode cL_law 911 = .ok (.aload_n 2, 1) := by decide +kernel
theorem dL_law_912 : decode cL_law 912 = .ok (.invokevirtual 110, 3) := by decide +kernel
theorem dL_law_915 : decode cL_law 915 = .ok (.iload 5, 2) := by decide +kernel
theorem dL_law_917 : decode cL_law 917 = .ok (.if_icmp .eq 5, 3) := by decide +kernel
theorem dL_law_920 : decode cL_law 920 = .ok (.iconst 0, 1) := by decide +kernel
theorem dL_law_921 : decode cL_law 921 = .ok (.ireturn, 1) := by decide +kernel
theorem dL_law_922 : decode cL_law 922 = .ok (.iload 5, 2) := by decide +kernel
theorem dL_law_924 : decode cL_law 924 = .ok (.ifCond .ne 15, 3) := by decide +kernel
theorem dL_law_927 : decode cL_law 927 = .ok (.aload_n 3, 1) := by decide +kernel
theorem dL_law_928 : decode cL_law 928 = .ok (.iconst 0, 1) := by decide +kernel
theorem dL_law_929 : decode cL_law 929 = .ok (.laload, 1) := by decide +kernel
theorem dL_law_930 : decode cL_law 930 = .ok (.iload 6, 2) := by decide +kernel
theorem dL_law_932 : decode cL_law 932 = .ok (.i2l, 1) := by decide +kernel
theorem dL_law_933 : decode cL_law 933 = .ok (.lcmp, 1) := by decide +kernel
theorem dL_law_934 : decode cL_law 934 = .ok (.ifCond .eq 5, 3) := by decide +kernel
theorem dL_law_937 : decode cL_law 937 = .ok (.iconst 0, 1) := by decide +kernel
theorem dL_law_938 : decode cL_law 938 = .ok (.ireturn, 1) := by decide +kernel
theorem dL_law_939 : decode cL_law 939 = .ok (.goto 964, 3) := by decide +kernel
theorem dL_law_942 : decode cL_law 942 = .ok (.aload_n 1, 1) := by decide +kernel
theorem dL_law_943 : decode cL_law 943 = .ok (.aload_n 0, 1) := by decide +kernel
theorem dL_law_944 : decode cL_law 944 = .ok (.iload 4, 2) := by decide +kernel
theorem dL_law_946 : decode cL_law 946 = .ok (.iconst 1, 1) := by decide +kernel
theorem dL_law_947 : decode cL_law 947 = .ok (.iadd, 1) := by decide +kernel
theorem dL_law_948 : decode cL_law 948 = .ok (.iaload, 1) := by decide +kernel
theorem dL_law_949 : decode cL_law 949 = .ok (.aload_n 3, 1) := by decide +kernel
theorem dL_law_950 : decode cL_law 950 = .ok (.invokestatic 157, 3) := by decide +kernel
theorem dL_law_953 : decode cL_law 953 = .ok (.istore 5, 2) := by decide +kernel
theorem dL_law_955 : decode cL_law 955 = .ok (.aload_n 2, 1) := by decide +kernel
theorem dL_law_956 : decode cL_law 956 = .ok (.aload_n 0, 1) := by decide +kernel
theorem dL_law_957 : decode cL_law 957 = .ok (.iload 4, 2) := by decide +kernel
theorem dL_law_959 : decode cL_law 959 = .ok (.iconst 1, 1) := by decide +kernel
theorem dL_law_960 : decode cL_law 960 = .ok (.iadd, 1) := by decide +kernel
theorem dL_law_961 : decode cL_law 961 = .ok (.iaload, 1) := by decide +kernel
theorem dL_law_962 : decode cL_law 962 = .ok (.invokevirtual 159, 3) := by decide +kernel
theorem dL_law_965 : decode cL_law 965 = .ok (.istore 6, 2) := by decide +kernel
theorem dL_law_967 : decode cL_law 967 = .ok (.aload_n 2, 1) := by decide +kernel
theorem dL_law_968 : decode cL_law 968 = .ok (.invokevirtual 110, 3) := by decide +kernel
theorem dL_law_971 : decode cL_law 971 = .ok (.iload 5, 2) := by decide +kernel
theorem dL_law_973 : decode cL_law 973 = .ok (.if_icmp .eq 5, 3) := by decide +kernel
theorem dL_law_976 : decode cL_law 976 = .ok (.iconst 0, 1) := by decide +kernel
theorem dL_law_977 : decode cL_law 977 = .ok (.ireturn, 1) := by decide +kernel
theorem dL_law_978 : decode cL_law 978 = .ok (.iload 5, 2) := by decide +kernel
theorem dL_law_980 : decode cL_law 980 = .ok (.ifCond .ne 15, 3) := by decide +kernel
theorem dL_law_983 : decode cL_law 983 = .ok (.aload_n 3, 1) := by decide +kernel
theorem dL_law_984 : decode cL_law 984 = .ok (.iconst 0, 1) := by decide +kernel
theorem dL_law_985 : decode cL_law 985 = .ok (.laload, 1) := by decide +kernel
theorem dL_law_986 : decode cL_law 986 = .ok (.iload 6, 2) := by decide +kernel
theorem dL_law_988 : decode cL_law 988 = .ok (.i2l, 1) := by decide +kernel
theorem dL_law_989 : decode cL_law 989 = .ok (.lcmp, 1) := by decide +kernel
theorem dL_law_990 : decode cL_law 990 = .ok (.ifCond .eq 5, 3) := by decide +kernel
theorem dL_law_993 : decode cL_law 993 = .ok (.iconst 0, 1) := by decide +kernel
theorem dL_law_994 : decode cL_law 994 = .ok (.ireturn, 1) := by decide +kernel
theorem dL_law_995 : decode cL_law 995 = .ok (.goto 908, 3) := by decide +kernel
theorem dL_law_998 : decode cL_law 998 = .ok (.aload_n 1, 1) := by decide +kernel
theorem dL_law_999 : decode cL_law 999 = .ok (.aload_n 0, 1) := by decide +kernel
theorem dL_law_1000 : decode cL_law 1000 = .ok (.iload 4, 2) := by decide +kernel
theorem dL_law_1002 : decode cL_law 1002 = .ok (.iconst 1, 1) := by decide +kernel
theorem dL_law_1003 : decode cL_law 1003 = .ok (.iadd, 1) := by decide +kernel
theorem dL_law_1004 : decode cL_law 1004 = .ok (.iaload, 1) := by decide +kernel
theorem dL_law_1005 : decode cL_law 1005 = .ok (.aload_n 3, 1) := by decide +kernel
theorem dL_law_1006 : decode cL_law 1006 = .ok (.invokestatic 160, 3) := by decide +kernel
theorem dL_law_1009 : decode cL_law 1009 = .ok (.istore 5, 2) := by decide +kernel
theorem dL_law_1011 : decode cL_law 1011 = .ok (.aload_n 2, 1) := by decide +kernel
theorem dL_law_1012 : decode cL_law 1012 = .ok (.aload_n 0, 1) := by decide +kernel
theorem dL_law_1013 : decode cL_law 1013 = .ok (.iload 4, 2) := by decide +kernel
theorem dL_law_1015 : decode cL_law 1015 = .ok (.iconst 1, 1) := by decide +kernel
theorem dL_law_1016 : decode cL_law 1016 = .ok (.iadd, 1) := by decide +kernel
theorem dL_law_1017 : decode cL_law 1017 = .ok (.iaload, 1) := by decide +kernel
theorem dL_law_1018 : decode cL_law 1018 = .ok (.invokevirtual 162, 3) := by decide +kernel
theorem dL_law_1021 : decode cL_law 1021 = .ok (.istore 6, 2) := by decide +kernel
theorem dL_law_1023 : decode cL_law 1023 = .ok (.aload_n 2, 1) := by decide +kernel
theorem dL_law_1024 : decode cL_law 1024 = .ok (.invokevirtual 110, 3) := by decide +kernel
theorem dL_law_1027 : decode cL_law 1027 = .ok (.iload 5, 2) := by decide +kernel
theorem dL_law_1029 : decode cL_law 1029 = .ok (.if_icmp .eq 5, 3) := by decide +kernel
theorem dL_law_1032 : decode cL_law 1032 = .ok (.iconst 0, 1) := by decide +kernel
theorem dL_law_1033 : decode cL_law 1033 = .ok (.ireturn, 1) := by decide +kernel
theorem dL_law_1034 : decode cL_law 1034 = .ok (.iload 5, 2) := by decide +kernel
theorem dL_law_1036 : decode cL_law 1036 = .ok (.ifCond .ne 15, 3) := by decide +kernel
theorem dL_law_1039 : decode cL_law 1039 = .ok (.aload_n 3, 1) := by decide +kernel
theorem dL_law_1040 : decode cL_law 1040 = .ok (.iconst 0, 1) := by decide +kernel
theorem dL_law_1041 : decode cL_law 1041 = .ok (.laload, 1) := by decide +kernel
theorem dL_law_1042 : decode cL_law 1042 = .ok (.iload 6, 2) := by decide +kernel
theorem dL_law_1044 : decode cL_law 1044 = .ok (.i2l, 1) := by decide +kernel
theorem dL_law_1045 : decode cL_law 1045 = .ok (.lcmp, 1) := by decide +kernel
theorem dL_law_1046 : decode cL_law 1046 = .ok (.ifCond .eq 5, 3) := by decide +kernel
theorem dL_law_1049 : decode cL_law 1049 = .ok (.iconst 0, 1) := by decide +kernel
theorem dL_law_1050 : decode cL_law 1050 = .ok (.ireturn, 1) := by decide +kernel
theorem dL_law_1051 : decode cL_law 1051 = .ok (.goto 852, 3) := by decide +kernel
theorem dL_law_1054 : decode cL_law 1054 = .ok (.aload_n 1, 1) := by decide +kernel
theorem dL_law_1055 : decode cL_law 1055 = .ok (.aload_n 0, 1) := by decide +kernel
theorem dL_law_1056 : decode cL_law 1056 = .ok (.iload 4, 2) := by decide +kernel
theorem dL_law_1058 : decode cL_law 1058 = .ok (.iconst 1, 1) := by decide +kernel
theorem dL_law_1059 : decode cL_law 1059 = .ok (.iadd, 1) := by decide +kernel
theorem dL_law_1060 : decode cL_law 1060 = .ok (.iaload, 1) := by decide +kernel
theorem dL_law_1061 : decode cL_law 1061 = .ok (.aload_n 3, 1) := by decide +kernel
theorem dL_law_1062 : decode cL_law 1062 = .ok (.invokestatic 163, 3) := by decide +kernel
theorem dL_law_1065 : decode cL_law 1065 = .ok (.istore 5, 2) := by decide +kernel
theorem dL_law_1067 : decode cL_law 1067 = .ok (.aload_n 2, 1) := by decide +kernel
theorem dL_law_1068 : decode cL_law 1068 = .ok (.aload_n 0, 1) := by decide +kernel
theorem dL_law_1069 : decode cL_law 1069 = .ok (.iload 4, 2) := by decide +kernel
theorem dL_law_1071 : decode cL_law 1071 = .ok (.iconst 1, 1) := by decide +kernel
theorem dL_law_1072 : decode cL_law 1072 = .ok (.iadd, 1) := by decide +kernel
theorem dL_law_1073 : decode cL_law 1073 = .ok (.iaload, 1) := by decide +kernel
theorem dL_law_1074 : decode cL_law 1074 = .ok (.invokevirtual 165, 3) := by decide +kernel
theorem dL_law_1077 : decode cL_law 1077 = .ok (.istore 6, 2) := by decide +kernel
theorem dL_law_1079 : decode cL_law 1079 = .ok (.aload_n 2, 1) := by decide +kernel
theorem dL_law_1080 : decode cL_law 1080 = .ok (.invokevirtual 110, 3) := by decide +kernel
theorem dL_law_1083 : decode cL_law 1083 = .ok (.iload 5, 2) := by decide +kernel
theorem dL_law_1085 : decode cL_law 1085 = .ok (.if_icmp .eq 5, 3) := by decide +kernel
theorem dL_law_1088 : decode cL_law 1088 = .ok (.iconst 0, 1) := by decide +kernel
theorem dL_law_1089 : decode cL_law 1089 = .ok (.ireturn, 1) := by decide +kernel
theorem dL_law_1090 : decode cL_law 1090 = .ok (.iload 5, 2) := by decide +kernel
theorem dL_law_1092 : decode cL_law 1092 = .ok (.ifCond .ne 15, 3) := by decide +kernel
theorem dL_law_1095 : decode cL_law 1095 = .ok (.aload_n 3, 1) := by decide +kernel
theorem dL_law_1096 : decode cL_law 1096 = .ok (.iconst 0, 1) := by decide +kernel
theorem dL_law_1097 : decode cL_law 1097 = .ok (.laload, 1) := by decide +kernel
theorem dL_law_1098 : decode cL_law 1098 = .ok (.iload 6, 2) := by decide +kernel
theorem dL_law_1100 : decode cL_law 1100 = .ok (.i2l, 1) := by decide +kernel
theorem dL_law_1101 : decode cL_law 1101 = .ok (.lcmp, 1) := by decide +kernel
theorem dL_law_1102 : decode cL_law 1102 = .ok (.ifCond .eq 5, 3) := by decide +kernel
theorem dL_law_1105 : decode cL_law 1105 = .ok (.iconst 0, 1) := by decide +kernel
theorem dL_law_1106 : decode cL_law 1106 = .ok (.ireturn, 1) := by decide +kernel
theorem dL_law_1107 : decode cL_law 1107 = .ok (.goto 796, 3) := by decide +kernel
theorem dL_law_1110 : decode cL_law 1110 = .ok (.aload_n 1, 1) := by decide +kernel
theorem dL_law_1111 : decode cL_law 1111 = .ok (.aload_n 3, 1) := by decide +kernel
theorem dL_law_1112 : decode cL_law 1112 = .ok (.invokestatic 166, 3) := by decide +kernel
theorem dL_law_1115 : decode cL_law 1115 = .ok (.istore 5, 2) := by decide +kernel
theorem dL_law_1117 : decode cL_law 1117 = .ok (.aload_n 2, 1) := by decide +kernel
theorem dL_law_1118 : decode cL_law 1118 = .ok (.invokevirtual 168, 3) := by decide +kernel
theorem dL_law_1121 : decode cL_law 1121 = .ok (.istore 6, 2) := by decide +kernel
theorem dL_law_1123 : decode cL_law 1123 = .ok (.aload_n 2, 1) := by decide +kernel
theorem dL_law_1124 : decode cL_law 1124 = .ok (.invokevirtual 110, 3) := by decide +kernel
theorem dL_law_1127 : decode cL_law 1127 = .ok (.iload 5, 2) := by decide +kernel
theorem dL_law_1129 : decode cL_law 1129 = .ok (.if_icmp .eq 5, 3) := by decide +kernel
theorem dL_law_1132 : decode cL_law 1132 = .ok (.iconst 0, 1) := by decide +kernel
theorem dL_law_1133 : decode cL_law 1133 = .ok (.ireturn, 1) := by decide +kernel
theorem dL_law_1134 : decode cL_law 1134 = .ok (.iload 5, 2) := by decide +kernel
theorem dL_law_1136 : decode cL_law 1136 = .ok (.ifCond .ne 15, 3) := by decide +kernel
theorem dL_law_1139 : decode cL_law 1139 = .ok (.aload_n 3, 1) := by decide +kernel
theorem dL_law_1140 : decode cL_law 1140 = .ok (.iconst 0, 1) := by decide +kernel
theorem dL_law_1141 : decode cL_law 1141 = .ok (.laload, 1) := by decide +kernel
theorem dL_law_1142 : decode cL_law 1142 = .ok (.iload 6, 2) := by decide +kernel
theorem dL_law_1144 : decode cL_law 1144 = .ok (.i2l, 1) := by decide +kernel
theorem dL_law_1145 : decode cL_law 1145 = .ok (.lcmp, 1) := by decide +kernel
theorem dL_law_1146 : decode cL_law 1146 = .ok (.ifCond .eq 5, 3) := by decide +kernel
theorem dL_law_1149 : decode cL_law 1149 = .ok (.iconst 0, 1) := by decide +kernel
theorem dL_law_1150 : decode cL_law 1150 = .ok (.ireturn, 1) := by decide +kernel
theorem dL_law_1151 : decode cL_law 1151 = .ok (.goto 752, 3) := by decide +kernel
theorem dL_law_1154 : decode cL_law 1154 = .ok (.aload_n 1, 1) := by decide +kernel
theorem dL_law_1155 : decode cL_law 1155 = .ok (.invokevirtual 169, 3) := by decide +kernel
theorem dL_law_1158 : decode cL_law 1158 = .ok (.aload_n 2, 1) := by decide +kernel
theorem dL_law_1159 : decode cL_law 1159 = .ok (.invokevirtual 172, 3) := by decide +kernel
theorem dL_law_1162 : decode cL_law 1162 = .ok (.if_icmp .eq 741, 3) := by decide +kernel
theorem dL_law_1165 : decode cL_law 1165 = .ok (.iconst 0, 1) := by decide +kernel
theorem dL_law_1166 : decode cL_law 1166 = .ok (.ireturn, 1) := by decide +kernel
theorem dL_law_1167 : decode cL_law 1167 = .ok (.aload_n 1, 1) := by decide +kernel
theorem dL_law_1168 : decode cL_law 1168 = .ok (.aload_n 0, 1) := by decide +kernel
theorem dL_law_1169 : decode cL_law 1169 = .ok (.iload 4, 2) := by decide +kernel
theorem dL_law_1171 : decode cL_law 1171 = .ok (.iconst 1, 1) := by decide +kernel
theorem dL_law_1172 : decode cL_law 1172 = .ok (.iadd, 1) := by decide +kernel
theorem dL_law_1173 : decode cL_law 1173 = .ok (.iaload, 1) := by decide +kernel
theorem dL_law_1174 : decode cL_law 1174 = .ok (.aload_n 3, 1) := by decide +kernel
theorem dL_law_1175 : decode cL_law 1175 = .ok (.invokestatic 173, 3) := by decide +kernel
theorem dL_law_1178 : decode cL_law 1178 = .ok (.istore 5, 2) := by decide +kernel
theorem dL_law_1180 : decode cL_law 1180 = .ok (.aload_n 2, 1) := by decide +kernel
theorem dL_law_1181 : decode cL_law 1181 = .ok (.aload_n 0, 1) := by decide +kernel
theorem dL_law_1182 : decode cL_law 1182 = .ok (.iload 4, 2) := by decide +kernel
theorem dL_law_1184 : decode cL_law 1184 = .ok (.iconst 1, 1) := by decide +kernel
theorem dL_law_1185 : decode cL_law 1185 = .ok (.iadd, 1) := by decide +kernel
theorem dL_law_1186 : decode cL_law 1186 = .ok (.iaload, 1) := by decide +kernel
theorem dL_law_1187 : decode cL_law 1187 = .ok (.invokevirtual 175, 3) := by decide +kernel
theorem dL_law_1190 : decode cL_law 1190 = .ok (.istore 6, 2) := by decide +kernel
theorem dL_law_1192 : decode cL_law 1192 = .ok (.aload_n 2, 1) := by decide +kernel
theorem dL_law_1193 : decode cL_law 1193 = .ok (.invokevirtual 110, 3) := by decide +kernel
theorem dL_law_1196 : decode cL_law 1196 = .ok (.iload 5, 2) := by decide +kernel
theorem dL_law_1198 : decode cL_law 1198 = .ok (.if_icmp .eq 5, 3) := by decide +kernel
theorem dL_law_1201 : decode cL_law 1201 = .ok (.iconst 0, 1) := by decide +kernel
theorem dL_law_1202 : decode cL_law 1202 = .ok (.ireturn, 1) := by decide +kernel
theorem dL_law_1203 : decode cL_law 1203 = .ok (.iload 5, 2) := by decide +kernel
theorem dL_law_1205 : decode cL_law 1205 = .ok (.ifCond .ne 15, 3) := by decide +kernel
theorem dL_law_1208 : decode cL_law 1208 = .ok (.aload_n 3, 1) := by decide +kernel
theorem dL_law_1209 : decode cL_law 1209 = .ok (.iconst 0, 1) := by decide +kernel
theorem dL_law_1210 : decode cL_law 1210 = .ok (.laload, 1) := by decide +kernel
theorem dL_law_1211 : decode cL_law 1211 = .ok (.iload 6, 2) := by decide +kernel
theorem dL_law_1213 : decode cL_law 1213 = .ok (.i2l, 1) := by decide +kernel
theorem dL_law_1214 : decode cL_law 1214 = .ok (.lcmp, 1) := by decide +kernel
theorem dL_law_1215 : decode cL_law 1215 = .ok (.ifCond .eq 5, 3) := by decide +kernel
theorem dL_law_1218 : decode cL_law 1218 = .ok (.iconst 0, 1) := by decide +kernel
theorem dL_law_1219 : decode cL_law 1219 = .ok (.ireturn, 1) := by decide +kernel
theorem dL_law_1220 : decode cL_law 1220 = .ok (.goto 683, 3) := by decide +kernel
theorem dL_law_1223 : decode cL_law 1223 = .ok (.aload_n 1, 1) := by decide +kernel
theorem dL_law_1224 : decode cL_law 1224 = .ok (.aload_n 0, 1) := by decide +kernel
theorem dL_law_1225 : decode cL_law 1225 = .ok (.iload 4, 2) := by decide +kernel
theorem dL_law_1227 : decode cL_law 1227 = .ok (.iconst 1, 1) := by decide +kernel
theorem dL_law_1228 : decode cL_law 1228 = .ok (.iadd, 1) := by decide +kernel
theorem dL_law_1229 : decode cL_law 1229 = .ok (.iaload, 1) := by decide +kernel
theorem dL_law_1230 : decode cL_law 1230 = .ok (.aload_n 0, 1) := by decide +kernel
theorem dL_law_1231 : decode cL_law 1231 = .ok (.iload 4, 2) := by decide +kernel
theorem dL_law_1233 : decode cL_law 1233 = .ok (.iconst 2, 1) := by decide +kernel
theorem dL_law_1234 : decode cL_law 1234 = .ok (.iadd, 1) := by decide +kernel
theorem dL_law_1235 : decode cL_law 1235 = .ok (.iaload, 1) := by decide +kernel
theorem dL_law_1236 : decode cL_law 1236 = .ok (.ifCond .eq 7, 3) := by decide +kernel
theorem dL_law_1239 : decode cL_law 1239 = .ok (.iconst 1, 1) := by decide +kernel
theorem dL_law_1240 : decode cL_law 1240 = .ok (.goto 4, 3) := by decide +kernel
theorem dL_law_1243 : decode cL_law 1243 = .ok (.iconst 0, 1) := by decide +kernel
theorem dL_law_1244 : decode cL_law 1244 = .ok (.aload_n 3, 1) := by decide +kernel
theorem dL_law_1245 : decode cL_law 1245 = .ok (.invokestatic 176, 3) := by decide +kernel
theorem dL_law_1248 : decode cL_law 1248 = .ok (.istore 5, 2) := by decide +kernel
theorem dL_law_1250 : decode cL_law 1250 = .ok (.aload_n 2, 1) := by decide +kernel
theorem dL_law_1251 : decode cL_law 1251 = .ok (.aload_n 0, 1) := by decide +kernel
theorem dL_law_1252 : decode cL_law 1252 = .ok (.iload 4, 2) := by decide +kernel
theorem dL_law_1254 : decode cL_law 1254 = .ok (.iconst 1, 1) := by decide +kernel
theorem dL_law_1255 : decode cL_law 1255 = .ok (.iadd, 1) := by decide +kernel
theorem dL_law_1256 : decode cL_law 1256 = .ok (.iaload, 1) := by decide +kernel
theorem dL_law_1257 : decode cL_law 1257 = .ok (.aload_n 0, 1) := by decide +kernel
theorem dL_law_1258 : decode cL_law 1258 = .ok (.iload 4, 2) := by decide +kernel
theorem dL_law_1260 : decode cL_law 1260 = .ok (.iconst 2, 1) := by decide +kernel
theorem dL_law_1261 : decode cL_law 1261 = .ok (.iadd, 1) := by decide +kernel
theorem dL_law_1262 : decode cL_law 1262 = .ok (.iaload, 1) := by decide +kernel
theorem dL_law_1263 : decode cL_law 1263 = .ok (.ifCond .eq 7, 3) := by decide +kernel
theorem dL_law_1266 : decode cL_law 1266 = .ok (.iconst 1, 1) := by decide +kernel
theorem dL_law_1267 : decode cL_law 1267 = .ok (.goto 4, 3) := by decide +kernel
theorem dL_law_1270 : decode cL_law 1270 = .ok (.iconst 0, 1) := by decide +kernel
theorem dL_law_1271 : decode cL_law 1271 = .ok (.invokevirtual 178, 3) := by decide +kernel
theorem dL_law_1274 : decode cL_law 1274 = .ok (.istore 6, 2) := by decide +kernel
theorem dL_law_1276 : decode cL_law 1276 = .ok (.aload_n 2, 1) := by decide +kernel
theorem dL_law_1277 : decode cL_law 1277 = .ok (.invokevirtual 110, 3) := by decide +kernel
theorem dL_law_1280 : decode cL_law 1280 = .ok (.iload 5, 2) := by decide +kernel
theorem dL_law_1282 : decode cL_law 1282 = .ok (.if_icmp .eq 5, 3) := by decide +kernel
theorem dL_law_1285 : decode cL_law 1285 = .ok (.iconst 0, 1) := by decide +kernel
theorem dL_law_1286 : decode cL_law 1286 = .ok (.ireturn, 1) := by decide +kernel
theorem dL_law_1287 : decode cL_law 1287 = .ok (.iload 5, 2) := by decide +kernel
theorem dL_law_1289 : decode cL_law 1289 = .ok (.ifCond .ne 15, 3) := by decide +kernel
theorem dL_law_1292 : decode cL_law 1292 = .ok (.aload_n 3, 1) := by decide +kernel
theorem dL_law_1293 : decode cL_law 1293 = .ok (.iconst 0, 1) := by decide +kernel
theorem dL_law_1294 : decode cL_law 1294 = .ok (.laload, 1) := by decide +kernel
theorem dL_law_1295 : decode cL_law 1295 = .ok (.iload 6, 2) := by decide +kernel
theorem dL_law_1297 : decode cL_law 1297 = .ok (.i2l, 1) := by decide +kernel
theorem dL_law_1298 : decode cL_law 1298 = .ok (.lcmp, 1) := by decide +kernel
theorem dL_law_1299 : decode cL_law 1299 = .ok (.ifCond .eq 5, 3) := by decide +kernel
theorem dL_law_1302 : decode cL_law 1302 = .ok (.iconst 0, 1) := by decide +kernel
theorem dL_law_1303 : decode cL_law 1303 = .ok (.ireturn, 1) := by decide +kernel
theorem dL_law_1304 : decode cL_law 1304 = .ok (.goto 599, 3) := by decide +kernel
theorem dL_law_1307 : decode cL_law 1307 = .ok (.aload_n 1, 1) := by decide +kernel
theorem dL_law_1308 : decode cL_law 1308 = .ok (.aload_n 0, 1) := by decide +kernel
theorem dL_law_1309 : decode cL_law 1309 = .ok (.iload 4, 2) := by decide +kernel
theorem dL_law_1311 : decode cL_law 1311 = .ok (.iconst 1, 1) := by decide +kernel
theorem dL_law_1312 : decode cL_law 1312 = .ok (.iadd, 1) := by decide +kernel
theorem dL_law_1313 : decode cL_law 1313 = .ok (.iaload, 1) := by decide +kernel
theorem dL_law_1314 : decode cL_law 1314 = .ok (.aload_n 0, 1) := by decide +kernel
theorem dL_law_1315 : decode cL_law 1315 = .ok (.iload 4, 2) := by decide +kernel
theorem dL_law_1317 : decode cL_law 1317 = .ok (.iconst 2, 1) := by decide +kernel
theorem dL_law_1318 : decode cL_law 1318 = .ok (.iadd, 1) := by decide +kernel
theorem dL_law_1319 : decode cL_law 1319 = .ok (.iaload, 1) := by decide +kernel
theorem dL_law_1320 : decode cL_law 1320 = .ok (.aload_n 0, 1) := by decide +kernel
theorem dL_law_1321 : decode cL_law 1321 = .ok (.iload 4, 2) := by decide +kernel
theorem dL_law_1323 : decode cL_law 1323 = .ok (.iconst 3, 1) := by decide +kernel
theorem dL_law_1324 : decode cL_law 1324 = .ok (.iadd, 1) := by decide +kernel
theorem dL_law_1325 : decode cL_law 1325 = .ok (.iaload, 1) := by decide +kernel
theorem dL_law_1326 : decode cL_law 1326 = .ok (.aload_n 3, 1) := by decide +kernel
theorem dL_law_1327 : decode cL_law 1327 = .ok (.invokestatic 179, 3) := by decide +kernel
theorem dL_law_1330 : decode cL_law 1330 = .ok (.istore 5, 2) := by decide +kernel
theorem dL_law_1332 : decode cL_law 1332 = .ok (.aload_n 2, 1) := by decide +kernel
theorem dL_law_1333 : decode cL_law 1333 = .ok (.aload_n 0, 1) := by decide +kernel
theorem dL_law_1334 : decode cL_law 1334 = .ok (.iload 4, 2) := by decide +kernel
theorem dL_law_1336 : decode cL_law 1336 = .ok (.iconst 1, 1) := by decide +kernel
theorem dL_law_1337 : decode cL_law 1337 = .ok (.iadd, 1) := by decide +kernel
theorem dL_law_1338 : decode cL_law 1338 = .ok (.iaload, 1) := by decide +kernel
theorem dL_law_1339 : decode cL_law 1339 = .ok (.aload_n 0, 1) := by decide +kernel
theorem dL_law_1340 : decode cL_law 1340 = .ok (.iload 4, 2) := by decide +kernel
theorem dL_law_1342 : decode cL_law 1342 = .ok (.iconst 2, 1) := by decide +kernel
theorem dL_law_1343 : decode cL_law 1343 = .ok (.iadd, 1) := by decide +kernel
theorem dL_law_1344 : decode cL_law 1344 = .ok (.iaload, 1) := by decide +kernel
theorem dL_law_1345 : decode cL_law 1345 = .ok (.aload_n 0, 1) := by decide +kernel
theorem dL_law_1346 : decode cL_law 1346 = .ok (.iload 4, 2) := by decide +kernel
theorem dL_law_1348 : decode cL_law 1348 = .ok (.iconst 3, 1) := by decide +kernel
theorem dL_law_1349 : decode cL_law 1349 = .ok (.iadd, 1) := by decide +kernel
theorem dL_law_1350 : decode cL_law 1350 = .ok (.iaload, 1) := by decide +kernel
theorem dL_law_1351 : decode cL_law 1351 = .ok (.invokevirtual 182, 3) := by decide +kernel
theorem dL_law_1354 : decode cL_law 1354 = .ok (.istore 6, 2) := by decide +kernel
theorem dL_law_1356 : decode cL_law 1356 = .ok (.aload_n 2, 1) := by decide +kernel
theorem dL_law_1357 : decode cL_law 1357 = .ok (.invokevirtual 110, 3) := by decide +kernel
theorem dL_law_1360 : decode cL_law 1360 = .ok (.iload 5, 2) := by decide +kernel
theorem dL_law_1362 : decode cL_law 1362 = .ok (.if_icmp .eq 5, 3) := by decide +kernel
theorem dL_law_1365 : decode cL_law 1365 = .ok (.iconst 0, 1) := by decide +kernel
theorem dL_law_1366 : decode cL_law 1366 = .ok (.ireturn, 1) := by decide +kernel
theorem dL_law_1367 : decode cL_law 1367 = .ok (.iload 5, 2) := by decide +kernel
theorem dL_law_1369 : decode cL_law 1369 = .ok (.ifCond .ne 15, 3) := by decide +kernel
theorem dL_law_1372 : decode cL_law 1372 = .ok (.aload_n 3, 1) := by decide +kernel
theorem dL_law_1373 : decode cL_law 1373 = .ok (.iconst 0, 1) := by decide +kernel
theorem dL_law_1374 : decode cL_law 1374 = .ok (.laload, 1) := by decide +kernel
theorem dL_law_1375 : decode cL_law 1375 = .ok (.iload 6, 2) := by decide +kernel
theorem dL_law_1377 : decode cL_law 1377 = .ok (.i2l, 1) := by decide +kernel
theorem dL_law_1378 : decode cL_law 1378 = .ok (.lcmp, 1) := by decide +kernel
theorem dL_law_1379 : decode cL_law 1379 = .ok (.ifCond .eq 5, 3) := by decide +kernel
theorem dL_law_1382 : decode cL_law 1382 = .ok (.iconst 0, 1) := by decide +kernel
theorem dL_law_1383 : decode cL_law 1383 = .ok (.ireturn, 1) := by decide +kernel
theorem dL_law_1384 : decode cL_law 1384 = .ok (.goto 519, 3) := by decide +kernel
theorem dL_law_1387 : decode cL_law 1387 = .ok (.aload_n 1, 1) := by decide +kernel
theorem dL_law_1388 : decode cL_law 1388 = .ok (.aload_n 0, 1) := by decide +kernel
theorem dL_law_1389 : decode cL_law 1389 = .ok (.iload 4, 2) := by decide +kernel
theorem dL_law_1391 : decode cL_law 1391 = .ok (.iconst 1, 1) := by decide +kernel
theorem dL_law_1392 : decode cL_law 1392 = .ok (.iadd, 1) := by decide +kernel
theorem dL_law_1393 : decode cL_law 1393 = .ok (.iaload, 1) := by decide +kernel
theorem dL_law_1394 : decode cL_law 1394 = .ok (.aload_n 0, 1) := by decide +kernel
theorem dL_law_1395 : decode cL_law 1395 = .ok (.iload 4, 2) := by decide +kernel
theorem dL_law_1397 : decode cL_law 1397 = .ok (.iconst 2, 1) := by decide +kernel
theorem dL_law_1398 : decode cL_law 1398 = .ok (.iadd, 1) := by decide +kernel
theorem dL_law_1399 : decode cL_law 1399 = .ok (.iaload, 1) := by decide +kernel
theorem dL_law_1400 : decode cL_law 1400 = .ok (.aload_n 3, 1) := by decide +kernel
theorem dL_law_1401 : decode cL_law 1401 = .ok (.invokestatic 183, 3) := by decide +kernel
theorem dL_law_1404 : decode cL_law 1404 = .ok (.istore 5, 2) := by decide +kernel
theorem dL_law_1406 : decode cL_law 1406 = .ok (.aload_n 2, 1) := by decide +kernel
theorem dL_law_1407 : decode cL_law 1407 = .ok (.aload_n 0, 1) := by decide +kernel
theorem dL_law_1408 : decode cL_law 1408 = .ok (.iload 4, 2) := by decide +kernel
theorem dL_law_1410 : decode cL_law 1410 = .ok (.iconst 1, 1) := by decide +kernel
theorem dL_law_1411 : decode cL_law 1411 = .ok (.iadd, 1) := by decide +kernel
theorem dL_law_1412 : decode cL_law 1412 = .ok (.iaload, 1) := by decide +kernel
theorem dL_law_1413 : decode cL_law 1413 = .ok (.aload_n 0, 1) := by decide +kernel
theorem dL_law_1414 : decode cL_law 1414 = .ok (.iload 4, 2) := by decide +kernel
theorem dL_law_1416 : decode cL_law 1416 = .ok (.iconst 2, 1) := by decide +kernel
theorem dL_law_1417 : decode cL_law 1417 = .ok (.iadd, 1) := by decide +kernel
theorem dL_law_1418 : decode cL_law 1418 = .ok (.iaload, 1) := by decide +kernel
theorem dL_law_1419 : decode cL_law 1419 = .ok (.invokevirtual 185, 3) := by decide +kernel
theorem dL_law_1422 : decode cL_law 1422 = .ok (.istore 6, 2) := by decide +kernel
theorem dL_law_1424 : decode cL_law 1424 = .ok (.aload_n 2, 1) := by decide +kernel
theorem dL_law_1425 : decode cL_law 1425 = .ok (.invokevirtual 110, 3) := by decide +kernel
theorem dL_law_1428 : decode cL_law 1428 = .ok (.iload 5, 2) := by decide +kernel
theorem dL_law_1430 : decode cL_law 1430 = .ok (.if_icmp .eq 5, 3) := by decide +kernel
theorem dL_law_1433 : decode cL_law 1433 = .ok (.iconst 0, 1) := by decide +kernel
theorem dL_law_1434 : decode cL_law 1434 = .ok (.ireturn, 1) := by decide +kernel
theorem dL_law_1435 : decode cL_law 1435 = .ok (.iload 5, 2) := by decide +kernel
theorem dL_law_1437 : decode cL_law 1437 = .ok (.ifCond .ne 15, 3) := by decide +kernel
theorem dL_law_1440 : decode cL_law 1440 = .ok (.aload_n 3, 1) := by decide +kernel
theorem dL_law_1441 : decode cL_law 1441 = .ok (.iconst 0, 1) := by decide +kernel
theorem dL_law_1442 : decode cL_law 1442 = .ok (.laload, 1) := by decide +kernel
theorem dL_law_1443 : decode cL_law 1443 = .ok (.iload 6, 2) := by decide +kernel
theorem dL_law_1445 : decode cL_law 1445 = .ok (.i2l, 1) := by decide +kernel
theorem dL_law_1446 : decode cL_law 1446 = .ok (.lcmp, 1) := by decide +kernel
theorem dL_law_1447 : decode cL_law 1447 = .ok (.ifCond .eq 5, 3) := by decide +kernel
theorem dL_law_1450 : decode cL_law 1450 = .ok (.iconst 0, 1) := by decide +kernel
theorem dL_law_1451 : decode cL_law 1451 = .ok (.ireturn, 1) := by decide +kernel
theorem dL_law_1452 : decode cL_law 1452 = .ok (.goto 451, 3) := by decide +kernel
theorem dL_law_1455 : decode cL_law 1455 = .ok (.aload_n 1, 1) := by decide +kernel
theorem dL_law_1456 : decode cL_law 1456 = .ok (.aload_n 0, 1) := by decide +kernel
theorem dL_law_1457 : decode cL_law 1457 = .ok (.iload 4, 2) := by decide +kernel
theorem dL_law_1459 : decode cL_law 1459 = .ok (.iconst 1, 1) := by decide +kernel
theorem dL_law_1460 : decode cL_law 1460 = .ok (.iadd, 1) := by decide +kernel
theorem dL_law_1461 : decode cL_law 1461 = .ok (.iaload, 1) := by decide +kernel
theorem dL_law_1462 : decode cL_law 1462 = .ok (.aload_n 0, 1) := by decide +kernel
theorem dL_law_1463 : decode cL_law 1463 = .ok (.iload 4, 2) := by decide +kernel
theorem dL_law_1465 : decode cL_law 1465 = .ok (.iconst 2, 1) := by decide +kernel
theorem dL_law_1466 : decode cL_law 1466 = .ok (.iadd, 1) := by decide +kernel
theorem dL_law_1467 : decode cL_law 1467 = .ok (.iaload, 1) := by decide +kernel
theorem dL_law_1468 : decode cL_law 1468 = .ok (.aload_n 3, 1) := by decide +kernel
theorem dL_law_1469 : decode cL_law 1469 = .ok (.invokestatic 186, 3) := by decide +kernel
theorem dL_law_1472 : decode cL_law 1472 = .ok (.istore 5, 2) := by decide +kernel
theorem dL_law_1474 : decode cL_law 1474 = .ok (.aload_n 2, 1) := by decide +kernel
theorem dL_law_1475 : decode cL_law 1475 = .ok (.aload_n 0, 1) := by decide +kernel
theorem dL_law_1476 : decode cL_law 1476 = .ok (.iload 4, 2) := by decide +kernel
theorem dL_law_1478 : decode cL_law 1478 = .ok (.iconst 1, 1) := by decide +kernel
theorem dL_law_1479 : decode cL_law 1479 = .ok (.iadd, 1) := by decide +kernel
theorem dL_law_1480 : decode cL_law 1480 = .ok (.iaload, 1) := by decide +kernel
theorem dL_law_1481 : decode cL_law 1481 = .ok (.aload_n 0, 1) := by decide +kernel
theorem dL_law_1482 : decode cL_law 1482 = .ok (.iload 4, 2) := by decide +kernel
theorem dL_law_1484 : decode cL_law 1484 = .ok (.iconst 2, 1) := by decide +kernel
theorem dL_law_1485 : decode cL_law 1485 = .ok (.iadd, 1) := by decide +kernel
theorem dL_law_1486 : decode cL_law 1486 = .ok (.iaload, 1) := by decide +kernel
theorem dL_law_1487 : decode cL_law 1487 = .ok (.invokevirtual 188, 3) := by decide +kernel
theorem dL_law_1490 : decode cL_law 1490 = .ok (.istore 6, 2) := by decide +kernel
theorem dL_law_1492 : decode cL_law 1492 = .ok (.aload_n 2, 1) := by decide +kernel
theorem dL_law_1493 : decode cL_law 1493 = .ok (.invokevirtual 110, 3) := by decide +kernel
theorem dL_law_1496 : decode cL_law 1496 = .ok (.iload 5, 2) := by decide +kernel
theorem dL_law_1498 : decode cL_law 1498 = .ok (.if_icmp .eq 5, 3) := by decide +kernel
theorem dL_law_1501 : decode cL_law 1501 = .ok (.iconst 0, 1) := by decide +kernel
theorem dL_law_1502 : decode cL_law 1502 = .ok (.ireturn, 1) := by decide +kernel
theorem dL_law_1503 : decode cL_law 1503 = .ok (.iload 5, 2) := by decide +kernel
theorem dL_law_1505 : decode cL_law 1505 = .ok (.ifCond .ne 15, 3) := by decide +kernel
theorem dL_law_1508 : decode cL_law 1508 = .ok (.aload_n 3, 1) := by decide +kernel
theorem dL_law_1509 : decode cL_law 1509 = .ok (.iconst 0, 1) := by decide +kernel
theorem dL_law_1510 : decode cL_law 1510 = .ok (.laload, 1) := by decide +kernel
theorem dL_law_1511 : decode cL_law 1511 = .ok (.iload 6, 2) := by decide +kernel
theorem dL_law_1513 : decode cL_law 1513 = .ok (.i2l, 1) := by decide +kernel
theorem dL_law_1514 : decode cL_law 1514 = .ok (.lcmp, 1) := by decide +kernel
theorem dL_law_1515 : decode cL_law 1515 = .ok (.ifCond .eq 5, 3) := by decide +kernel
theorem dL_law_1518 : decode cL_law 1518 = .ok (.iconst 0, 1) := by decide +kernel
theorem dL_law_1519 : decode cL_law 1519 = .ok (.ireturn, 1) := by decide +kernel
theorem dL_law_1520 : decode cL_law 1520 = .ok (.goto 383, 3) := by decide +kernel
theorem dL_law_1523 : decode cL_law 1523 = .ok (.aload_n 1, 1) := by decide +kernel
theorem dL_law_1524 : decode cL_law 1524 = .ok (.aload_n 0, 1) := by decide +kernel
theorem dL_law_1525 : decode cL_law 1525 = .ok (.iload 4, 2) := by decide +kernel
theorem dL_law_1527 : decode cL_law 1527 = .ok (.iconst 1, 1) := by decide +kernel
theorem dL_law_1528 : decode cL_law 1528 = .ok (.iadd, 1) := by decide +kernel
theorem dL_law_1529 : decode cL_law 1529 = .ok (.iaload, 1) := by decide +kernel
theorem dL_law_1530 : decode cL_law 1530 = .ok (.aload_n 0, 1) := by decide +kernel
theorem dL_law_1531 : decode cL_law 1531 = .ok (.iload 4, 2) := by decide +kernel
theorem dL_law_1533 : decode cL_law 1533 = .ok (.iconst 2, 1) := by decide +kernel
theorem dL_law_1534 : decode cL_law 1534 = .ok (.iadd, 1) := by decide +kernel
theorem dL_law_1535 : decode cL_law 1535 = .ok (.iaload, 1) := by decide +kernel
theorem dL_law_1536 : decode cL_law 1536 = .ok (.aload_n 3, 1) := by decide +kernel
theorem dL_law_1537 : decode cL_law 1537 = .ok (.invokestatic 189, 3) := by decide +kernel
theorem dL_law_1540 : decode cL_law 1540 = .ok (.istore 5, 2) := by decide +kernel
theorem dL_law_1542 : decode cL_law 1542 = .ok (.aload_n 2, 1) := by decide +kernel
theorem dL_law_1543 : decode cL_law 1543 = .ok (.aload_n 0, 1) := by decide +kernel
theorem dL_law_1544 : decode cL_law 1544 = .ok (.iload 4, 2) := by decide +kernel
theorem dL_law_1546 : decode cL_law 1546 = .ok (.iconst 1, 1) := by decide +kernel
theorem dL_law_1547 : decode cL_law 1547 = .ok (.iadd, 1) := by decide +kernel
theorem dL_law_1548 : decode cL_law 1548 = .ok (.iaload, 1) := by decide +kernel
theorem dL_law_1549 : decode cL_law 1549 = .ok (.aload_n 0, 1) := by decide +kernel
theorem dL_law_1550 : decode cL_law 1550 = .ok (.iload 4, 2) := by decide +kernel
theorem dL_law_1552 : decode cL_law 1552 = .ok (.iconst 2, 1) := by decide +kernel
theorem dL_law_1553 : decode cL_law 1553 = .ok (.iadd, 1) := by decide +kernel
theorem dL_law_1554 : decode cL_law 1554 = .ok (.iaload, 1) := by decide +kernel
theorem dL_law_1555 : decode cL_law 1555 = .ok (.invokevirtual 191, 3) := by decide +kernel
theorem dL_law_1558 : decode cL_law 1558 = .ok (.istore 6, 2) := by decide +kernel
theorem dL_law_1560 : decode cL_law 1560 = .ok (.aload_n 2, 1) := by decide +kernel
theorem dL_law_1561 : decode cL_law 1561 = .ok (.invokevirtual 110, 3) := by decide +kernel
theorem dL_law_1564 : decode cL_law 1564 = .ok (.iload 5, 2) := by decide +kernel
theorem dL_law_1566 : decode cL_law 1566 = .ok (.if_icmp .eq 5, 3) := by decide +kernel
theorem dL_law_1569 : decode cL_law 1569 = .ok (.iconst 0, 1) := by decide +kernel
theorem dL_law_1570 : decode cL_law 1570 = .ok (.ireturn, 1) := by decide +kernel
theorem dL_law_1571 : decode cL_law 1571 = .ok (.iload 5, 2) := by decide +kernel
theorem dL_law_1573 : decode cL_law 1573 = .ok (.ifCond .ne 15, 3) := by decide +kernel
theorem dL_law_1576 : decode cL_law 1576 = .ok (.aload_n 3, 1) := by decide +kernel
theorem dL_law_1577 : decode cL_law 1577 = .ok (.iconst 0, 1) := by decide +kernel
theorem dL_law_1578 : decode cL_law 1578 = .ok (.laload, 1) := by decide +kernel
theorem dL_law_1579 : decode cL_law 1579 = .ok (.iload 6, 2) := by decide +kernel
theorem dL_law_1581 : decode cL_law 1581 = .ok (.i2l, 1) := by decide +kernel
theorem dL_law_1582 : decode cL_law 1582 = .ok (.lcmp, 1) := by decide +kernel
theorem dL_law_1583 : decode cL_law 1583 = .ok (.ifCond .eq 5, 3) := by decide +kernel
theorem dL_law_1586 : decode cL_law 1586 = .ok (.iconst 0, 1) := by decide +kernel
theorem dL_law_1587 : decode cL_law 1587 = .ok (.ireturn, 1) := by decide +kernel
theorem dL_law_1588 : decode cL_law 1588 = .ok (.goto 315, 3) := by decide +kernel
theorem dL_law_1591 : decode cL_law 1591 = .ok (.aload_n 1, 1) := by decide +kernel
theorem dL_law_1592 : decode cL_law 1592 = .ok (.aload_n 0, 1) := by decide +kernel
theorem dL_law_1593 : decode cL_law 1593 = .ok (.iload 4, 2) := by decide +kernel
theorem dL_law_1595 : decode cL_law 1595 = .ok (.iconst 1, 1) := by decide +kernel
theorem dL_law_1596 : decode cL_law 1596 = .ok (.iadd, 1) := by decide +kernel
theorem dL_law_1597 : decode cL_law 1597 = .ok (.iaload, 1) := by decide +kernel
theorem dL_law_1598 : decode cL_law 1598 = .ok (.aload_n 0, 1) := by decide +kernel
theorem dL_law_1599 : decode cL_law 1599 = .ok (.iload 4, 2) := by decide +kernel
theorem dL_law_1601 : decode cL_law 1601 = .ok (.iconst 2, 1) := by decide +kernel
theorem dL_law_1602 : decode cL_law 1602 = .ok (.iadd, 1) := by decide +kernel
theorem dL_law_1603 : decode cL_law 1603 = .ok (.iaload, 1) := by decide +kernel
theorem dL_law_1604 : decode cL_law 1604 = .ok (.i2l, 1) := by decide +kernel
theorem dL_law_1605 : decode cL_law 1605 = .ok (.bipush 32, 2) := by decide +kernel
theorem dL_law_1607 : decode cL_law 1607 = .ok (.lshl, 1) := by decide +kernel
theorem dL_law_1608 : decode cL_law 1608 = .ok (.aload_n 0, 1) := by decide +kernel
theorem dL_law_1609 : decode cL_law 1609 = .ok (.iload 4, 2) := by decide +kernel
theorem dL_law_1611 : decode cL_law 1611 = .ok (.iconst 3, 1) := by decide +kernel
theorem dL_law_1612 : decode cL_law 1612 = .ok (.iadd, 1) := by decide +kernel
theorem dL_law_1613 : decode cL_law 1613 = .ok (.iaload, 1) := by decide +kernel
theorem dL_law_1614 : decode cL_law 1614 = .ok (.i2l, 1) := by decide +kernel
theorem dL_law_1615 : decode cL_law 1615 = .ok (.ldc2_w 192, 3) := by decide +kernel
theorem dL_law_1618 : decode cL_law 1618 = .ok (.land, 1) := by decide +kernel
theorem dL_law_1619 : decode cL_law 1619 = .ok (.lor, 1) := by decide +kernel
theorem dL_law_1620 : decode cL_law 1620 = .ok (.aload_n 3, 1) := by decide +kernel
theorem dL_law_1621 : decode cL_law 1621 = .ok (.invokestatic 194, 3) := by decide +kernel
theorem dL_law_1624 : decode cL_law 1624 = .ok (.istore 5, 2) := by decide +kernel
theorem dL_law_1626 : decode cL_law 1626 = .ok (.aload_n 2, 1) := by decide +kernel
theorem dL_law_1627 : decode cL_law 1627 = .ok (.aload_n 0, 1) := by decide +kernel
theorem dL_law_1628 : decode cL_law 1628 = .ok (.iload 4, 2) := by decide +kernel
theorem dL_law_1630 : decode cL_law 1630 = .ok (.iconst 1, 1) := by decide +kernel
theorem dL_law_1631 : decode cL_law 1631 = .ok (.iadd, 1) := by decide +kernel
theorem dL_law_1632 : decode cL_law 1632 = .ok (.iaload, 1) := by decide +kernel
theorem dL_law_1633 : decode cL_law 1633 = .ok (.aload_n 0, 1) := by decide +kernel
theorem dL_law_1634 : decode cL_law 1634 = .ok (.iload 4, 2) := by decide +kernel
theorem dL_law_1636 : decode cL_law 1636 = .ok (.iconst 2, 1) := by decide +kernel
theorem dL_law_1637 : decode cL_law 1637 = .ok (.iadd, 1) := by decide +kernel
theorem dL_law_1638 : decode cL_law 1638 = .ok (.iaload, 1) := by decide +kernel
theorem dL_law_1639 : decode cL_law 1639 = .ok (.i2l, 1) := by decide +kernel
theorem dL_law_1640 : decode cL_law 1640 = .ok (.bipush 32, 2) := by decide +kernel
theorem dL_law_1642 : decode cL_law 1642 = .ok (.lshl, 1) := by decide +kernel
theorem dL_law_1643 : decode cL_law 1643 = .ok (.aload_n 0, 1) := by decide +kernel
theorem dL_law_1644 : decode cL_law 1644 = .ok (.iload 4, 2) := by decide +kernel
theorem dL_law_1646 : decode cL_law 1646 = .ok (.iconst 3, 1) := by decide +kernel
theorem dL_law_1647 : decode cL_law 1647 = .ok (.iadd, 1) := by decide +kernel
theorem dL_law_1648 : decode cL_law 1648 = .ok (.iaload, 1) := by decide +kernel
theorem dL_law_1649 : decode cL_law 1649 = .ok (.i2l, 1) := by decide +kernel
theorem dL_law_1650 : decode cL_law 1650 = .ok (.ldc2_w 192, 3) := by decide +kernel
theorem dL_law_1653 : decode cL_law 1653 = .ok (.land, 1) := by decide +kernel
theorem dL_law_1654 : decode cL_law 1654 = .ok (.lor, 1) := by decide +kernel
theorem dL_law_1655 : decode cL_law 1655 = .ok (.invokevirtual 197, 3) := by decide +kernel
theorem dL_law_1658 : decode cL_law 1658 = .ok (.istore 6, 2) := by decide +kernel
theorem dL_law_1660 : decode cL_law 1660 = .ok (.aload_n 2, 1) := by decide +kernel
theorem dL_law_1661 : decode cL_law 1661 = .ok (.invokevirtual 110, 3) := by decide +kernel
theorem dL_law_1664 : decode cL_law 1664 = .ok (.iload 5, 2) := by decide +kernel
theorem dL_law_1666 : decode cL_law 1666 = .ok (.if_icmp .eq 5, 3) := by decide +kernel
theorem dL_law_1669 : decode cL_law 1669 = .ok (.iconst 0, 1) := by decide +kernel
theorem dL_law_1670 : decode cL_law 1670 = .ok (.ireturn, 1) := by decide +kernel
theorem dL_law_1671 : decode cL_law 1671 = .ok (.iload 5, 2) := by decide +kernel
theorem dL_law_1673 : decode cL_law 1673 = .ok (.ifCond .ne 15, 3) := by decide +kernel
theorem dL_law_1676 : decode cL_law 1676 = .ok (.aload_n 3, 1) := by decide +kernel
theorem dL_law_1677 : decode cL_law 1677 = .ok (.iconst 0, 1) := by decide +kernel
theorem dL_law_1678 : decode cL_law 1678 = .ok (.laload, 1) := by decide +kernel
theorem dL_law_1679 : decode cL_law 1679 = .ok (.iload 6, 2) := by decide +kernel
theorem dL_law_1681 : decode cL_law 1681 = .ok (.i2l, 1) := by decide +kernel
theorem dL_law_1682 : decode cL_law 1682 = .ok (.lcmp, 1) := by decide +kernel
theorem dL_law_1683 : decode cL_law 1683 = .ok (.ifCond .eq 5, 3) := by decide +kernel
theorem dL_law_1686 : decode cL_law 1686 = .ok (.iconst 0, 1) := by decide +kernel
theorem dL_law_1687 : decode cL_law 1687 = .ok (.ireturn, 1) := by decide +kernel
theorem dL_law_1688 : decode cL_law 1688 = .ok (.goto 215, 3) := by decide +kernel
theorem dL_law_1691 : decode cL_law 1691 = .ok (.aload_n 1, 1) := by decide +kernel
theorem dL_law_1692 : decode cL_law 1692 = .ok (.aload_n 0, 1) := by decide +kernel
theorem dL_law_1693 : decode cL_law 1693 = .ok (.iload 4, 2) := by decide +kernel
theorem dL_law_1695 : decode cL_law 1695 = .ok (.iconst 1, 1) := by decide +kernel
theorem dL_law_1696 : decode cL_law 1696 = .ok (.iadd, 1) := by decide +kernel
theorem dL_law_1697 : decode cL_law 1697 = .ok (.iaload, 1) := by decide +kernel
theorem dL_law_1698 : decode cL_law 1698 = .ok (.i2l, 1) := by decide +kernel
theorem dL_law_1699 : decode cL_law 1699 = .ok (.bipush 32, 2) := by decide +kernel
theorem dL_law_1701 : decode cL_law 1701 = .ok (.lshl, 1) := by decide +kernel
theorem dL_law_1702 : decode cL_law 1702 = .ok (.aload_n 0, 1) := by decide +kernel
theorem dL_law_1703 : decode cL_law 1703 = .ok (.iload 4, 2) := by decide +kernel
theorem dL_law_1705 : decode cL_law 1705 = .ok (.iconst 2, 1) := by decide +kernel
theorem dL_law_1706 : decode cL_law 1706 = .ok (.iadd, 1) := by decide +kernel
theorem dL_law_1707 : decode cL_law 1707 = .ok (.iaload, 1) := by decide +kernel
theorem dL_law_1708 : decode cL_law 1708 = .ok (.i2l, 1) := by decide +kernel
theorem dL_law_1709 : decode cL_law 1709 = .ok (.ldc2_w 192, 3) := by decide +kernel
theorem dL_law_1712 : decode cL_law 1712 = .ok (.land, 1) := by decide +kernel
theorem dL_law_1713 : decode cL_law 1713 = .ok (.lor, 1) := by decide +kernel
theorem dL_law_1714 : decode cL_law 1714 = .ok (.aload_n 0, 1) := by decide +kernel
theorem dL_law_1715 : decode cL_law 1715 = .ok (.iload 4, 2) := by decide +kernel
theorem dL_law_1717 : decode cL_law 1717 = .ok (.iconst 3, 1) := by decide +kernel
theorem dL_law_1718 : decode cL_law 1718 = .ok (.iadd, 1) := by decide +kernel
theorem dL_law_1719 : decode cL_law 1719 = .ok (.iaload, 1) := by decide +kernel
theorem dL_law_1720 : decode cL_law 1720 = .ok (.aload_n 3, 1) := by decide +kernel
theorem dL_law_1721 : decode cL_law 1721 = .ok (.invokestatic 198, 3) := by decide +kernel
theorem dL_law_1724 : decode cL_law 1724 = .ok (.istore 5, 2) := by decide +kernel
theorem dL_law_1726 : decode cL_law 1726 = .ok (.aload_n 2, 1) := by decide +kernel
theorem dL_law_1727 : decode cL_law 1727 = .ok (.aload_n 0, 1) := by decide +kernel
theorem dL_law_1728 : decode cL_law 1728 = .ok (.iload 4, 2) := by decide +kernel
theorem dL_law_1730 : decode cL_law 1730 = .ok (.iconst 1, 1) := by decide +kernel
theorem dL_law_1731 : decode cL_law 1731 = .ok (.iadd, 1) := by decide +kernel
theorem dL_law_1732 : decode cL_law 1732 = .ok (.iaload, 1) := by decide +kernel
theorem dL_law_1733 : decode cL_law 1733 = .ok (.i2l, 1) := by decide +kernel
theorem dL_law_1734 : decode cL_law 1734 = .ok (.bipush 32, 2) := by decide +kernel
theorem dL_law_1736 : decode cL_law 1736 = .ok (.lshl, 1) := by decide +kernel
theorem dL_law_1737 : decode cL_law 1737 = .ok (.aload_n 0, 1) := by decide +kernel
theorem dL_law_1738 : decode cL_law 1738 = .ok (.iload 4, 2) := by decide +kernel
theorem dL_law_1740 : decode cL_law 1740 = .ok (.iconst 2, 1) := by decide +kernel
theorem dL_law_1741 : decode cL_law 1741 = .ok (.iadd, 1) := by decide +kernel
theorem dL_law_1742 : decode cL_law 1742 = .ok (.iaload, 1) := by decide +kernel
theorem dL_law_1743 : decode cL_law 1743 = .ok (.i2l, 1) := by decide +kernel
theorem dL_law_1744 : decode cL_law 1744 = .ok (.ldc2_w 192, 3) := by decide +kernel
theorem dL_law_1747 : decode cL_law 1747 = .ok (.land, 1) := by decide +kernel
theorem dL_law_1748 : decode cL_law 1748 = .ok (.lor, 1) := by decide +kernel
theorem dL_law_1749 : decode cL_law 1749 = .ok (.aload_n 0, 1) := by decide +kernel
theorem dL_law_1750 : decode cL_law 1750 = .ok (.iload 4, 2) := by decide +kernel
theorem dL_law_1752 : decode cL_law 1752 = .ok (.iconst 3, 1) := by decide +kernel
theorem dL_law_1753 : decode cL_law 1753 = .ok (.iadd, 1) := by decide +kernel
theorem dL_law_1754 : decode cL_law 1754 = .ok (.iaload, 1) := by decide +kernel
theorem dL_law_1755 : decode cL_law 1755 = .ok (.invokevirtual 201, 3) := by decide +kernel
theorem dL_law_1758 : decode cL_law 1758 = .ok (.istore 6, 2) := by decide +kernel
theorem dL_law_1760 : decode cL_law 1760 = .ok (.aload_n 2, 1) := by decide +kernel
theorem dL_law_1761 : decode cL_law 1761 = .ok (.invokevirtual 110, 3) := by decide +kernel
theorem dL_law_1764 : decode cL_law 1764 = .ok (.iload 5, 2) := by decide +kernel
theorem dL_law_1766 : decode cL_law 1766 = .ok (.if_icmp .eq 5, 3) := by decide +kernel
theorem dL_law_1769 : decode cL_law 1769 = .ok (.iconst 0, 1) := by decide +kernel
theorem dL_law_1770 : decode cL_law 1770 = .ok (.ireturn, 1) := by decide +kernel
theorem dL_law_1771 : decode cL_law 1771 = .ok (.iload 5, 2) := by decide +kernel
theorem dL_law_1773 : decode cL_law 1773 = .ok (.ifCond .ne 15, 3) := by decide +kernel
theorem dL_law_1776 : decode cL_law 1776 = .ok (.aload_n 3, 1) := by decide +kernel
theorem dL_law_1777 : decode cL_law 1777 = .ok (.iconst 0, 1) := by decide +kernel
theorem dL_law_1778 : decode cL_law 1778 = .ok (.laload, 1) := by decide +kernel
theorem dL_law_1779 : decode cL_law 1779 = .ok (.iload 6, 2) := by decide +kernel
theorem dL_law_1781 : decode cL_law 1781 = .ok (.i2l, 1) := by decide +kernel
theorem dL_law_1782 : decode cL_law 1782 = .ok (.lcmp, 1) := by decide +kernel
theorem dL_law_1783 : decode cL_law 1783 = .ok (.ifCond .eq 5, 3) := by decide +kernel
theorem dL_law_1786 : decode cL_law 1786 = .ok (.iconst 0, 1) := by decide +kernel
theorem dL_law_1787 : decode cL_law 1787 = .ok (.ireturn, 1) := by decide +kernel
theorem dL_law_1788 : decode cL_law 1788 = .ok (.goto 115, 3) := by decide +kernel
theorem dL_law_1791 : decode cL_law 1791 = .ok (.aload_n 1, 1) := by decide +kernel
theorem dL_law_1792 : decode cL_law 1792 = .ok (.aload_n 0, 1) := by decide +kernel
theorem dL_law_1793 : decode cL_law 1793 = .ok (.iload 4, 2) := by decide +kernel
theorem dL_law_1795 : decode cL_law 1795 = .ok (.iconst 1, 1) := by decide +kernel
theorem dL_law_1796 : decode cL_law 1796 = .ok (.iadd, 1) := by decide +kernel
theorem dL_law_1797 : decode cL_law 1797 = .ok (.iaload, 1) := by decide +kernel
theorem dL_law_1798 : decode cL_law 1798 = .ok (.aload_n 3, 1) := by decide +kernel
theorem dL_law_1799 : decode cL_law 1799 = .ok (.invokestatic 202, 3) := by decide +kernel
theorem dL_law_1802 : decode cL_law 1802 = .ok (.istore 5, 2) := by decide +kernel
theorem dL_law_1804 : decode cL_law 1804 = .ok (.aload_n 2, 1) := by decide +kernel
theorem dL_law_1805 : decode cL_law 1805 = .ok (.aload_n 0, 1) := by decide +kernel
theorem dL_law_1806 : decode cL_law 1806 = .ok (.iload 4, 2) := by decide +kernel
theorem dL_law_1808 : decode cL_law 1808 = .ok (.iconst 1, 1) := by decide +kernel
theorem dL_law_1809 : decode cL_law 1809 = .ok (.iadd, 1) := by decide +kernel
theorem dL_law_1810 : decode cL_law 1810 = .ok (.iaload, 1) := by decide +kernel
theorem dL_law_1811 : decode cL_law 1811 = .ok (.invokevirtual 204, 3) := by decide +kernel
theorem dL_law_1814 : decode cL_law 1814 = .ok (.istore 6, 2) := by decide +kernel
theorem dL_law_1816 : decode cL_law 1816 = .ok (.aload_n 2, 1) := by decide +kernel
theorem dL_law_1817 : decode cL_law 1817 = .ok (.invokevirtual 110, 3) := by decide +kernel
theorem dL_law_1820 : decode cL_law 1820 = .ok (.iload 5, 2) := by decide +kernel
theorem dL_law_1822 : decode cL_law 1822 = .ok (.if_icmp .eq 5, 3) := by decide +kernel
theorem dL_law_1825 : decode cL_law 1825 = .ok (.iconst 0, 1) := by decide +kernel
theorem dL_law_1826 : decode cL_law 1826 = .ok (.ireturn, 1) := by decide +kernel
theorem dL_law_1827 : decode cL_law 1827 = .ok (.iload 5, 2) := by decide +kernel
theorem dL_law_1829 : decode cL_law 1829 = .ok (.ifCond .ne 15, 3) := by decide +kernel
theorem dL_law_1832 : decode cL_law 1832 = .ok (.aload_n 3, 1) := by decide +kernel
theorem dL_law_1833 : decode cL_law 1833 = .ok (.iconst 0, 1) := by decide +kernel
theorem dL_law_1834 : decode cL_law 1834 = .ok (.laload, 1) := by decide +kernel
theorem dL_law_1835 : decode cL_law 1835 = .ok (.iload 6, 2) := by decide +kernel
theorem dL_law_1837 : decode cL_law 1837 = .ok (.i2l, 1) := by decide +kernel
theorem dL_law_1838 : decode cL_law 1838 = .ok (.lcmp, 1) := by decide +kernel
theorem dL_law_1839 : decode cL_law 1839 = .ok (.ifCond .eq 5, 3) := by decide +kernel
theorem dL_law_1842 : decode cL_law 1842 = .ok (.iconst 0, 1) := by decide +kernel
theorem dL_law_1843 : decode cL_law 1843 = .ok (.ireturn, 1) := by decide +kernel
theorem dL_law_1844 : decode cL_law 1844 = .ok (.goto 59, 3) := by decide +kernel
theorem dL_law_1847 : decode cL_law 1847 = .ok (.aload_n 1, 1) := by decide +kernel
theorem dL_law_1848 : decode cL_law 1848 = .ok (.aload_n 0, 1) := by decide +kernel
theorem dL_law_1849 : decode cL_law 1849 = .ok (.iload 4, 2) := by decide +kernel
theorem dL_law_1851 : decode cL_law 1851 = .ok (.iconst 1, 1) := by decide +kernel
theorem dL_law_1852 : decode cL_law 1852 = .ok (.iadd, 1) := by decide +kernel
theorem dL_law_1853 : decode cL_law 1853 = .ok (.iaload, 1) := by decide +kernel
theorem dL_law_1854 : decode cL_law 1854 = .ok (.aload_n 3, 1) := by decide +kernel
theorem dL_law_1855 : decode cL_law 1855 = .ok (.invokestatic 205, 3) := by decide +kernel
theorem dL_law_1858 : decode cL_law 1858 = .ok (.istore 5, 2) := by decide +kernel
theorem dL_law_1860 : decode cL_law 1860 = .ok (.aload_n 2, 1) := by decide +kernel
theorem dL_law_1861 : decode cL_law 1861 = .ok (.aload_n 0, 1) := by decide +kernel
theorem dL_law_1862 : decode cL_law 1862 = .ok (.iload 4, 2) := by decide +kernel
theorem dL_law_1864 : decode cL_law 1864 = .ok (.iconst 1, 1) := by decide +kernel
theorem dL_law_1865 : decode cL_law 1865 = .ok (.iadd, 1) := by decide +kernel
theorem dL_law_1866 : decode cL_law 1866 = .ok (.iaload, 1) := by decide +kernel
theorem dL_law_1867 : decode cL_law 1867 = .ok (.invokevirtual 207, 3) := by decide +kernel
theorem dL_law_1870 : decode cL_law 1870 = .ok (.istore 6, 2) := by decide +kernel
theorem dL_law_1872 : decode cL_law 1872 = .ok (.aload_n 2, 1) := by decide +kernel
theorem dL_law_1873 : decode cL_law 1873 = .ok (.invokevirtual 110, 3) := by decide +kernel
theorem dL_law_1876 : decode cL_law 1876 = .ok (.iload 5, 2) := by decide +kernel
theorem dL_law_1878 : decode cL_law 1878 = .ok (.if_icmp .eq 5, 3) := by decide +kernel
theorem dL_law_1881 : decode cL_law 1881 = .ok (.iconst 0, 1) := by decide +kernel
theorem dL_law_1882 : decode cL_law 1882 = .ok (.ireturn, 1) := by decide +kernel
theorem dL_law_1883 : decode cL_law 1883 = .ok (.iload 5, 2) := by decide +kernel
theorem dL_law_1885 : decode cL_law 1885 = .ok (.ifCond .ne 15, 3) := by decide +kernel
theorem dL_law_1888 : decode cL_law 1888 = .ok (.aload_n 3, 1) := by decide +kernel
theorem dL_law_1889 : decode cL_law 1889 = .ok (.iconst 0, 1) := by decide +kernel
theorem dL_law_1890 : decode cL_law 1890 = .ok (.laload, 1) := by decide +kernel
theorem dL_law_1891 : decode cL_law 1891 = .ok (.iload 6, 2) := by decide +kernel
theorem dL_law_1893 : decode cL_law 1893 = .ok (.i2l, 1) := by decide +kernel
theorem dL_law_1894 : decode cL_law 1894 = .ok (.lcmp, 1) := by decide +kernel
theorem dL_law_1895 : decode cL_law 1895 = .ok (.ifCond .eq 5, 3) := by decide +kernel
theorem dL_law_1898 : decode cL_law 1898 = .ok (.iconst 0, 1) := by decide +kernel
theorem dL_law_1899 : decode cL_law 1899 = .ok (.ireturn, 1) := by decide +kernel
theorem dL_law_1900 : decode cL_law 1900 = .ok (.goto 3, 3) := by decide +kernel
theorem dL_law_1903 : decode cL_law 1903 = .ok (.iinc 4 4, 3) := by decide +kernel
theorem dL_law_1906 : decode cL_law 1906 = .ok (.goto (-1883), 3) := by decide +kernel
theorem dL_law_1909 : decode cL_law 1909 = .ok (.iconst 1, 1) := by decide +kernel
theorem dL_law_1910 : decode cL_law 1910 = .ok (.ireturn, 1) := by decide +kernel
