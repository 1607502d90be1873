/-! the law's loop, by program out of its bytecode -/
theorem law_k1 {v w : Int32} {k : Nat} (e : v = Int32.ofNat (4 * k)) (h : w = v + (4 : Int32)) : w = Int32.ofNat (4 * (k + 1)) := by
  rw [h, e, Nat.mul_add, Int32.ofNat_add]
  rfl
theorem law_k2 {v : Int32} {k L : Nat} (hL : L ≤ 2048) (hk : k ≤ 512) (e : v = Int32.ofNat (4 * k)) (h : ¬ (Int32.ofNat L - (4 : Int32)) < v) : k + 1 ≤ 512 := by
  apply Classical.byContradiction
  intro hq
  apply h
  have h1 : (Int32.ofNat L).toInt = L := Int32.toInt_ofNat_of_lt (by omega)
  have h2 : (4 : Int32).toInt = 4 := rfl
  have h3 : v.toInt = 2048 := by rw [e, Int32.toInt_ofNat_of_lt (by omega)]; omega
  rw [fa_lt, fb_subI (by omega) (by omega), h1, h2, h3]
  omega
theorem wwL_104 : WSW RL 104 yL_append cL_append 4 (some .int) [(0, 9, 12, 13), (0, 9, 15, 15)] 3 := ⟨(lg 435 (by decide +kernel) rfl), (lg 436 (by decide +kernel) rfl), (lg 43 (by decide +kernel) rfl), (lg 437 (by decide +kernel) rfl), ⟨by decide +kernel, by decide +kernel⟩, by decide +kernel⟩
theorem wvL_109 : WV RL 109 yX9_append cX9_append 2 (some .int) 1 := ⟨(lg 992 (by decide +kernel) rfl), (lg 993 (by decide +kernel) rfl), (lg 994 (by decide +kernel) rfl), (lg 54 (by decide +kernel) rfl), (lg 995 (by decide +kernel) rfl), ⟨by decide +kernel, by decide +kernel⟩, by decide +kernel⟩
theorem wvL_110 : WV RL 110 yX9_thrown cX9_thrown 1 (some .int) 0 := ⟨(lg 988 (by decide +kernel) rfl), (lg 989 (by decide +kernel) rfl), (lg 990 (by decide +kernel) rfl), (lg 54 (by decide +kernel) rfl), (lg 991 (by decide +kernel) rfl), ⟨by decide +kernel, by decide +kernel⟩, by decide +kernel⟩
theorem wvL_113 : WV RL 113 yX8_clearText cX8_clearText 2 (some .int) 0 := ⟨(lg 371 (by decide +kernel) rfl), (lg 372 (by decide +kernel) rfl), (lg 373 (by decide +kernel) rfl), (lg 44 (by decide +kernel) rfl), (lg 374 (by decide +kernel) rfl), ⟨by decide +kernel, by decide +kernel⟩, by decide +kernel⟩
theorem wvL_116 : WV RL 116 yX9_clearText cX9_clearText 2 (some .int) 0 := ⟨(lg 1001 (by decide +kernel) rfl), (lg 1002 (by decide +kernel) rfl), (lg 1003 (by decide +kernel) rfl), (lg 54 (by decide +kernel) rfl), (lg 1004 (by decide +kernel) rfl), ⟨by decide +kernel, by decide +kernel⟩, by decide +kernel⟩
theorem wvL_117 : WV RL 117 yX8_errorPosition cX8_errorPosition 1 (some .int) 0 := ⟨(lg 375 (by decide +kernel) rfl), (lg 376 (by decide +kernel) rfl), (lg 377 (by decide +kernel) rfl), (lg 44 (by decide +kernel) rfl), (lg 378 (by decide +kernel) rfl), ⟨by decide +kernel, by decide +kernel⟩, by decide +kernel⟩
theorem wvL_120 : WV RL 120 yX9_errorPosition cX9_errorPosition 1 (some .int) 0 := ⟨(lg 1005 (by decide +kernel) rfl), (lg 1006 (by decide +kernel) rfl), (lg 1007 (by decide +kernel) rfl), (lg 54 (by decide +kernel) rfl), (lg 1008 (by decide +kernel) rfl), ⟨by decide +kernel, by decide +kernel⟩, by decide +kernel⟩
theorem wwL_121 : WSW RL 121 yL_load cL_load 3 (some .int) [(0, 8, 11, 15)] 2 := ⟨(lg 535 (by decide +kernel) rfl), (lg 536 (by decide +kernel) rfl), (lg 43 (by decide +kernel) rfl), (lg 537 (by decide +kernel) rfl), ⟨by decide +kernel, by decide +kernel⟩, by decide +kernel⟩
theorem wvL_124 : WV RL 124 yX9_load cX9_load 1 (some .int) 0 := ⟨(lg 1032 (by decide +kernel) rfl), (lg 1033 (by decide +kernel) rfl), (lg 1034 (by decide +kernel) rfl), (lg 54 (by decide +kernel) rfl), (lg 1035 (by decide +kernel) rfl), ⟨by decide +kernel, by decide +kernel⟩, by decide +kernel⟩
theorem wwL_125 : WSW RL 125 yL_about cL_about 4 (some .int) [(0, 9, 12, 13)] 3 := ⟨(lg 547 (by decide +kernel) rfl), (lg 548 (by decide +kernel) rfl), (lg 43 (by decide +kernel) rfl), (lg 549 (by decide +kernel) rfl), ⟨by decide +kernel, by decide +kernel⟩, by decide +kernel⟩
theorem wvL_127 : WV RL 127 yX9_about cX9_about 2 (some .int) 1 := ⟨(lg 1039 (by decide +kernel) rfl), (lg 1040 (by decide +kernel) rfl), (lg 1041 (by decide +kernel) rfl), (lg 54 (by decide +kernel) rfl), (lg 1042 (by decide +kernel) rfl), ⟨by decide +kernel, by decide +kernel⟩, by decide +kernel⟩
theorem wwL_128 : WSW RL 128 yL_boiler cL_boiler 5 (some .int) [(0, 10, 13, 28), (0, 10, 17, 13)] 4 := ⟨(lg 562 (by decide +kernel) rfl), (lg 563 (by decide +kernel) rfl), (lg 43 (by decide +kernel) rfl), (lg 564 (by decide +kernel) rfl), ⟨by decide +kernel, by decide +kernel⟩, by decide +kernel⟩
theorem wvL_131 : WV RL 131 yX9_boiler cX9_boiler 3 (some .int) 2 := ⟨(lg 1052 (by decide +kernel) rfl), (lg 1053 (by decide +kernel) rfl), (lg 1054 (by decide +kernel) rfl), (lg 54 (by decide +kernel) rfl), (lg 1055 (by decide +kernel) rfl), ⟨by decide +kernel, by decide +kernel⟩, by decide +kernel⟩
theorem wwL_132 : WSW RL 132 yL_flue cL_flue 5 (some .int) [(0, 10, 13, 28), (0, 10, 17, 13)] 4 := ⟨(lg 595 (by decide +kernel) rfl), (lg 596 (by decide +kernel) rfl), (lg 43 (by decide +kernel) rfl), (lg 597 (by decide +kernel) rfl), ⟨by decide +kernel, by decide +kernel⟩, by decide +kernel⟩
theorem wvL_134 : WV RL 134 yX9_flue cX9_flue 5 (some .int) 2 := ⟨(lg 1072 (by decide +kernel) rfl), (lg 1073 (by decide +kernel) rfl), (lg 1074 (by decide +kernel) rfl), (lg 54 (by decide +kernel) rfl), (lg 1075 (by decide +kernel) rfl), ⟨by decide +kernel, by decide +kernel⟩, by decide +kernel⟩
theorem wwL_135 : WSW RL 135 yL_layer cL_layer 4 (some .int) [(0, 9, 12, 28)] 3 := ⟨(lg 612 (by decide +kernel) rfl), (lg 613 (by decide +kernel) rfl), (lg 43 (by decide +kernel) rfl), (lg 614 (by decide +kernel) rfl), ⟨by decide +kernel, by decide +kernel⟩, by decide +kernel⟩
theorem wvL_137 : WV RL 137 yX9_layer cX9_layer 2 (some .int) 1 := ⟨(lg 1077 (by decide +kernel) rfl), (lg 1078 (by decide +kernel) rfl), (lg 1079 (by decide +kernel) rfl), (lg 54 (by decide +kernel) rfl), (lg 1080 (by decide +kernel) rfl), ⟨by decide +kernel, by decide +kernel⟩, by decide +kernel⟩
theorem wwL_138 : WSW RL 138 yL_account cL_account 4 (some .int) [(0, 9, 12, 13)] 3 := ⟨(lg 620 (by decide +kernel) rfl), (lg 621 (by decide +kernel) rfl), (lg 43 (by decide +kernel) rfl), (lg 622 (by decide +kernel) rfl), ⟨by decide +kernel, by decide +kernel⟩, by decide +kernel⟩
theorem wvL_140 : WV RL 140 yX9_account cX9_account 2 (some .int) 1 := ⟨(lg 1081 (by decide +kernel) rfl), (lg 1082 (by decide +kernel) rfl), (lg 1083 (by decide +kernel) rfl), (lg 54 (by decide +kernel) rfl), (lg 1084 (by decide +kernel) rfl), ⟨by decide +kernel, by decide +kernel⟩, by decide +kernel⟩
theorem wwL_141 : WSW RL 141 yL_tick cL_tick 5 (some .int) [(0, 10, 13, 13)] 4 := ⟨(lg 631 (by decide +kernel) rfl), (lg 632 (by decide +kernel) rfl), (lg 43 (by decide +kernel) rfl), (lg 633 (by decide +kernel) rfl), ⟨by decide +kernel, by decide +kernel⟩, by decide +kernel⟩
theorem wvL_143 : WV RL 143 yX9_tick cX9_tick 3 (some .int) 2 := ⟨(lg 1090 (by decide +kernel) rfl), (lg 1091 (by decide +kernel) rfl), (lg 1092 (by decide +kernel) rfl), (lg 54 (by decide +kernel) rfl), (lg 1093 (by decide +kernel) rfl), ⟨by decide +kernel, by decide +kernel⟩, by decide +kernel⟩
theorem wwL_144 : WSW RL 144 yL_draw cL_draw 4 (some .int) [(0, 9, 12, 13)] 3 := ⟨(lg 727 (by decide +kernel) rfl), (lg 728 (by decide +kernel) rfl), (lg 43 (by decide +kernel) rfl), (lg 729 (by decide +kernel) rfl), ⟨by decide +kernel, by decide +kernel⟩, by decide +kernel⟩
theorem wvL_146 : WV RL 146 yX9_draw cX9_draw 2 (some .int) 1 := ⟨(lg 1149 (by decide +kernel) rfl), (lg 1150 (by decide +kernel) rfl), (lg 1151 (by decide +kernel) rfl), (lg 54 (by decide +kernel) rfl), (lg 1152 (by decide +kernel) rfl), ⟨by decide +kernel, by decide +kernel⟩, by decide +kernel⟩
theorem wwL_147 : WSW RL 147 yL_set cL_set 5 (some .int) [(0, 10, 13, 13)] 4 := ⟨(lg 735 (by decide +kernel) rfl), (lg 736 (by decide +kernel) rfl), (lg 43 (by decide +kernel) rfl), (lg 737 (by decide +kernel) rfl), ⟨by decide +kernel, by decide +kernel⟩, by decide +kernel⟩
theorem wvL_149 : WV RL 149 yX9_set cX9_set 4 (some .int) 2 := ⟨(lg 1154 (by decide +kernel) rfl), (lg 1155 (by decide +kernel) rfl), (lg 1156 (by decide +kernel) rfl), (lg 54 (by decide +kernel) rfl), (lg 1157 (by decide +kernel) rfl), ⟨by decide +kernel, by decide +kernel⟩, by decide +kernel⟩
theorem wwL_150 : WSW RL 150 yL_setFlue cL_setFlue 5 (some .int) [(0, 10, 13, 28)] 4 := ⟨(lg 750 (by decide +kernel) rfl), (lg 751 (by decide +kernel) rfl), (lg 43 (by decide +kernel) rfl), (lg 752 (by decide +kernel) rfl), ⟨by decide +kernel, by decide +kernel⟩, by decide +kernel⟩
theorem wvL_153 : WV RL 153 yX9_setFlue cX9_setFlue 3 (some .int) 2 := ⟨(lg 1167 (by decide +kernel) rfl), (lg 1168 (by decide +kernel) rfl), (lg 1169 (by decide +kernel) rfl), (lg 54 (by decide +kernel) rfl), (lg 1170 (by decide +kernel) rfl), ⟨by decide +kernel, by decide +kernel⟩, by decide +kernel⟩
theorem wwL_154 : WSW RL 154 yL_setDraft cL_setDraft 5 (some .int) [(0, 10, 13, 28), (0, 10, 17, 13)] 4 := ⟨(lg 761 (by decide +kernel) rfl), (lg 762 (by decide +kernel) rfl), (lg 43 (by decide +kernel) rfl), (lg 763 (by decide +kernel) rfl), ⟨by decide +kernel, by decide +kernel⟩, by decide +kernel⟩
theorem wvL_156 : WV RL 156 yX9_setDraft cX9_setDraft 4 (some .int) 2 := ⟨(lg 1175 (by decide +kernel) rfl), (lg 1176 (by decide +kernel) rfl), (lg 1177 (by decide +kernel) rfl), (lg 54 (by decide +kernel) rfl), (lg 1178 (by decide +kernel) rfl), ⟨by decide +kernel, by decide +kernel⟩, by decide +kernel⟩
theorem wwL_157 : WSW RL 157 yL_lock cL_lock 4 (some .int) [(0, 9, 12, 28), (0, 9, 15, 15)] 3 := ⟨(lg 768 (by decide +kernel) rfl), (lg 769 (by decide +kernel) rfl), (lg 43 (by decide +kernel) rfl), (lg 770 (by decide +kernel) rfl), ⟨by decide +kernel, by decide +kernel⟩, by decide +kernel⟩
theorem wvL_159 : WV RL 159 yX9_lock cX9_lock 3 (some .int) 1 := ⟨(lg 1180 (by decide +kernel) rfl), (lg 1181 (by decide +kernel) rfl), (lg 1182 (by decide +kernel) rfl), (lg 54 (by decide +kernel) rfl), (lg 1183 (by decide +kernel) rfl), ⟨by decide +kernel, by decide +kernel⟩, by decide +kernel⟩
theorem wwL_160 : WSW RL 160 yL_unlock cL_unlock 4 (some .int) [(0, 9, 12, 28), (0, 9, 15, 15)] 3 := ⟨(lg 777 (by decide +kernel) rfl), (lg 778 (by decide +kernel) rfl), (lg 43 (by decide +kernel) rfl), (lg 779 (by decide +kernel) rfl), ⟨by decide +kernel, by decide +kernel⟩, by decide +kernel⟩
theorem wvL_162 : WV RL 162 yX9_unlock cX9_unlock 2 (some .int) 1 := ⟨(lg 1187 (by decide +kernel) rfl), (lg 1188 (by decide +kernel) rfl), (lg 1189 (by decide +kernel) rfl), (lg 54 (by decide +kernel) rfl), (lg 1190 (by decide +kernel) rfl), ⟨by decide +kernel, by decide +kernel⟩, by decide +kernel⟩
theorem wwL_163 : WSW RL 163 yL_putOff cL_putOff 4 (some .int) [(0, 9, 12, 28), (0, 9, 15, 15)] 3 := ⟨(lg 785 (by decide +kernel) rfl), (lg 786 (by decide +kernel) rfl), (lg 43 (by decide +kernel) rfl), (lg 787 (by decide +kernel) rfl), ⟨by decide +kernel, by decide +kernel⟩, by decide +kernel⟩
theorem wvL_165 : WV RL 165 yX9_putOff cX9_putOff 2 (some .int) 1 := ⟨(lg 1191 (by decide +kernel) rfl), (lg 1192 (by decide +kernel) rfl), (lg 1193 (by decide +kernel) rfl), (lg 54 (by decide +kernel) rfl), (lg 1194 (by decide +kernel) rfl), ⟨by decide +kernel, by decide +kernel⟩, by decide +kernel⟩
theorem wwL_166 : WSW RL 166 yL_undo cL_undo 3 (some .int) [(0, 8, 11, 15)] 2 := ⟨(lg 793 (by decide +kernel) rfl), (lg 794 (by decide +kernel) rfl), (lg 43 (by decide +kernel) rfl), (lg 795 (by decide +kernel) rfl), ⟨by decide +kernel, by decide +kernel⟩, by decide +kernel⟩
theorem wvL_168 : WV RL 168 yX9_undo cX9_undo 1 (some .int) 0 := ⟨(lg 1195 (by decide +kernel) rfl), (lg 1196 (by decide +kernel) rfl), (lg 1197 (by decide +kernel) rfl), (lg 54 (by decide +kernel) rfl), (lg 1198 (by decide +kernel) rfl), ⟨by decide +kernel, by decide +kernel⟩, by decide +kernel⟩
theorem wvL_169 : WV RL 169 yX8_next cX8_next 1 (some .int) 0 := ⟨(lg 411 (by decide +kernel) rfl), (lg 412 (by decide +kernel) rfl), (lg 413 (by decide +kernel) rfl), (lg 44 (by decide +kernel) rfl), (lg 414 (by decide +kernel) rfl), ⟨by decide +kernel, by decide +kernel⟩, by decide +kernel⟩
theorem wvL_172 : WV RL 172 yX9_next cX9_next 1 (some .int) 0 := ⟨(lg 1199 (by decide +kernel) rfl), (lg 1200 (by decide +kernel) rfl), (lg 1201 (by decide +kernel) rfl), (lg 54 (by decide +kernel) rfl), (lg 1202 (by decide +kernel) rfl), ⟨by decide +kernel, by decide +kernel⟩, by decide +kernel⟩
theorem wwL_173 : WSW RL 173 yL_whyNot cL_whyNot 4 (some .int) [(0, 9, 12, 28)] 3 := ⟨(lg 805 (by decide +kernel) rfl), (lg 806 (by decide +kernel) rfl), (lg 43 (by decide +kernel) rfl), (lg 807 (by decide +kernel) rfl), ⟨by decide +kernel, by decide +kernel⟩, by decide +kernel⟩
theorem wvL_175 : WV RL 175 yX9_whyNot cX9_whyNot 3 (some .int) 1 := ⟨(lg 1203 (by decide +kernel) rfl), (lg 1204 (by decide +kernel) rfl), (lg 1205 (by decide +kernel) rfl), (lg 54 (by decide +kernel) rfl), (lg 1206 (by decide +kernel) rfl), ⟨by decide +kernel, by decide +kernel⟩, by decide +kernel⟩
theorem wwL_176 : WSW RL 176 yL_smallestSet cL_smallestSet 5 (some .int) [(0, 10, 13, 13)] 4 := ⟨(lg 813 (by decide +kernel) rfl), (lg 814 (by decide +kernel) rfl), (lg 43 (by decide +kernel) rfl), (lg 815 (by decide +kernel) rfl), ⟨by decide +kernel, by decide +kernel⟩, by decide +kernel⟩
theorem wvL_178 : WV RL 178 yX9_smallestSet cX9_smallestSet 12 (some .int) 2 := ⟨(lg 1207 (by decide +kernel) rfl), (lg 1208 (by decide +kernel) rfl), (lg 1209 (by decide +kernel) rfl), (lg 54 (by decide +kernel) rfl), (lg 1210 (by decide +kernel) rfl), ⟨by decide +kernel, by decide +kernel⟩, by decide +kernel⟩
theorem wwL_179 : WSW RL 179 yL_ahead cL_ahead 6 (some .int) [(0, 12, 15, 13)] 5 := ⟨(lg 843 (by decide +kernel) rfl), (lg 844 (by decide +kernel) rfl), (lg 43 (by decide +kernel) rfl), (lg 845 (by decide +kernel) rfl), ⟨by decide +kernel, by decide +kernel⟩, by decide +kernel⟩
theorem wvL_182 : WV RL 182 yX9_ahead cX9_ahead 7 (some .int) 3 := ⟨(lg 1212 (by decide +kernel) rfl), (lg 1213 (by decide +kernel) rfl), (lg 1214 (by decide +kernel) rfl), (lg 54 (by decide +kernel) rfl), (lg 1215 (by decide +kernel) rfl), ⟨by decide +kernel, by decide +kernel⟩, by decide +kernel⟩
theorem wwL_183 : WSW RL 183 yL_warmAfter cL_warmAfter 5 (some .int) [(0, 10, 13, 13)] 4 := ⟨(lg 857 (by decide +kernel) rfl), (lg 858 (by decide +kernel) rfl), (lg 43 (by decide +kernel) rfl), (lg 859 (by decide +kernel) rfl), ⟨by decide +kernel, by decide +kernel⟩, by decide +kernel⟩
theorem wvL_185 : WV RL 185 yX9_warmAfter cX9_warmAfter 4 (some .int) 2 := ⟨(lg 1221 (by decide +kernel) rfl), (lg 1222 (by decide +kernel) rfl), (lg 1223 (by decide +kernel) rfl), (lg 54 (by decide +kernel) rfl), (lg 1224 (by decide +kernel) rfl), ⟨by decide +kernel, by decide +kernel⟩, by decide +kernel⟩
theorem wwL_186 : WSW RL 186 yL_bearable cL_bearable 5 (some .int) [(0, 10, 13, 13)] 4 := ⟨(lg 864 (by decide +kernel) rfl), (lg 865 (by decide +kernel) rfl), (lg 43 (by decide +kernel) rfl), (lg 866 (by decide +kernel) rfl), ⟨by decide +kernel, by decide +kernel⟩, by decide +kernel⟩
theorem wvL_188 : WV RL 188 yX9_bearable cX9_bearable 6 (some .int) 2 := ⟨(lg 1225 (by decide +kernel) rfl), (lg 1226 (by decide +kernel) rfl), (lg 1227 (by decide +kernel) rfl), (lg 54 (by decide +kernel) rfl), (lg 1228 (by decide +kernel) rfl), ⟨by decide +kernel, by decide +kernel⟩, by decide +kernel⟩
theorem wwL_189 : WSW RL 189 yL_cheapestPurge cL_cheapestPurge 5 (some .int) [(0, 10, 13, 13)] 4 := ⟨(lg 875 (by decide +kernel) rfl), (lg 876 (by decide +kernel) rfl), (lg 43 (by decide +kernel) rfl), (lg 877 (by decide +kernel) rfl), ⟨by decide +kernel, by decide +kernel⟩, by decide +kernel⟩
theorem wvL_191 : WV RL 191 yX9_cheapestPurge cX9_cheapestPurge 8 (some .int) 2 := ⟨(lg 1230 (by decide +kernel) rfl), (lg 1231 (by decide +kernel) rfl), (lg 1232 (by decide +kernel) rfl), (lg 54 (by decide +kernel) rfl), (lg 1233 (by decide +kernel) rfl), ⟨by decide +kernel, by decide +kernel⟩, by decide +kernel⟩
theorem kcL_192 : Cond.constantLong RL 192 4294967295 ∈ lw_g := lg 1259 (by decide +kernel) rfl
theorem wwL_194 : WSW RL 194 yL_runScript cL_runScript 6 (some .int) [(0, 11, 14, 13)] 4 := ⟨(lg 882 (by decide +kernel) rfl), (lg 883 (by decide +kernel) rfl), (lg 43 (by decide +kernel) rfl), (lg 884 (by decide +kernel) rfl), ⟨by decide +kernel, by decide +kernel⟩, by decide +kernel⟩
theorem wvL_197 : WV RL 197 yX9_runScript cX9_runScript 10 (some .int) 2 := ⟨(lg 1234 (by decide +kernel) rfl), (lg 1235 (by decide +kernel) rfl), (lg 1236 (by decide +kernel) rfl), (lg 54 (by decide +kernel) rfl), (lg 1237 (by decide +kernel) rfl), ⟨by decide +kernel, by decide +kernel⟩, by decide +kernel⟩
theorem wwL_198 : WSW RL 198 yL_simulate cL_simulate 6 (some .int) [(0, 11, 14, 13)] 4 := ⟨(lg 899 (by decide +kernel) rfl), (lg 900 (by decide +kernel) rfl), (lg 43 (by decide +kernel) rfl), (lg 901 (by decide +kernel) rfl), ⟨by decide +kernel, by decide +kernel⟩, by decide +kernel⟩
theorem wvL_201 : WV RL 201 yX9_simulate cX9_simulate 9 (some .int) 2 := ⟨(lg 1245 (by decide +kernel) rfl), (lg 1246 (by decide +kernel) rfl), (lg 1247 (by decide +kernel) rfl), (lg 54 (by decide +kernel) rfl), (lg 1248 (by decide +kernel) rfl), ⟨by decide +kernel, by decide +kernel⟩, by decide +kernel⟩
theorem wwL_202 : WSW RL 202 yL_save cL_save 4 (some .int) [(0, 9, 12, 28)] 3 := ⟨(lg 908 (by decide +kernel) rfl), (lg 909 (by decide +kernel) rfl), (lg 43 (by decide +kernel) rfl), (lg 910 (by decide +kernel) rfl), ⟨by decide +kernel, by decide +kernel⟩, by decide +kernel⟩
theorem wvL_204 : WV RL 204 yX9_save cX9_save 2 (some .int) 1 := ⟨(lg 1251 (by decide +kernel) rfl), (lg 1252 (by decide +kernel) rfl), (lg 1253 (by decide +kernel) rfl), (lg 54 (by decide +kernel) rfl), (lg 1254 (by decide +kernel) rfl), ⟨by decide +kernel, by decide +kernel⟩, by decide +kernel⟩
theorem wwL_205 : WSW RL 205 yL_restore cL_restore 4 (some .int) [(0, 9, 12, 28), (0, 9, 15, 15)] 3 := ⟨(lg 919 (by decide +kernel) rfl), (lg 920 (by decide +kernel) rfl), (lg 43 (by decide +kernel) rfl), (lg 921 (by decide +kernel) rfl), ⟨by decide +kernel, by decide +kernel⟩, by decide +kernel⟩
theorem wvL_207 : WV RL 207 yX9_restore cX9_restore 2 (some .int) 1 := ⟨(lg 1255 (by decide +kernel) rfl), (lg 1256 (by decide +kernel) rfl), (lg 1257 (by decide +kernel) rfl), (lg 54 (by decide +kernel) rfl), (lg 1258 (by decide +kernel) rfl), ⟨by decide +kernel, by decide +kernel⟩, by decide +kernel⟩
def K_L_0 (xs : Nat → Int32) (L : Nat) (v1 : Int32) (C2 : Mem) : Option ((Int32 × Mem) ⊕ (Int32 × Mem)) :=
  gi (v1 + (1 : Int32)) L (
  b2 (F_L_append (xs ((v1 + (1 : Int32))).toNatClampNeg) C2) fun r37 C38 =>
  gi (v1 + (1 : Int32)) L (
  b2 (F_X9_append (xs ((v1 + (1 : Int32))).toNatClampNeg) C38) fun r41 C42 =>
  b2 (F_X9_thrown  C42) fun r44 C45 =>
  (if r44 = r37 then (
  (if r37 = 0 then (
  (if (lg_cmp ((C45 40 0).toInt64) ((r41).toInt64)) = 0 then (
  nm (v1 + (4 : Int32)) fun v51 =>
  some (Sum.inl (v51, C45))) else (
  none))) else (
  nm (v1 + (4 : Int32)) fun v49 =>
  some (Sum.inl (v49, C45))))) else (
  none))))
def K_L_1 (v1 : Int32) (C2 : Mem) : Option ((Int32 × Mem) ⊕ (Int32 × Mem)) :=
  b2 (F_X8_clearText  C2) fun r52 C53 =>
  b2 (F_X9_clearText  C53) fun r55 C56 =>
  (if r52 = r55 then (
  nm (v1 + (4 : Int32)) fun v59 =>
  some (Sum.inl (v59, C56))) else (
  none))
def K_L_2 (v1 : Int32) (C2 : Mem) : Option ((Int32 × Mem) ⊕ (Int32 × Mem)) :=
  b2 (F_X8_errorPosition  C2) fun r60 C61 =>
  b2 (F_X9_errorPosition  C61) fun r63 C64 =>
  (if r60 = r63 then (
  nm (v1 + (4 : Int32)) fun v67 =>
  some (Sum.inl (v67, C64))) else (
  none))
def K_L_3 (v1 : Int32) (C2 : Mem) : Option ((Int32 × Mem) ⊕ (Int32 × Mem)) :=
  b2 (F_L_load  C2) fun r68 C69 =>
  b2 (F_X9_load  C69) fun r71 C72 =>
  b2 (F_X9_thrown  C72) fun r74 C75 =>
  (if r74 = r68 then (
  (if r68 = 0 then (
  (if (lg_cmp ((C75 40 0).toInt64) ((r71).toInt64)) = 0 then (
  nm (v1 + (4 : Int32)) fun v81 =>
  some (Sum.inl (v81, C75))) else (
  none))) else (
  nm (v1 + (4 : Int32)) fun v79 =>
  some (Sum.inl (v79, C75))))) else (
  none))
def K_L_4 (xs : Nat → Int32) (L : Nat) (v1 : Int32) (C2 : Mem) : Option ((Int32 × Mem) ⊕ (Int32 × Mem)) :=
  gi (v1 + (1 : Int32)) L (
  b2 (F_L_about (xs ((v1 + (1 : Int32))).toNatClampNeg) C2) fun r83 C84 =>
  gi (v1 + (1 : Int32)) L (
  b2 (F_X9_about (xs ((v1 + (1 : Int32))).toNatClampNeg) C84) fun r87 C88 =>
  b2 (F_X9_thrown  C88) fun r90 C91 =>
  (if r90 = r83 then (
  (if r83 = 0 then (
  (if (lg_cmp ((C91 40 0).toInt64) ((r87).toInt64)) = 0 then (
  nm (v1 + (4 : Int32)) fun v97 =>
  some (Sum.inl (v97, C91))) else (
  none))) else (
  nm (v1 + (4 : Int32)) fun v95 =>
  some (Sum.inl (v95, C91))))) else (
  none))))
def K_L_5 (xs : Nat → Int32) (L : Nat) (v1 : Int32) (C2 : Mem) : Option ((Int32 × Mem) ⊕ (Int32 × Mem)) :=
  gi (v1 + (1 : Int32)) L (
  gi (v1 + (2 : Int32)) L (
  b2 (F_L_boiler (xs ((v1 + (1 : Int32))).toNatClampNeg) (xs ((v1 + (2 : Int32))).toNatClampNeg) C2) fun r100 C101 =>
  gi (v1 + (1 : Int32)) L (
  gi (v1 + (2 : Int32)) L (
  b2 (F_X9_boiler (xs ((v1 + (1 : Int32))).toNatClampNeg) (xs ((v1 + (2 : Int32))).toNatClampNeg) C101) fun r105 C106 =>
  b2 (F_X9_thrown  C106) fun r108 C109 =>
  (if r108 = r100 then (
  (if r100 = 0 then (
  (if (lg_cmp ((C109 40 0).toInt64) ((r105).toInt64)) = 0 then (
  nm (v1 + (4 : Int32)) fun v115 =>
  some (Sum.inl (v115, C109))) else (
  none))) else (
  nm (v1 + (4 : Int32)) fun v113 =>
  some (Sum.inl (v113, C109))))) else (
  none))))))
def K_L_6 (xs : Nat → Int32) (L : Nat) (v1 : Int32) (C2 : Mem) : Option ((Int32 × Mem) ⊕ (Int32 × Mem)) :=
  gi (v1 + (1 : Int32)) L (
  gi (v1 + (2 : Int32)) L (
  b2 (F_L_flue (xs ((v1 + (1 : Int32))).toNatClampNeg) (xs ((v1 + (2 : Int32))).toNatClampNeg) C2) fun r118 C119 =>
  gi (v1 + (1 : Int32)) L (
  gi (v1 + (2 : Int32)) L (
  b2 (F_X9_flue (xs ((v1 + (1 : Int32))).toNatClampNeg) (xs ((v1 + (2 : Int32))).toNatClampNeg) C119) fun r123 C124 =>
  b2 (F_X9_thrown  C124) fun r126 C127 =>
  (if r126 = r118 then (
  (if r118 = 0 then (
  (if (lg_cmp ((C127 40 0).toInt64) ((r123).toInt64)) = 0 then (
  nm (v1 + (4 : Int32)) fun v133 =>
  some (Sum.inl (v133, C127))) else (
  none))) else (
  nm (v1 + (4 : Int32)) fun v131 =>
  some (Sum.inl (v131, C127))))) else (
  none))))))
def K_L_7 (xs : Nat → Int32) (L : Nat) (v1 : Int32) (C2 : Mem) : Option ((Int32 × Mem) ⊕ (Int32 × Mem)) :=
  gi (v1 + (1 : Int32)) L (
  b2 (F_L_layer (xs ((v1 + (1 : Int32))).toNatClampNeg) C2) fun r135 C136 =>
  gi (v1 + (1 : Int32)) L (
  b2 (F_X9_layer (xs ((v1 + (1 : Int32))).toNatClampNeg) C136) fun r139 C140 =>
  b2 (F_X9_thrown  C140) fun r142 C143 =>
  (if r142 = r135 then (
  (if r135 = 0 then (
  (if (lg_cmp ((C143 40 0).toInt64) ((r139).toInt64)) = 0 then (
  nm (v1 + (4 : Int32)) fun v149 =>
  some (Sum.inl (v149, C143))) else (
  none))) else (
  nm (v1 + (4 : Int32)) fun v147 =>
  some (Sum.inl (v147, C143))))) else (
  none))))
def K_L_8 (xs : Nat → Int32) (L : Nat) (v1 : Int32) (C2 : Mem) : Option ((Int32 × Mem) ⊕ (Int32 × Mem)) :=
  gi (v1 + (1 : Int32)) L (
  b2 (F_L_account (xs ((v1 + (1 : Int32))).toNatClampNeg) C2) fun r151 C152 =>
  gi (v1 + (1 : Int32)) L (
  b2 (F_X9_account (xs ((v1 + (1 : Int32))).toNatClampNeg) C152) fun r155 C156 =>
  b2 (F_X9_thrown  C156) fun r158 C159 =>
  (if r158 = r151 then (
  (if r151 = 0 then (
  (if (lg_cmp ((C159 40 0).toInt64) ((r155).toInt64)) = 0 then (
  nm (v1 + (4 : Int32)) fun v165 =>
  some (Sum.inl (v165, C159))) else (
  none))) else (
  nm (v1 + (4 : Int32)) fun v163 =>
  some (Sum.inl (v163, C159))))) else (
  none))))
def K_L_9 (xs : Nat → Int32) (L : Nat) (v1 : Int32) (C2 : Mem) : Option ((Int32 × Mem) ⊕ (Int32 × Mem)) :=
  gi (v1 + (1 : Int32)) L (
  gi (v1 + (2 : Int32)) L (
  b2 (F_L_tick (xs ((v1 + (1 : Int32))).toNatClampNeg) (xs ((v1 + (2 : Int32))).toNatClampNeg) C2) fun r168 C169 =>
  gi (v1 + (1 : Int32)) L (
  gi (v1 + (2 : Int32)) L (
  b2 (F_X9_tick (xs ((v1 + (1 : Int32))).toNatClampNeg) (xs ((v1 + (2 : Int32))).toNatClampNeg) C169) fun r173 C174 =>
  b2 (F_X9_thrown  C174) fun r176 C177 =>
  (if r176 = r168 then (
  (if r168 = 0 then (
  (if (lg_cmp ((C177 40 0).toInt64) ((r173).toInt64)) = 0 then (
  nm (v1 + (4 : Int32)) fun v183 =>
  some (Sum.inl (v183, C177))) else (
  none))) else (
  nm (v1 + (4 : Int32)) fun v181 =>
  some (Sum.inl (v181, C177))))) else (
  none))))))
def K_L_10 (xs : Nat → Int32) (L : Nat) (v1 : Int32) (C2 : Mem) : Option ((Int32 × Mem) ⊕ (Int32 × Mem)) :=
  gi (v1 + (1 : Int32)) L (
  b2 (F_L_draw (xs ((v1 + (1 : Int32))).toNatClampNeg) C2) fun r185 C186 =>
  gi (v1 + (1 : Int32)) L (
  b2 (F_X9_draw (xs ((v1 + (1 : Int32))).toNatClampNeg) C186) fun r189 C190 =>
  b2 (F_X9_thrown  C190) fun r192 C193 =>
  (if r192 = r185 then (
  (if r185 = 0 then (
  (if (lg_cmp ((C193 40 0).toInt64) ((r189).toInt64)) = 0 then (
  nm (v1 + (4 : Int32)) fun v199 =>
  some (Sum.inl (v199, C193))) else (
  none))) else (
  nm (v1 + (4 : Int32)) fun v197 =>
  some (Sum.inl (v197, C193))))) else (
  none))))
def K_L_11 (xs : Nat → Int32) (L : Nat) (v1 : Int32) (C2 : Mem) : Option ((Int32 × Mem) ⊕ (Int32 × Mem)) :=
  gi (v1 + (1 : Int32)) L (
  gi (v1 + (2 : Int32)) L (
  b2 (F_L_set (xs ((v1 + (1 : Int32))).toNatClampNeg) (xs ((v1 + (2 : Int32))).toNatClampNeg) C2) fun r202 C203 =>
  gi (v1 + (1 : Int32)) L (
  gi (v1 + (2 : Int32)) L (
  b2 (F_X9_set (xs ((v1 + (1 : Int32))).toNatClampNeg) (xs ((v1 + (2 : Int32))).toNatClampNeg) C203) fun r207 C208 =>
  b2 (F_X9_thrown  C208) fun r210 C211 =>
  (if r210 = r202 then (
  (if r202 = 0 then (
  (if (lg_cmp ((C211 40 0).toInt64) ((r207).toInt64)) = 0 then (
  nm (v1 + (4 : Int32)) fun v217 =>
  some (Sum.inl (v217, C211))) else (
  none))) else (
  nm (v1 + (4 : Int32)) fun v215 =>
  some (Sum.inl (v215, C211))))) else (
  none))))))
def J_L_law_838 (xs : Nat → Int32) (v1 : Int32) (r222 : Int32) (C223 : Mem) (v228 : Int32) : Option ((Int32 × Mem) ⊕ (Int32 × Mem)) :=
  b2 (F_X9_setFlue (xs ((v1 + (1 : Int32))).toNatClampNeg) v228 C223) fun r229 C230 =>
  b2 (F_X9_thrown  C230) fun r232 C233 =>
  (if r232 = r222 then (
  (if r222 = 0 then (
  (if (lg_cmp ((C233 40 0).toInt64) ((r229).toInt64)) = 0 then (
  nm (v1 + (4 : Int32)) fun v239 =>
  some (Sum.inl (v239, C233))) else (
  none))) else (
  nm (v1 + (4 : Int32)) fun v237 =>
  some (Sum.inl (v237, C233))))) else (
  none))
def J_L_law_811 (xs : Nat → Int32) (L : Nat) (v1 : Int32) (C2 : Mem) (v221 : Int32) : Option ((Int32 × Mem) ⊕ (Int32 × Mem)) :=
  b2 (F_L_setFlue (xs ((v1 + (1 : Int32))).toNatClampNeg) v221 C2) fun r222 C223 =>
  gi (v1 + (1 : Int32)) L (
  gi (v1 + (2 : Int32)) L (
  (if (xs ((v1 + (2 : Int32))).toNatClampNeg) = 0 then (
  J_L_law_838 xs v1 r222 C223 (0 : Int32)) else (
  J_L_law_838 xs v1 r222 C223 (1 : Int32)))))
def K_L_12 (xs : Nat → Int32) (L : Nat) (v1 : Int32) (C2 : Mem) : Option ((Int32 × Mem) ⊕ (Int32 × Mem)) :=
  gi (v1 + (1 : Int32)) L (
  gi (v1 + (2 : Int32)) L (
  (if (xs ((v1 + (2 : Int32))).toNatClampNeg) = 0 then (
  J_L_law_811 xs L v1 C2 (0 : Int32)) else (
  J_L_law_811 xs L v1 C2 (1 : Int32)))))
def K_L_13 (xs : Nat → Int32) (L : Nat) (v1 : Int32) (C2 : Mem) : Option ((Int32 × Mem) ⊕ (Int32 × Mem)) :=
  gi (v1 + (1 : Int32)) L (
  gi (v1 + (2 : Int32)) L (
  b2 (F_L_setDraft (xs ((v1 + (1 : Int32))).toNatClampNeg) (xs ((v1 + (2 : Int32))).toNatClampNeg) C2) fun r242 C243 =>
  gi (v1 + (1 : Int32)) L (
  gi (v1 + (2 : Int32)) L (
  b2 (F_X9_setDraft (xs ((v1 + (1 : Int32))).toNatClampNeg) (xs ((v1 + (2 : Int32))).toNatClampNeg) C243) fun r247 C248 =>
  b2 (F_X9_thrown  C248) fun r250 C251 =>
  (if r250 = r242 then (
  (if r242 = 0 then (
  (if (lg_cmp ((C251 40 0).toInt64) ((r247).toInt64)) = 0 then (
  nm (v1 + (4 : Int32)) fun v257 =>
  some (Sum.inl (v257, C251))) else (
  none))) else (
  nm (v1 + (4 : Int32)) fun v255 =>
  some (Sum.inl (v255, C251))))) else (
  none))))))
def K_L_14 (xs : Nat → Int32) (L : Nat) (v1 : Int32) (C2 : Mem) : Option ((Int32 × Mem) ⊕ (Int32 × Mem)) :=
  gi (v1 + (1 : Int32)) L (
  b2 (F_L_lock (xs ((v1 + (1 : Int32))).toNatClampNeg) C2) fun r259 C260 =>
  gi (v1 + (1 : Int32)) L (
  b2 (F_X9_lock (xs ((v1 + (1 : Int32))).toNatClampNeg) C260) fun r263 C264 =>
  b2 (F_X9_thrown  C264) fun r266 C267 =>
  (if r266 = r259 then (
  (if r259 = 0 then (
  (if (lg_cmp ((C267 40 0).toInt64) ((r263).toInt64)) = 0 then (
  nm (v1 + (4 : Int32)) fun v273 =>
  some (Sum.inl (v273, C267))) else (
  none))) else (
  nm (v1 + (4 : Int32)) fun v271 =>
  some (Sum.inl (v271, C267))))) else (
  none))))
def K_L_15 (xs : Nat → Int32) (L : Nat) (v1 : Int32) (C2 : Mem) : Option ((Int32 × Mem) ⊕ (Int32 × Mem)) :=
  gi (v1 + (1 : Int32)) L (
  b2 (F_L_unlock (xs ((v1 + (1 : Int32))).toNatClampNeg) C2) fun r275 C276 =>
  gi (v1 + (1 : Int32)) L (
  b2 (F_X9_unlock (xs ((v1 + (1 : Int32))).toNatClampNeg) C276) fun r279 C280 =>
  b2 (F_X9_thrown  C280) fun r282 C283 =>
  (if r282 = r275 then (
  (if r275 = 0 then (
  (if (lg_cmp ((C283 40 0).toInt64) ((r279).toInt64)) = 0 then (
  nm (v1 + (4 : Int32)) fun v289 =>
  some (Sum.inl (v289, C283))) else (
  none))) else (
  nm (v1 + (4 : Int32)) fun v287 =>
  some (Sum.inl (v287, C283))))) else (
  none))))
def K_L_16 (xs : Nat → Int32) (L : Nat) (v1 : Int32) (C2 : Mem) : Option ((Int32 × Mem) ⊕ (Int32 × Mem)) :=
  gi (v1 + (1 : Int32)) L (
  b2 (F_L_putOff (xs ((v1 + (1 : Int32))).toNatClampNeg) C2) fun r291 C292 =>
  gi (v1 + (1 : Int32)) L (
  b2 (F_X9_putOff (xs ((v1 + (1 : Int32))).toNatClampNeg) C292) fun r295 C296 =>
  b2 (F_X9_thrown  C296) fun r298 C299 =>
  (if r298 = r291 then (
  (if r291 = 0 then (
  (if (lg_cmp ((C299 40 0).toInt64) ((r295).toInt64)) = 0 then (
  nm (v1 + (4 : Int32)) fun v305 =>
  some (Sum.inl (v305, C299))) else (
  none))) else (
  nm (v1 + (4 : Int32)) fun v303 =>
  some (Sum.inl (v303, C299))))) else (
  none))))
def K_L_17 (v1 : Int32) (C2 : Mem) : Option ((Int32 × Mem) ⊕ (Int32 × Mem)) :=
  b2 (F_L_undo  C2) fun r306 C307 =>
  b2 (F_X9_undo  C307) fun r309 C310 =>
  b2 (F_X9_thrown  C310) fun r312 C313 =>
  (if r312 = r306 then (
  (if r306 = 0 then (
  (if (lg_cmp ((C313 40 0).toInt64) ((r309).toInt64)) = 0 then (
  nm (v1 + (4 : Int32)) fun v319 =>
  some (Sum.inl (v319, C313))) else (
  none))) else (
  nm (v1 + (4 : Int32)) fun v317 =>
  some (Sum.inl (v317, C313))))) else (
  none))
def K_L_18 (v1 : Int32) (C2 : Mem) : Option ((Int32 × Mem) ⊕ (Int32 × Mem)) :=
  b2 (F_X8_next  C2) fun r320 C321 =>
  b2 (F_X9_next  C321) fun r323 C324 =>
  (if r320 = r323 then (
  nm (v1 + (4 : Int32)) fun v327 =>
  some (Sum.inl (v327, C324))) else (
  none))
def K_L_19 (xs : Nat → Int32) (L : Nat) (v1 : Int32) (C2 : Mem) : Option ((Int32 × Mem) ⊕ (Int32 × Mem)) :=
  gi (v1 + (1 : Int32)) L (
  b2 (F_L_whyNot (xs ((v1 + (1 : Int32))).toNatClampNeg) C2) fun r329 C330 =>
  gi (v1 + (1 : Int32)) L (
  b2 (F_X9_whyNot (xs ((v1 + (1 : Int32))).toNatClampNeg) C330) fun r333 C334 =>
  b2 (F_X9_thrown  C334) fun r336 C337 =>
  (if r336 = r329 then (
  (if r329 = 0 then (
  (if (lg_cmp ((C337 40 0).toInt64) ((r333).toInt64)) = 0 then (
  nm (v1 + (4 : Int32)) fun v343 =>
  some (Sum.inl (v343, C337))) else (
  none))) else (
  nm (v1 + (4 : Int32)) fun v341 =>
  some (Sum.inl (v341, C337))))) else (
  none))))
def J_L_law_1271 (xs : Nat → Int32) (v1 : Int32) (r348 : Int32) (C349 : Mem) (v354 : Int32) : Option ((Int32 × Mem) ⊕ (Int32 × Mem)) :=
  b2 (F_X9_smallestSet (xs ((v1 + (1 : Int32))).toNatClampNeg) v354 C349) fun r355 C356 =>
  b2 (F_X9_thrown  C356) fun r358 C359 =>
  (if r358 = r348 then (
  (if r348 = 0 then (
  (if (lg_cmp ((C359 40 0).toInt64) ((r355).toInt64)) = 0 then (
  nm (v1 + (4 : Int32)) fun v365 =>
  some (Sum.inl (v365, C359))) else (
  none))) else (
  nm (v1 + (4 : Int32)) fun v363 =>
  some (Sum.inl (v363, C359))))) else (
  none))
def J_L_law_1244 (xs : Nat → Int32) (L : Nat) (v1 : Int32) (C2 : Mem) (v347 : Int32) : Option ((Int32 × Mem) ⊕ (Int32 × Mem)) :=
  b2 (F_L_smallestSet (xs ((v1 + (1 : Int32))).toNatClampNeg) v347 C2) fun r348 C349 =>
  gi (v1 + (1 : Int32)) L (
  gi (v1 + (2 : Int32)) L (
  (if (xs ((v1 + (2 : Int32))).toNatClampNeg) = 0 then (
  J_L_law_1271 xs v1 r348 C349 (0 : Int32)) else (
  J_L_law_1271 xs v1 r348 C349 (1 : Int32)))))
def K_L_20 (xs : Nat → Int32) (L : Nat) (v1 : Int32) (C2 : Mem) : Option ((Int32 × Mem) ⊕ (Int32 × Mem)) :=
  gi (v1 + (1 : Int32)) L (
  gi (v1 + (2 : Int32)) L (
  (if (xs ((v1 + (2 : Int32))).toNatClampNeg) = 0 then (
  J_L_law_1244 xs L v1 C2 (0 : Int32)) else (
  J_L_law_1244 xs L v1 C2 (1 : Int32)))))
def K_L_21 (xs : Nat → Int32) (L : Nat) (v1 : Int32) (C2 : Mem) : Option ((Int32 × Mem) ⊕ (Int32 × Mem)) :=
  gi (v1 + (1 : Int32)) L (
  gi (v1 + (2 : Int32)) L (
  gi (v1 + (3 : Int32)) L (
  b2 (F_L_ahead (xs ((v1 + (1 : Int32))).toNatClampNeg) (xs ((v1 + (2 : Int32))).toNatClampNeg) (xs ((v1 + (3 : Int32))).toNatClampNeg) C2) fun r369 C370 =>
  gi (v1 + (1 : Int32)) L (
  gi (v1 + (2 : Int32)) L (
  gi (v1 + (3 : Int32)) L (
  b2 (F_X9_ahead (xs ((v1 + (1 : Int32))).toNatClampNeg) (xs ((v1 + (2 : Int32))).toNatClampNeg) (xs ((v1 + (3 : Int32))).toNatClampNeg) C370) fun r375 C376 =>
  b2 (F_X9_thrown  C376) fun r378 C379 =>
  (if r378 = r369 then (
  (if r369 = 0 then (
  (if (lg_cmp ((C379 40 0).toInt64) ((r375).toInt64)) = 0 then (
  nm (v1 + (4 : Int32)) fun v385 =>
  some (Sum.inl (v385, C379))) else (
  none))) else (
  nm (v1 + (4 : Int32)) fun v383 =>
  some (Sum.inl (v383, C379))))) else (
  none))))))))
def K_L_22 (xs : Nat → Int32) (L : Nat) (v1 : Int32) (C2 : Mem) : Option ((Int32 × Mem) ⊕ (Int32 × Mem)) :=
  gi (v1 + (1 : Int32)) L (
  gi (v1 + (2 : Int32)) L (
  b2 (F_L_warmAfter (xs ((v1 + (1 : Int32))).toNatClampNeg) (xs ((v1 + (2 : Int32))).toNatClampNeg) C2) fun r388 C389 =>
  gi (v1 + (1 : Int32)) L (
  gi (v1 + (2 : Int32)) L (
  b2 (F_X9_warmAfter (xs ((v1 + (1 : Int32))).toNatClampNeg) (xs ((v1 + (2 : Int32))).toNatClampNeg) C389) fun r393 C394 =>
  b2 (F_X9_thrown  C394) fun r396 C397 =>
  (if r396 = r388 then (
  (if r388 = 0 then (
  (if (lg_cmp ((C397 40 0).toInt64) ((r393).toInt64)) = 0 then (
  nm (v1 + (4 : Int32)) fun v403 =>
  some (Sum.inl (v403, C397))) else (
  none))) else (
  nm (v1 + (4 : Int32)) fun v401 =>
  some (Sum.inl (v401, C397))))) else (
  none))))))
def K_L_23 (xs : Nat → Int32) (L : Nat) (v1 : Int32) (C2 : Mem) : Option ((Int32 × Mem) ⊕ (Int32 × Mem)) :=
  gi (v1 + (1 : Int32)) L (
  gi (v1 + (2 : Int32)) L (
  b2 (F_L_bearable (xs ((v1 + (1 : Int32))).toNatClampNeg) (xs ((v1 + (2 : Int32))).toNatClampNeg) C2) fun r406 C407 =>
  gi (v1 + (1 : Int32)) L (
  gi (v1 + (2 : Int32)) L (
  b2 (F_X9_bearable (xs ((v1 + (1 : Int32))).toNatClampNeg) (xs ((v1 + (2 : Int32))).toNatClampNeg) C407) fun r411 C412 =>
  b2 (F_X9_thrown  C412) fun r414 C415 =>
  (if r414 = r406 then (
  (if r406 = 0 then (
  (if (lg_cmp ((C415 40 0).toInt64) ((r411).toInt64)) = 0 then (
  nm (v1 + (4 : Int32)) fun v421 =>
  some (Sum.inl (v421, C415))) else (
  none))) else (
  nm (v1 + (4 : Int32)) fun v419 =>
  some (Sum.inl (v419, C415))))) else (
  none))))))
def K_L_24 (xs : Nat → Int32) (L : Nat) (v1 : Int32) (C2 : Mem) : Option ((Int32 × Mem) ⊕ (Int32 × Mem)) :=
  gi (v1 + (1 : Int32)) L (
  gi (v1 + (2 : Int32)) L (
  b2 (F_L_cheapestPurge (xs ((v1 + (1 : Int32))).toNatClampNeg) (xs ((v1 + (2 : Int32))).toNatClampNeg) C2) fun r424 C425 =>
  gi (v1 + (1 : Int32)) L (
  gi (v1 + (2 : Int32)) L (
  b2 (F_X9_cheapestPurge (xs ((v1 + (1 : Int32))).toNatClampNeg) (xs ((v1 + (2 : Int32))).toNatClampNeg) C425) fun r429 C430 =>
  b2 (F_X9_thrown  C430) fun r432 C433 =>
  (if r432 = r424 then (
  (if r424 = 0 then (
  (if (lg_cmp ((C433 40 0).toInt64) ((r429).toInt64)) = 0 then (
  nm (v1 + (4 : Int32)) fun v439 =>
  some (Sum.inl (v439, C433))) else (
  none))) else (
  nm (v1 + (4 : Int32)) fun v437 =>
  some (Sum.inl (v437, C433))))) else (
  none))))))
def K_L_25 (xs : Nat → Int32) (L : Nat) (v1 : Int32) (C2 : Mem) : Option ((Int32 × Mem) ⊕ (Int32 × Mem)) :=
  gi (v1 + (1 : Int32)) L (
  gi (v1 + (2 : Int32)) L (
  gi (v1 + (3 : Int32)) L (
  b2 (F_L_runScript (xs ((v1 + (1 : Int32))).toNatClampNeg) (((((xs ((v1 + (2 : Int32))).toNatClampNeg)).toInt64) <<< (((32 : Int32)).toInt64 &&& 63)) ||| ((((xs ((v1 + (3 : Int32))).toNatClampNeg)).toInt64) &&& (4294967295 : Int64))) C2) fun r443 C444 =>
  gi (v1 + (1 : Int32)) L (
  gi (v1 + (2 : Int32)) L (
  gi (v1 + (3 : Int32)) L (
  b2 (F_X9_runScript (xs ((v1 + (1 : Int32))).toNatClampNeg) (((((xs ((v1 + (2 : Int32))).toNatClampNeg)).toInt64) <<< (((32 : Int32)).toInt64 &&& 63)) ||| ((((xs ((v1 + (3 : Int32))).toNatClampNeg)).toInt64) &&& (4294967295 : Int64))) C444) fun r449 C450 =>
  b2 (F_X9_thrown  C450) fun r452 C453 =>
  (if r452 = r443 then (
  (if r443 = 0 then (
  (if (lg_cmp ((C453 40 0).toInt64) ((r449).toInt64)) = 0 then (
  nm (v1 + (4 : Int32)) fun v459 =>
  some (Sum.inl (v459, C453))) else (
  none))) else (
  nm (v1 + (4 : Int32)) fun v457 =>
  some (Sum.inl (v457, C453))))) else (
  none))))))))
def K_L_26 (xs : Nat → Int32) (L : Nat) (v1 : Int32) (C2 : Mem) : Option ((Int32 × Mem) ⊕ (Int32 × Mem)) :=
  gi (v1 + (1 : Int32)) L (
  gi (v1 + (2 : Int32)) L (
  gi (v1 + (3 : Int32)) L (
  b2 (F_L_simulate (((((xs ((v1 + (1 : Int32))).toNatClampNeg)).toInt64) <<< (((32 : Int32)).toInt64 &&& 63)) ||| ((((xs ((v1 + (2 : Int32))).toNatClampNeg)).toInt64) &&& (4294967295 : Int64))) (xs ((v1 + (3 : Int32))).toNatClampNeg) C2) fun r463 C464 =>
  gi (v1 + (1 : Int32)) L (
  gi (v1 + (2 : Int32)) L (
  gi (v1 + (3 : Int32)) L (
  b2 (F_X9_simulate (((((xs ((v1 + (1 : Int32))).toNatClampNeg)).toInt64) <<< (((32 : Int32)).toInt64 &&& 63)) ||| ((((xs ((v1 + (2 : Int32))).toNatClampNeg)).toInt64) &&& (4294967295 : Int64))) (xs ((v1 + (3 : Int32))).toNatClampNeg) C464) fun r469 C470 =>
  b2 (F_X9_thrown  C470) fun r472 C473 =>
  (if r472 = r463 then (
  (if r463 = 0 then (
  (if (lg_cmp ((C473 40 0).toInt64) ((r469).toInt64)) = 0 then (
  nm (v1 + (4 : Int32)) fun v479 =>
  some (Sum.inl (v479, C473))) else (
  none))) else (
  nm (v1 + (4 : Int32)) fun v477 =>
  some (Sum.inl (v477, C473))))) else (
  none))))))))
def K_L_27 (xs : Nat → Int32) (L : Nat) (v1 : Int32) (C2 : Mem) : Option ((Int32 × Mem) ⊕ (Int32 × Mem)) :=
  gi (v1 + (1 : Int32)) L (
  b2 (F_L_save (xs ((v1 + (1 : Int32))).toNatClampNeg) C2) fun r481 C482 =>
  gi (v1 + (1 : Int32)) L (
  b2 (F_X9_save (xs ((v1 + (1 : Int32))).toNatClampNeg) C482) fun r485 C486 =>
  b2 (F_X9_thrown  C486) fun r488 C489 =>
  (if r488 = r481 then (
  (if r481 = 0 then (
  (if (lg_cmp ((C489 40 0).toInt64) ((r485).toInt64)) = 0 then (
  nm (v1 + (4 : Int32)) fun v495 =>
  some (Sum.inl (v495, C489))) else (
  none))) else (
  nm (v1 + (4 : Int32)) fun v493 =>
  some (Sum.inl (v493, C489))))) else (
  none))))
def K_L_28 (xs : Nat → Int32) (L : Nat) (v1 : Int32) (C2 : Mem) : Option ((Int32 × Mem) ⊕ (Int32 × Mem)) :=
  gi (v1 + (1 : Int32)) L (
  b2 (F_L_restore (xs ((v1 + (1 : Int32))).toNatClampNeg) C2) fun r497 C498 =>
  gi (v1 + (1 : Int32)) L (
  b2 (F_X9_restore (xs ((v1 + (1 : Int32))).toNatClampNeg) C498) fun r501 C502 =>
  b2 (F_X9_thrown  C502) fun r504 C505 =>
  (if r504 = r497 then (
  (if r497 = 0 then (
  (if (lg_cmp ((C505 40 0).toInt64) ((r501).toInt64)) = 0 then (
  nm (v1 + (4 : Int32)) fun v511 =>
  some (Sum.inl (v511, C505))) else (
  none))) else (
  nm (v1 + (4 : Int32)) fun v509 =>
  some (Sum.inl (v509, C505))))) else (
  none))))
def S_L_law_23 (xs : Nat → Int32) (L : Nat) (v1 : Int32) (C2 : Mem) : Option ((Int32 × Mem) ⊕ (Int32 × Mem)) :=
  (if ((Int32.ofNat L) - (4 : Int32)) < v1 then (
  some (Sum.inr (v1, C2))) else (
  gi v1 L (
  nm ((xs (v1).toNatClampNeg) &&& (31 : Int32)) fun v6 =>
  (if v6 = (0 : Int32) then (
  K_L_0 xs L v1 C2) else (
  (if v6 = (1 : Int32) then (
  K_L_1 v1 C2) else (
  (if v6 = (2 : Int32) then (
  K_L_2 v1 C2) else (
  (if v6 = (3 : Int32) then (
  K_L_3 v1 C2) else (
  (if v6 = (4 : Int32) then (
  K_L_4 xs L v1 C2) else (
  (if v6 = (5 : Int32) then (
  K_L_5 xs L v1 C2) else (
  (if v6 = (6 : Int32) then (
  K_L_6 xs L v1 C2) else (
  (if v6 = (7 : Int32) then (
  K_L_7 xs L v1 C2) else (
  (if v6 = (8 : Int32) then (
  K_L_8 xs L v1 C2) else (
  (if v6 = (9 : Int32) then (
  K_L_9 xs L v1 C2) else (
  (if v6 = (10 : Int32) then (
  K_L_10 xs L v1 C2) else (
  (if v6 = (11 : Int32) then (
  K_L_11 xs L v1 C2) else (
  (if v6 = (12 : Int32) then (
  K_L_12 xs L v1 C2) else (
  (if v6 = (13 : Int32) then (
  K_L_13 xs L v1 C2) else (
  (if v6 = (14 : Int32) then (
  K_L_14 xs L v1 C2) else (
  (if v6 = (15 : Int32) then (
  K_L_15 xs L v1 C2) else (
  (if v6 = (16 : Int32) then (
  K_L_16 xs L v1 C2) else (
  (if v6 = (17 : Int32) then (
  K_L_17 v1 C2) else (
  (if v6 = (18 : Int32) then (
  K_L_18 v1 C2) else (
  (if v6 = (19 : Int32) then (
  K_L_19 xs L v1 C2) else (
  (if v6 = (20 : Int32) then (
  K_L_20 xs L v1 C2) else (
  (if v6 = (21 : Int32) then (
  K_L_21 xs L v1 C2) else (
  (if v6 = (22 : Int32) then (
  K_L_22 xs L v1 C2) else (
  (if v6 = (23 : Int32) then (
  K_L_23 xs L v1 C2) else (
  (if v6 = (24 : Int32) then (
  K_L_24 xs L v1 C2) else (
  (if v6 = (25 : Int32) then (
  K_L_25 xs L v1 C2) else (
  (if v6 = (26 : Int32) then (
  K_L_26 xs L v1 C2) else (
  (if v6 = (27 : Int32) then (
  K_L_27 xs L v1 C2) else (
  (if v6 = (28 : Int32) then (
  K_L_28 xs L v1 C2) else (
  nm (v1 + (4 : Int32)) fun v512 =>
  some (Sum.inl (v512, C2)))))))))))))))))))))))))))))))))))))))))))))))))))))))))))))))
def F_L_law (xs : Nat → Int32) (L : Nat) (C : Mem) : Option (Int32 × Mem) :=
  b1 (iter (fun x => S_L_law_23 xs L x.1 x.2) fuel ((0 : Int32), C)) (u2 fun v513 C514 =>
  some ((1 : Int32), C514))
set_option maxHeartbeats 40000000 in
set_option maxRecDepth 100000 in
theorem law_walk (l : Launch) (hfl : l.stackTraces = false) (G : GG) (n : Nat) (hn : n = 253) {p : Program} {e : Env} {s : State} {m : MethodId} {below : List Frame} {meth : Method} {c : Code} {b L : Nat} {xs : Nat → Int32} (hL : L ≤ 2048) (hr : meth.sig.returnType = ret) (hlk : meth.locks = false) (hX : va_X b L xs s s.heap) (hbl : b < s.heap.size) (hbb : bb G = s.heap.size) (hC : Cx p s m (#[Value.ref b]) c code RL 7 G) (C : Mem) (rR : Int32) (CR : Mem) (hF : F_L_law xs L C = some (rR, CR)) (H : Heap) (locs : List Loc) (ls : Array Slot) (hw : Wd G n C H) (hS : LW G s H locs) (hl : lv_has ls 7 [(0, .ref b), (1, .ref (bb G + 0)), (2, .ref (bb G + 244)), (3, .ref (bb G + 252))]) : W p l e room_1 s m #[Value.ref b] below meth c H locs 4000 40000 (lw_Z below #[Value.ref b] s) (F0 m 20 ls []) := by
  have hx := hC.1
  have hb := hC.2.1
  have hn2 : n ≤ 253 := by omega
  have hend : ∀ (H : Heap) (locs : List Loc) (ls : Array Slot) (k : Nat), LW G s H locs → k ≤ 512 → W p l e room_1 s m #[Value.ref b] below meth c H locs (4000 + 3 * k) (40000 + 18 * k) (lw_Z below #[Value.ref b] s) (F0 m 1910 ls [.int 1]) := by
    intro H locs ls k hS hk0
    refine W.widen (k := 612766) (n := 7257806) (by omega) (by omega) ?_
    refine va_forget (fun q hq => ?_) ?_
    · have := hS.2.2 q hq
      rw [← hbb]
      exact this
    · exact lw_ret hx hb hr hlk dL_law_1910
  unfold F_L_law at hF
  refine lv_iconst (v := 0) hx hb dL_law_20 (by decide) ?_
  refine lv_istore (lv' := [(4, .int (0 : Int32)), (0, .ref b), (1, .ref (bb G + 0)), (2, .ref (bb G + 244)), (3, .ref (bb G + 252))]) hx hb dL_law_21 hl (by decide) rfl (fun ls hl => ?_)
  obtain ⟨oi, hit, hG⟩ := b1_t hF
  have hR : ∀ (v513 : Int32) (C514 : Mem) (k : Nat) (H : Heap) (locs : List Loc) (ls : Array Slot), oi = (v513, C514) → k ≤ 512 → Wd G n C514 H → LW G s H locs → lv_has ls 7 [(0, .ref b), (1, .ref (bb G + 0)), (2, .ref (bb G + 244)), (3, .ref (bb G + 252))] → W p l e room_1 s m (#[Value.ref b]) below meth c H locs (4000 + 3 * k) (40000 + 18 * k) (lw_Z below #[Value.ref b] s) (F0 m 1909 ls []) := by
    intro v513 C514 k H locs ls hE hk0 hw hS hl
    subst hE
    have hF := u2_t hG
    refine lv_iconst (v := 1) hx hb dL_law_1909 (by decide) ?_
    exact hend _ _ _ k hS hk0
  refine iter_sound (P := fun x : Int32 × Mem => ∀ (k : Nat) (H : Heap) (locs : List Loc) (ls : Array Slot), x.1 = Int32.ofNat (4 * k) → k ≤ 512 → Wd G n x.2 H → LW G s H locs → lv_has ls 7 [(0, .ref b), (1, .ref (bb G + 0)), (2, .ref (bb G + 244)), (3, .ref (bb G + 252)), (4, .int x.1)] → W p l e room_1 s m (#[Value.ref b]) below meth c H locs (4000 + 3 * k) (40000 + 18 * k) (lw_Z below #[Value.ref b] s) (F0 m 23 ls [])) (X := fun r => r = oi) ?_ fuel ((0 : Int32), C) oi hit rfl 0 _ _ _ rfl (by decide) hw hS (lv_sub hl [1, 2, 3, 4, 0] rfl)
  intro x oo hF hk hXX k H locs ls ek hk0 hw hS hl
  obtain ⟨v1, C2⟩ := x
  have hF : S_L_law_23 xs L v1 C2 = some oo := hF
  have ek : v1 = Int32.ofNat (4 * k) := ek
  have hw : Wd G n C2 H := hw
  have hl : lv_has ls 7 [(0, .ref b), (1, .ref (bb G + 0)), (2, .ref (bb G + 244)), (3, .ref (bb G + 252)), (4, .int v1)] := hl
  have hkc : 4000 + 3 * k + 3 ≤ room_1.cells := by show _ ≤ 612766; omega
  have hks : 40000 + 18 * k + 18 ≤ room_1.slots := by show _ ≤ 7257806; omega
  unfold S_L_law_23 at hF
  refine lv_iload hx hb dL_law_23 (lv_at hl 4 rfl) ?_
  refine lv_aload_n hx hb dL_law_25 rfl (lv_at hl 0 rfl) ?_
  refine va_slen hx hb hX hbl (Nat.not_le.mpr (by rw [hbb]; exact hbl)) hS dL_law_26 ?_
  refine lv_iconst (v := 4) hx hb dL_law_27 (by decide) ?_
  refine lv_isub hx hb dL_law_28 ?_
  refine lv_icmp_gt (tgt := 1909) hx hb dL_law_29 (by decide) (fun h4 => ?_) (fun h4 => ?_)
  · have hF := it_t h4 hF
    exact hR _ _ k _ _ _ (it_exit hF hXX).symm hk0 hw hS (lv_sub hl [0, 1, 2, 3] rfl)
  · have hF := it_f h4 hF
    refine lv_aload_n hx hb dL_law_32 rfl (lv_at hl 0 rfl) ?_
    refine lv_iload hx hb dL_law_33 (lv_at hl 4 rfl) ?_
    obtain ⟨g5, hF⟩ := gi_t hF
    refine va_sld hx hb hX hbl (Nat.not_le.mpr (by rw [hbb]; exact hbl)) hS g5 dL_law_35 ?_
    refine lv_bipush (v := 31) hx hb dL_law_36 (by decide) ?_
    refine lv_iand hx hb dL_law_38 ?_
    obtain ⟨v6, ev6, hF⟩ := nm_t hF
    refine lv_nmi ev6 ?_
    by_cases h7 : v6 = (0 : Int32)
    · have hF := it_t h7 hF
      unfold K_L_0 at hF
      refine lv_tableIn (tgt := 168) (off := 129) hx hb dL_law_39 (by rw [h7]; decide) (by rw [h7]; decide) (by rw [h7]; rfl) (by decide) ?_
      refine lv_aload_n hx hb dL_law_168 rfl (lv_at hl 1 rfl) ?_
      refine lv_aload_n hx hb dL_law_169 rfl (lv_at hl 0 rfl) ?_
      refine lv_iload hx hb dL_law_170 (lv_at hl 4 rfl) ?_
      refine lv_iconst (v := 1) hx hb dL_law_172 (by decide) ?_
      refine lv_iadd hx hb dL_law_173 ?_
      obtain ⟨g36, hF⟩ := gi_t hF
      refine va_sld hx hb hX hbl (Nat.not_le.mpr (by rw [hbb]; exact hbl)) hS g36 dL_law_174 ?_
      refine lv_aload_n hx hb dL_law_175 rfl (lv_at hl 3 rfl) ?_
      obtain ⟨r37, C38, hc39, hF⟩ := b2_t hF
      refine call_SW hC (c_L_append l G n hn (by omega) hfl (xs ((v1 + (1 : Int32))).toNatClampNeg) _ _ _ hc39) wwL_104 ⟨rfl, rfl, by decide, by decide⟩ hw hS hl.1 rfl (rest := []) rfl (Nat.le_of_ble_eq_true rfl) dL_law_176 ⟨by omega, by omega⟩ (fun H locs hw hS => ?_)
      refine lv_istore (lv' := [(5, .int r37), (0, .ref b), (1, .ref (bb G + 0)), (2, .ref (bb G + 244)), (3, .ref (bb G + 252)), (4, .int v1)]) hx hb dL_law_179 hl (by decide) rfl (fun ls hl => ?_)
      refine lv_aload_n hx hb dL_law_181 rfl (lv_at hl 3 rfl) ?_
      refine lv_aload_n hx hb dL_law_182 rfl (lv_at hl 1 rfl) ?_
      refine lv_iload hx hb dL_law_183 (lv_at hl 5 rfl) ?_
      refine lv_iconst (v := 1) hx hb dL_law_185 (by decide) ?_
      refine lv_iadd hx hb dL_law_186 ?_
      obtain ⟨g40, hF⟩ := gi_t hF
      refine va_sld hx hb hX hbl (Nat.not_le.mpr (by rw [hbb]; exact hbl)) hS g40 dL_law_187 ?_
      obtain ⟨r41, C42, hc43, hF⟩ := b2_t hF
      refine call_Vi hC (c_X9_append l G n (by omega) hn2 (xs ((v1 + (1 : Int32))).toNatClampNeg) _ _ _ hc43) wvL_109 ⟨rfl, rfl, by decide, by decide⟩ hw hS (by omega) ca_model rfl hl.1 rfl (rest := []) rfl (Nat.le_of_ble_eq_true rfl) dL_law_188 ⟨by omega, by omega⟩ (fun H locs hw hS _ => ?_)
      refine lv_istore (lv' := [(6, .int r41), (5, .int r37), (0, .ref b), (1, .ref (bb G + 0)), (2, .ref (bb G + 244)), (3, .ref (bb G + 252)), (4, .int v1)]) hx hb dL_law_191 hl (by decide) rfl (fun ls hl => ?_)
      refine lv_aload_n hx hb dL_law_193 rfl (lv_at hl 4 rfl) ?_
      obtain ⟨r44, C45, hc46, hF⟩ := b2_t hF
      refine call_Vi hC (c_X9_thrown l G n (by omega) hn2  _ _ _ hc46) wvL_110 ⟨rfl, rfl, by decide, by decide⟩ hw hS (by omega) ca_model rfl hl.1 rfl (rest := []) rfl (Nat.le_of_ble_eq_true rfl) dL_law_194 ⟨by omega, by omega⟩ (fun H locs hw hS _ => ?_)
      refine lv_iload hx hb dL_law_197 (lv_at hl 1 rfl) ?_
      refine lv_icmp_eq (tgt := 204) hx hb dL_law_199 (by decide) (fun h47 => ?_) (fun h47 => ?_)
      · have hF := it_t h47 hF
        refine lv_iload hx hb dL_law_204 (lv_at hl 1 rfl) ?_
        refine lv_if_ne (tgt := 221) hx hb dL_law_206 (by decide) (fun h48 => ?_) (fun h48 => ?_)
        · have hF := it_f h48 hF
          refine lv_goto (tgt := 1903) hx hb dL_law_221 (by decide) ?_
          obtain ⟨v49, ev49, hF⟩ := nm_t hF
          refine lv_iinc (v := v49) (lv' := [(4, .int v49), (6, .int r41), (5, .int r37), (0, .ref b), (1, .ref (bb G + 0)), (2, .ref (bb G + 244)), (3, .ref (bb G + 252))]) hx hb dL_law_1903 hl (k := 6) rfl (by rw [ev49]; rfl) (by decide) rfl (fun ls hl => ?_)
          refine lv_goto (tgt := 23) hx hb dL_law_1906 (by decide) ?_
          refine W.widen (k := 4000 + 3 * (k + 1)) (n := 40000 + 18 * (k + 1)) (by omega) (by omega) ?_
          exact it_back hF hk (k + 1) _ _ _ (law_k1 ek ev49) (law_k2 hL hk0 ek h4) hw hS (lv_sub hl [3, 4, 5, 6, 0] rfl)
        · have hF := it_t h48 hF
          refine lv_aload_n hx hb dL_law_209 rfl (lv_at hl 5 rfl) ?_
          refine lv_iconst (v := 0) hx hb dL_law_210 (by decide) ?_
          refine ld_out hC hw (by omega) dL_law_211 ?_
          refine lv_iload hx hb dL_law_212 (lv_at hl 0 rfl) ?_
          refine lv_i2l (v := (r41).toInt64) hx hb dL_law_214 rfl ?_
          refine W.lcmp hx hb dL_law_215 ?_
          refine lv_if_eq (tgt := 221) hx hb dL_law_216 (by decide) (fun h50 => ?_) (fun h50 => ?_)
          · have hF := it_t h50 hF
            refine lv_goto (tgt := 1903) hx hb dL_law_221 (by decide) ?_
            obtain ⟨v51, ev51, hF⟩ := nm_t hF
            refine lv_iinc (v := v51) (lv' := [(4, .int v51), (6, .int r41), (5, .int r37), (0, .ref b), (1, .ref (bb G + 0)), (2, .ref (bb G + 244)), (3, .ref (bb G + 252))]) hx hb dL_law_1903 hl (k := 6) rfl (by rw [ev51]; rfl) (by decide) rfl (fun ls hl => ?_)
            refine lv_goto (tgt := 23) hx hb dL_law_1906 (by decide) ?_
            refine W.widen (k := 4000 + 3 * (k + 1)) (n := 40000 + 18 * (k + 1)) (by omega) (by omega) ?_
            exact it_back hF hk (k + 1) _ _ _ (law_k1 ek ev51) (law_k2 hL hk0 ek h4) hw hS (lv_sub hl [3, 4, 5, 6, 0] rfl)
          · have hF := it_f h50 hF
            refine lv_iconst (v := 0) hx hb dL_law_219 (by decide) ?_
            cases hF
      · have hF := it_f h47 hF
        refine lv_iconst (v := 0) hx hb dL_law_202 (by decide) ?_
        cases hF
    have hF := it_f h7 hF
    by_cases h8 : v6 = (1 : Int32)
    · have hF := it_t h8 hF
      unfold K_L_1 at hF
      refine lv_tableIn (tgt := 224) (off := 185) hx hb dL_law_39 (by rw [h8]; decide) (by rw [h8]; decide) (by rw [h8]; rfl) (by decide) ?_
      refine lv_aload_n hx hb dL_law_224 rfl (lv_at hl 1 rfl) ?_
      obtain ⟨r52, C53, hc54, hF⟩ := b2_t hF
      refine call_Vi hC (c_X8_clearText l G n (by omega) hn2  _ _ _ hc54) wvL_113 ⟨rfl, rfl, by decide, by decide⟩ hw hS (by omega) ca_casc rfl hl.1 rfl (rest := []) rfl (Nat.le_of_ble_eq_true rfl) dL_law_225 ⟨by omega, by omega⟩ (fun H locs hw hS _ => ?_)
      refine lv_aload_n hx hb dL_law_228 rfl (lv_at hl 2 rfl) ?_
      obtain ⟨r55, C56, hc57, hF⟩ := b2_t hF
      refine call_Vi hC (c_X9_clearText l G n (by omega) hn2  _ _ _ hc57) wvL_116 ⟨rfl, rfl, by decide, by decide⟩ hw hS (by omega) ca_model rfl hl.1 rfl (rest := [.int r52]) rfl (Nat.le_of_ble_eq_true rfl) dL_law_229 ⟨by omega, by omega⟩ (fun H locs hw hS _ => ?_)
      refine lv_icmp_eq (tgt := 1903) hx hb dL_law_232 (by decide) (fun h58 => ?_) (fun h58 => ?_)
      · have hF := it_t h58 hF
        obtain ⟨v59, ev59, hF⟩ := nm_t hF
        refine lv_iinc (v := v59) (lv' := [(4, .int v59), (0, .ref b), (1, .ref (bb G + 0)), (2, .ref (bb G + 244)), (3, .ref (bb G + 252))]) hx hb dL_law_1903 hl (k := 4) rfl (by rw [ev59]; rfl) (by decide) rfl (fun ls hl => ?_)
        refine lv_goto (tgt := 23) hx hb dL_law_1906 (by decide) ?_
        refine W.widen (k := 4000 + 3 * (k + 1)) (n := 40000 + 18 * (k + 1)) (by omega) (by omega) ?_
        exact it_back hF hk (k + 1) _ _ _ (law_k1 ek ev59) (law_k2 hL hk0 ek h4) hw hS (lv_sub hl [1, 2, 3, 4, 0] rfl)
      · have hF := it_f h58 hF
        refine lv_iconst (v := 0) hx hb dL_law_235 (by decide) ?_
        cases hF
    have hF := it_f h8 hF
    by_cases h9 : v6 = (2 : Int32)
    · have hF := it_t h9 hF
      unfold K_L_2 at hF
      refine lv_tableIn (tgt := 237) (off := 198) hx hb dL_law_39 (by rw [h9]; decide) (by rw [h9]; decide) (by rw [h9]; rfl) (by decide) ?_
      refine lv_aload_n hx hb dL_law_237 rfl (lv_at hl 1 rfl) ?_
      obtain ⟨r60, C61, hc62, hF⟩ := b2_t hF
      refine call_Vi hC (c_X8_errorPosition l G n (by omega) hn2  _ _ _ hc62) wvL_117 ⟨rfl, rfl, by decide, by decide⟩ hw hS (by omega) ca_casc rfl hl.1 rfl (rest := []) rfl (Nat.le_of_ble_eq_true rfl) dL_law_238 ⟨by omega, by omega⟩ (fun H locs hw hS _ => ?_)
      refine lv_aload_n hx hb dL_law_241 rfl (lv_at hl 2 rfl) ?_
      obtain ⟨r63, C64, hc65, hF⟩ := b2_t hF
      refine call_Vi hC (c_X9_errorPosition l G n (by omega) hn2  _ _ _ hc65) wvL_120 ⟨rfl, rfl, by decide, by decide⟩ hw hS (by omega) ca_model rfl hl.1 rfl (rest := [.int r60]) rfl (Nat.le_of_ble_eq_true rfl) dL_law_242 ⟨by omega, by omega⟩ (fun H locs hw hS _ => ?_)
      refine lv_icmp_eq (tgt := 1903) hx hb dL_law_245 (by decide) (fun h66 => ?_) (fun h66 => ?_)
      · have hF := it_t h66 hF
        obtain ⟨v67, ev67, hF⟩ := nm_t hF
        refine lv_iinc (v := v67) (lv' := [(4, .int v67), (0, .ref b), (1, .ref (bb G + 0)), (2, .ref (bb G + 244)), (3, .ref (bb G + 252))]) hx hb dL_law_1903 hl (k := 4) rfl (by rw [ev67]; rfl) (by decide) rfl (fun ls hl => ?_)
        refine lv_goto (tgt := 23) hx hb dL_law_1906 (by decide) ?_
        refine W.widen (k := 4000 + 3 * (k + 1)) (n := 40000 + 18 * (k + 1)) (by omega) (by omega) ?_
        exact it_back hF hk (k + 1) _ _ _ (law_k1 ek ev67) (law_k2 hL hk0 ek h4) hw hS (lv_sub hl [1, 2, 3, 4, 0] rfl)
      · have hF := it_f h66 hF
        refine lv_iconst (v := 0) hx hb dL_law_248 (by decide) ?_
        cases hF
    have hF := it_f h9 hF
    by_cases h10 : v6 = (3 : Int32)
    · have hF := it_t h10 hF
      unfold K_L_3 at hF
      refine lv_tableIn (tgt := 250) (off := 211) hx hb dL_law_39 (by rw [h10]; decide) (by rw [h10]; decide) (by rw [h10]; rfl) (by decide) ?_
      refine lv_aload_n hx hb dL_law_250 rfl (lv_at hl 1 rfl) ?_
      refine lv_aload_n hx hb dL_law_251 rfl (lv_at hl 3 rfl) ?_
      obtain ⟨r68, C69, hc70, hF⟩ := b2_t hF
      refine call_SW hC (c_L_load l G n hn (by omega) hfl  _ _ _ hc70) wwL_121 ⟨rfl, rfl, by decide, by decide⟩ hw hS hl.1 rfl (rest := []) rfl (Nat.le_of_ble_eq_true rfl) dL_law_252 ⟨by omega, by omega⟩ (fun H locs hw hS => ?_)
      refine lv_istore (lv' := [(5, .int r68), (0, .ref b), (1, .ref (bb G + 0)), (2, .ref (bb G + 244)), (3, .ref (bb G + 252)), (4, .int v1)]) hx hb dL_law_255 hl (by decide) rfl (fun ls hl => ?_)
      refine lv_aload_n hx hb dL_law_257 rfl (lv_at hl 3 rfl) ?_
      obtain ⟨r71, C72, hc73, hF⟩ := b2_t hF
      refine call_Vi hC (c_X9_load l G n (by omega) hn2  _ _ _ hc73) wvL_124 ⟨rfl, rfl, by decide, by decide⟩ hw hS (by omega) ca_model rfl hl.1 rfl (rest := []) rfl (Nat.le_of_ble_eq_true rfl) dL_law_258 ⟨by omega, by omega⟩ (fun H locs hw hS _ => ?_)
      refine lv_istore (lv' := [(6, .int r71), (5, .int r68), (0, .ref b), (1, .ref (bb G + 0)), (2, .ref (bb G + 244)), (3, .ref (bb G + 252)), (4, .int v1)]) hx hb dL_law_261 hl (by decide) rfl (fun ls hl => ?_)
      refine lv_aload_n hx hb dL_law_263 rfl (lv_at hl 4 rfl) ?_
      obtain ⟨r74, C75, hc76, hF⟩ := b2_t hF
      refine call_Vi hC (c_X9_thrown l G n (by omega) hn2  _ _ _ hc76) wvL_110 ⟨rfl, rfl, by decide, by decide⟩ hw hS (by omega) ca_model rfl hl.1 rfl (rest := []) rfl (Nat.le_of_ble_eq_true rfl) dL_law_264 ⟨by omega, by omega⟩ (fun H locs hw hS _ => ?_)
      refine lv_iload hx hb dL_law_267 (lv_at hl 1 rfl) ?_
      refine lv_icmp_eq (tgt := 274) hx hb dL_law_269 (by decide) (fun h77 => ?_) (fun h77 => ?_)
      · have hF := it_t h77 hF
        refine lv_iload hx hb dL_law_274 (lv_at hl 1 rfl) ?_
        refine lv_if_ne (tgt := 291) hx hb dL_law_276 (by decide) (fun h78 => ?_) (fun h78 => ?_)
        · have hF := it_f h78 hF
          refine lv_goto (tgt := 1903) hx hb dL_law_291 (by decide) ?_
          obtain ⟨v79, ev79, hF⟩ := nm_t hF
          refine lv_iinc (v := v79) (lv' := [(4, .int v79), (6, .int r71), (5, .int r68), (0, .ref b), (1, .ref (bb G + 0)), (2, .ref (bb G + 244)), (3, .ref (bb G + 252))]) hx hb dL_law_1903 hl (k := 6) rfl (by rw [ev79]; rfl) (by decide) rfl (fun ls hl => ?_)
          refine lv_goto (tgt := 23) hx hb dL_law_1906 (by decide) ?_
          refine W.widen (k := 4000 + 3 * (k + 1)) (n := 40000 + 18 * (k + 1)) (by omega) (by omega) ?_
          exact it_back hF hk (k + 1) _ _ _ (law_k1 ek ev79) (law_k2 hL hk0 ek h4) hw hS (lv_sub hl [3, 4, 5, 6, 0] rfl)
        · have hF := it_t h78 hF
          refine lv_aload_n hx hb dL_law_279 rfl (lv_at hl 5 rfl) ?_
          refine lv_iconst (v := 0) hx hb dL_law_280 (by decide) ?_
          refine ld_out hC hw (by omega) dL_law_281 ?_
          refine lv_iload hx hb dL_law_282 (lv_at hl 0 rfl) ?_
          refine lv_i2l (v := (r71).toInt64) hx hb dL_law_284 rfl ?_
          refine W.lcmp hx hb dL_law_285 ?_
          refine lv_if_eq (tgt := 291) hx hb dL_law_286 (by decide) (fun h80 => ?_) (fun h80 => ?_)
          · have hF := it_t h80 hF
            refine lv_goto (tgt := 1903) hx hb dL_law_291 (by decide) ?_
            obtain ⟨v81, ev81, hF⟩ := nm_t hF
            refine lv_iinc (v := v81) (lv' := [(4, .int v81), (6, .int r71), (5, .int r68), (0, .ref b), (1, .ref (bb G + 0)), (2, .ref (bb G + 244)), (3, .ref (bb G + 252))]) hx hb dL_law_1903 hl (k := 6) rfl (by rw [ev81]; rfl) (by decide) rfl (fun ls hl => ?_)
            refine lv_goto (tgt := 23) hx hb dL_law_1906 (by decide) ?_
            refine W.widen (k := 4000 + 3 * (k + 1)) (n := 40000 + 18 * (k + 1)) (by omega) (by omega) ?_
            exact it_back hF hk (k + 1) _ _ _ (law_k1 ek ev81) (law_k2 hL hk0 ek h4) hw hS (lv_sub hl [3, 4, 5, 6, 0] rfl)
          · have hF := it_f h80 hF
            refine lv_iconst (v := 0) hx hb dL_law_289 (by decide) ?_
            cases hF
      · have hF := it_f h77 hF
        refine lv_iconst (v := 0) hx hb dL_law_272 (by decide) ?_
        cases hF
    have hF := it_f h10 hF
    by_cases h11 : v6 = (4 : Int32)
    · have hF := it_t h11 hF
      unfold K_L_4 at hF
      refine lv_tableIn (tgt := 294) (off := 255) hx hb dL_law_39 (by rw [h11]; decide) (by rw [h11]; decide) (by rw [h11]; rfl) (by decide) ?_
      refine lv_aload_n hx hb dL_law_294 rfl (lv_at hl 1 rfl) ?_
      refine lv_aload_n hx hb dL_law_295 rfl (lv_at hl 0 rfl) ?_
      refine lv_iload hx hb dL_law_296 (lv_at hl 4 rfl) ?_
      refine lv_iconst (v := 1) hx hb dL_law_298 (by decide) ?_
      refine lv_iadd hx hb dL_law_299 ?_
      obtain ⟨g82, hF⟩ := gi_t hF
      refine va_sld hx hb hX hbl (Nat.not_le.mpr (by rw [hbb]; exact hbl)) hS g82 dL_law_300 ?_
      refine lv_aload_n hx hb dL_law_301 rfl (lv_at hl 3 rfl) ?_
      obtain ⟨r83, C84, hc85, hF⟩ := b2_t hF
      refine call_SW hC (c_L_about l G n hn (by omega) hfl (xs ((v1 + (1 : Int32))).toNatClampNeg) _ _ _ hc85) wwL_125 ⟨rfl, rfl, by decide, by decide⟩ hw hS hl.1 rfl (rest := []) rfl (Nat.le_of_ble_eq_true rfl) dL_law_302 ⟨by omega, by omega⟩ (fun H locs hw hS => ?_)
      refine lv_istore (lv' := [(5, .int r83), (0, .ref b), (1, .ref (bb G + 0)), (2, .ref (bb G + 244)), (3, .ref (bb G + 252)), (4, .int v1)]) hx hb dL_law_305 hl (by decide) rfl (fun ls hl => ?_)
      refine lv_aload_n hx hb dL_law_307 rfl (lv_at hl 3 rfl) ?_
      refine lv_aload_n hx hb dL_law_308 rfl (lv_at hl 1 rfl) ?_
      refine lv_iload hx hb dL_law_309 (lv_at hl 5 rfl) ?_
      refine lv_iconst (v := 1) hx hb dL_law_311 (by decide) ?_
      refine lv_iadd hx hb dL_law_312 ?_
      obtain ⟨g86, hF⟩ := gi_t hF
      refine va_sld hx hb hX hbl (Nat.not_le.mpr (by rw [hbb]; exact hbl)) hS g86 dL_law_313 ?_
      obtain ⟨r87, C88, hc89, hF⟩ := b2_t hF
      refine call_Vi hC (c_X9_about l G n (by omega) hn2 (xs ((v1 + (1 : Int32))).toNatClampNeg) _ _ _ hc89) wvL_127 ⟨rfl, rfl, by decide, by decide⟩ hw hS (by omega) ca_model rfl hl.1 rfl (rest := []) rfl (Nat.le_of_ble_eq_true rfl) dL_law_314 ⟨by omega, by omega⟩ (fun H locs hw hS _ => ?_)
      refine lv_istore (lv' := [(6, .int r87), (5, .int r83), (0, .ref b), (1, .ref (bb G + 0)), (2, .ref (bb G + 244)), (3, .ref (bb G + 252)), (4, .int v1)]) hx hb dL_law_317 hl (by decide) rfl (fun ls hl => ?_)
      refine lv_aload_n hx hb dL_law_319 rfl (lv_at hl 4 rfl) ?_
      obtain ⟨r90, C91, hc92, hF⟩ := b2_t hF
      refine call_Vi hC (c_X9_thrown l G n (by omega) hn2  _ _ _ hc92) wvL_110 ⟨rfl, rfl, by decide, by decide⟩ hw hS (by omega) ca_model rfl hl.1 rfl (rest := []) rfl (Nat.le_of_ble_eq_true rfl) dL_law_320 ⟨by omega, by omega⟩ (fun H locs hw hS _ => ?_)
      refine lv_iload hx hb dL_law_323 (lv_at hl 1 rfl) ?_
      refine lv_icmp_eq (tgt := 330) hx hb dL_law_325 (by decide) (fun h93 => ?_) (fun h93 => ?_)
      · have hF := it_t h93 hF
        refine lv_iload hx hb dL_law_330 (lv_at hl 1 rfl) ?_
        refine lv_if_ne (tgt := 347) hx hb dL_law_332 (by decide) (fun h94 => ?_) (fun h94 => ?_)
        · have hF := it_f h94 hF
          refine lv_goto (tgt := 1903) hx hb dL_law_347 (by decide) ?_
          obtain ⟨v95, ev95, hF⟩ := nm_t hF
          refine lv_iinc (v := v95) (lv' := [(4, .int v95), (6, .int r87), (5, .int r83), (0, .ref b), (1, .ref (bb G + 0)), (2, .ref (bb G + 244)), (3, .ref (bb G + 252))]) hx hb dL_law_1903 hl (k := 6) rfl (by rw [ev95]; rfl) (by decide) rfl (fun ls hl => ?_)
          refine lv_goto (tgt := 23) hx hb dL_law_1906 (by decide) ?_
          refine W.widen (k := 4000 + 3 * (k + 1)) (n := 40000 + 18 * (k + 1)) (by omega) (by omega) ?_
          exact it_back hF hk (k + 1) _ _ _ (law_k1 ek ev95) (law_k2 hL hk0 ek h4) hw hS (lv_sub hl [3, 4, 5, 6, 0] rfl)
        · have hF := it_t h94 hF
          refine lv_aload_n hx hb dL_law_335 rfl (lv_at hl 5 rfl) ?_
          refine lv_iconst (v := 0) hx hb dL_law_336 (by decide) ?_
          refine ld_out hC hw (by omega) dL_law_337 ?_
          refine lv_iload hx hb dL_law_338 (lv_at hl 0 rfl) ?_
          refine lv_i2l (v := (r87).toInt64) hx hb dL_law_340 rfl ?_
          refine W.lcmp hx hb dL_law_341 ?_
          refine lv_if_eq (tgt := 347) hx hb dL_law_342 (by decide) (fun h96 => ?_) (fun h96 => ?_)
          · have hF := it_t h96 hF
            refine lv_goto (tgt := 1903) hx hb dL_law_347 (by decide) ?_
            obtain ⟨v97, ev97, hF⟩ := nm_t hF
            refine lv_iinc (v := v97) (lv' := [(4, .int v97), (6, .int r87), (5, .int r83), (0, .ref b), (1, .ref (bb G + 0)), (2, .ref (bb G + 244)), (3, .ref (bb G + 252))]) hx hb dL_law_1903 hl (k := 6) rfl (by rw [ev97]; rfl) (by decide) rfl (fun ls hl => ?_)
            refine lv_goto (tgt := 23) hx hb dL_law_1906 (by decide) ?_
            refine W.widen (k := 4000 + 3 * (k + 1)) (n := 40000 + 18 * (k + 1)) (by omega) (by omega) ?_
            exact it_back hF hk (k + 1) _ _ _ (law_k1 ek ev97) (law_k2 hL hk0 ek h4) hw hS (lv_sub hl [3, 4, 5, 6, 0] rfl)
          · have hF := it_f h96 hF
            refine lv_iconst (v := 0) hx hb dL_law_345 (by decide) ?_
            cases hF
      · have hF := it_f h93 hF
        refine lv_iconst (v := 0) hx hb dL_law_328 (by decide) ?_
        cases hF
    have hF := it_f h11 hF
    by_cases h12 : v6 = (5 : Int32)
    · have hF := it_t h12 hF
      unfold K_L_5 at hF
      refine lv_tableIn (tgt := 350) (off := 311) hx hb dL_law_39 (by rw [h12]; decide) (by rw [h12]; decide) (by rw [h12]; rfl) (by decide) ?_
      refine lv_aload_n hx hb dL_law_350 rfl (lv_at hl 1 rfl) ?_
      refine lv_aload_n hx hb dL_law_351 rfl (lv_at hl 0 rfl) ?_
      refine lv_iload hx hb dL_law_352 (lv_at hl 4 rfl) ?_
      refine lv_iconst (v := 1) hx hb dL_law_354 (by decide) ?_
      refine lv_iadd hx hb dL_law_355 ?_
      obtain ⟨g98, hF⟩ := gi_t hF
      refine va_sld hx hb hX hbl (Nat.not_le.mpr (by rw [hbb]; exact hbl)) hS g98 dL_law_356 ?_
      refine lv_aload_n hx hb dL_law_357 rfl (lv_at hl 0 rfl) ?_
      refine lv_iload hx hb dL_law_358 (lv_at hl 4 rfl) ?_
      refine lv_iconst (v := 2) hx hb dL_law_360 (by decide) ?_
      refine lv_iadd hx hb dL_law_361 ?_
      obtain ⟨g99, hF⟩ := gi_t hF
      refine va_sld hx hb hX hbl (Nat.not_le.mpr (by rw [hbb]; exact hbl)) hS g99 dL_law_362 ?_
      refine lv_aload_n hx hb dL_law_363 rfl (lv_at hl 3 rfl) ?_
      obtain ⟨r100, C101, hc102, hF⟩ := b2_t hF
      refine call_SW hC (c_L_boiler l G n hn (by omega) hfl (xs ((v1 + (1 : Int32))).toNatClampNeg) (xs ((v1 + (2 : Int32))).toNatClampNeg) _ _ _ hc102) wwL_128 ⟨rfl, rfl, by decide, by decide⟩ hw hS hl.1 rfl (rest := []) rfl (Nat.le_of_ble_eq_true rfl) dL_law_364 ⟨by omega, by omega⟩ (fun H locs hw hS => ?_)
      refine lv_istore (lv' := [(5, .int r100), (0, .ref b), (1, .ref (bb G + 0)), (2, .ref (bb G + 244)), (3, .ref (bb G + 252)), (4, .int v1)]) hx hb dL_law_367 hl (by decide) rfl (fun ls hl => ?_)
      refine lv_aload_n hx hb dL_law_369 rfl (lv_at hl 3 rfl) ?_
      refine lv_aload_n hx hb dL_law_370 rfl (lv_at hl 1 rfl) ?_
      refine lv_iload hx hb dL_law_371 (lv_at hl 5 rfl) ?_
      refine lv_iconst (v := 1) hx hb dL_law_373 (by decide) ?_
      refine lv_iadd hx hb dL_law_374 ?_
      obtain ⟨g103, hF⟩ := gi_t hF
      refine va_sld hx hb hX hbl (Nat.not_le.mpr (by rw [hbb]; exact hbl)) hS g103 dL_law_375 ?_
      refine lv_aload_n hx hb dL_law_376 rfl (lv_at hl 1 rfl) ?_
      refine lv_iload hx hb dL_law_377 (lv_at hl 5 rfl) ?_
      refine lv_iconst (v := 2) hx hb dL_law_379 (by decide) ?_
      refine lv_iadd hx hb dL_law_380 ?_
      obtain ⟨g104, hF⟩ := gi_t hF
      refine va_sld hx hb hX hbl (Nat.not_le.mpr (by rw [hbb]; exact hbl)) hS g104 dL_law_381 ?_
      obtain ⟨r105, C106, hc107, hF⟩ := b2_t hF
      refine call_Vi hC (c_X9_boiler l G n (by omega) hn2 (xs ((v1 + (1 : Int32))).toNatClampNeg) (xs ((v1 + (2 : Int32))).toNatClampNeg) _ _ _ hc107) wvL_131 ⟨rfl, rfl, by decide, by decide⟩ hw hS (by omega) ca_model rfl hl.1 rfl (rest := []) rfl (Nat.le_of_ble_eq_true rfl) dL_law_382 ⟨by omega, by omega⟩ (fun H locs hw hS _ => ?_)
      refine lv_istore (lv' := [(6, .int r105), (5, .int r100), (0, .ref b), (1, .ref (bb G + 0)), (2, .ref (bb G + 244)), (3, .ref (bb G + 252)), (4, .int v1)]) hx hb dL_law_385 hl (by decide) rfl (fun ls hl => ?_)
      refine lv_aload_n hx hb dL_law_387 rfl (lv_at hl 4 rfl) ?_
      obtain ⟨r108, C109, hc110, hF⟩ := b2_t hF
      refine call_Vi hC (c_X9_thrown l G n (by omega) hn2  _ _ _ hc110) wvL_110 ⟨rfl, rfl, by decide, by decide⟩ hw hS (by omega) ca_model rfl hl.1 rfl (rest := []) rfl (Nat.le_of_ble_eq_true rfl) dL_law_388 ⟨by omega, by omega⟩ (fun H locs hw hS _ => ?_)
      refine lv_iload hx hb dL_law_391 (lv_at hl 1 rfl) ?_
      refine lv_icmp_eq (tgt := 398) hx hb dL_law_393 (by decide) (fun h111 => ?_) (fun h111 => ?_)
      · have hF := it_t h111 hF
        refine lv_iload hx hb dL_law_398 (lv_at hl 1 rfl) ?_
        refine lv_if_ne (tgt := 415) hx hb dL_law_400 (by decide) (fun h112 => ?_) (fun h112 => ?_)
        · have hF := it_f h112 hF
          refine lv_goto (tgt := 1903) hx hb dL_law_415 (by decide) ?_
          obtain ⟨v113, ev113, hF⟩ := nm_t hF
          refine lv_iinc (v := v113) (lv' := [(4, .int v113), (6, .int r105), (5, .int r100), (0, .ref b), (1, .ref (bb G + 0)), (2, .ref (bb G + 244)), (3, .ref (bb G + 252))]) hx hb dL_law_1903 hl (k := 6) rfl (by rw [ev113]; rfl) (by decide) rfl (fun ls hl => ?_)
          refine lv_goto (tgt := 23) hx hb dL_law_1906 (by decide) ?_
          refine W.widen (k := 4000 + 3 * (k + 1)) (n := 40000 + 18 * (k + 1)) (by omega) (by omega) ?_
          exact it_back hF hk (k + 1) _ _ _ (law_k1 ek ev113) (law_k2 hL hk0 ek h4) hw hS (lv_sub hl [3, 4, 5, 6, 0] rfl)
        · have hF := it_t h112 hF
          refine lv_aload_n hx hb dL_law_403 rfl (lv_at hl 5 rfl) ?_
          refine lv_iconst (v := 0) hx hb dL_law_404 (by decide) ?_
          refine ld_out hC hw (by omega) dL_law_405 ?_
          refine lv_iload hx hb dL_law_406 (lv_at hl 0 rfl) ?_
          refine lv_i2l (v := (r105).toInt64) hx hb dL_law_408 rfl ?_
          refine W.lcmp hx hb dL_law_409 ?_
          refine lv_if_eq (tgt := 415) hx hb dL_law_410 (by decide) (fun h114 => ?_) (fun h114 => ?_)
          · have hF := it_t h114 hF
            refine lv_goto (tgt := 1903) hx hb dL_law_415 (by decide) ?_
            obtain ⟨v115, ev115, hF⟩ := nm_t hF
            refine lv_iinc (v := v115) (lv' := [(4, .int v115), (6, .int r105), (5, .int r100), (0, .ref b), (1, .ref (bb G + 0)), (2, .ref (bb G + 244)), (3, .ref (bb G + 252))]) hx hb dL_law_1903 hl (k := 6) rfl (by rw [ev115]; rfl) (by decide) rfl (fun ls hl => ?_)
            refine lv_goto (tgt := 23) hx hb dL_law_1906 (by decide) ?_
            refine W.widen (k := 4000 + 3 * (k + 1)) (n := 40000 + 18 * (k + 1)) (by omega) (by omega) ?_
            exact it_back hF hk (k + 1) _ _ _ (law_k1 ek ev115) (law_k2 hL hk0 ek h4) hw hS (lv_sub hl [3, 4, 5, 6, 0] rfl)
          · have hF := it_f h114 hF
            refine lv_iconst (v := 0) hx hb dL_law_413 (by decide) ?_
            cases hF
      · have hF := it_f h111 hF
        refine lv_iconst (v := 0) hx hb dL_law_396 (by decide) ?_
        cases hF
    have hF := it_f h12 hF
    by_cases h13 : v6 = (6 : Int32)
    · have hF := it_t h13 hF
      unfold K_L_6 at hF
      refine lv_tableIn (tgt := 418) (off := 379) hx hb dL_law_39 (by rw [h13]; decide) (by rw [h13]; decide) (by rw [h13]; rfl) (by decide) ?_
      refine lv_aload_n hx hb dL_law_418 rfl (lv_at hl 1 rfl) ?_
      refine lv_aload_n hx hb dL_law_419 rfl (lv_at hl 0 rfl) ?_
      refine lv_iload hx hb dL_law_420 (lv_at hl 4 rfl) ?_
      refine lv_iconst (v := 1) hx hb dL_law_422 (by decide) ?_
      refine lv_iadd hx hb dL_law_423 ?_
      obtain ⟨g116, hF⟩ := gi_t hF
      refine va_sld hx hb hX hbl (Nat.not_le.mpr (by rw [hbb]; exact hbl)) hS g116 dL_law_424 ?_
      refine lv_aload_n hx hb dL_law_425 rfl (lv_at hl 0 rfl) ?_
      refine lv_iload hx hb dL_law_426 (lv_at hl 4 rfl) ?_
      refine lv_iconst (v := 2) hx hb dL_law_428 (by decide) ?_
      refine lv_iadd hx hb dL_law_429 ?_
      obtain ⟨g117, hF⟩ := gi_t hF
      refine va_sld hx hb hX hbl (Nat.not_le.mpr (by rw [hbb]; exact hbl)) hS g117 dL_law_430 ?_
      refine lv_aload_n hx hb dL_law_431 rfl (lv_at hl 3 rfl) ?_
      obtain ⟨r118, C119, hc120, hF⟩ := b2_t hF
      refine call_SW hC (c_L_flue l G n hn (by omega) hfl (xs ((v1 + (1 : Int32))).toNatClampNeg) (xs ((v1 + (2 : Int32))).toNatClampNeg) _ _ _ hc120) wwL_132 ⟨rfl, rfl, by decide, by decide⟩ hw hS hl.1 rfl (rest := []) rfl (Nat.le_of_ble_eq_true rfl) dL_law_432 ⟨by omega, by omega⟩ (fun H locs hw hS => ?_)
      refine lv_istore (lv' := [(5, .int r118), (0, .ref b), (1, .ref (bb G + 0)), (2, .ref (bb G + 244)), (3, .ref (bb G + 252)), (4, .int v1)]) hx hb dL_law_435 hl (by decide) rfl (fun ls hl => ?_)
      refine lv_aload_n hx hb dL_law_437 rfl (lv_at hl 3 rfl) ?_
      refine lv_aload_n hx hb dL_law_438 rfl (lv_at hl 1 rfl) ?_
      refine lv_iload hx hb dL_law_439 (lv_at hl 5 rfl) ?_
      refine lv_iconst (v := 1) hx hb dL_law_441 (by decide) ?_
      refine lv_iadd hx hb dL_law_442 ?_
      obtain ⟨g121, hF⟩ := gi_t hF
      refine va_sld hx hb hX hbl (Nat.not_le.mpr (by rw [hbb]; exact hbl)) hS g121 dL_law_443 ?_
      refine lv_aload_n hx hb dL_law_444 rfl (lv_at hl 1 rfl) ?_
      refine lv_iload hx hb dL_law_445 (lv_at hl 5 rfl) ?_
      refine lv_iconst (v := 2) hx hb dL_law_447 (by decide) ?_
      refine lv_iadd hx hb dL_law_448 ?_
      obtain ⟨g122, hF⟩ := gi_t hF
      refine va_sld hx hb hX hbl (Nat.not_le.mpr (by rw [hbb]; exact hbl)) hS g122 dL_law_449 ?_
      obtain ⟨r123, C124, hc125, hF⟩ := b2_t hF
      refine call_Vi hC (c_X9_flue l G n (by omega) hn2 (xs ((v1 + (1 : Int32))).toNatClampNeg) (xs ((v1 + (2 : Int32))).toNatClampNeg) _ _ _ hc125) wvL_134 ⟨rfl, rfl, by decide, by decide⟩ hw hS (by omega) ca_model rfl hl.1 rfl (rest := []) rfl (Nat.le_of_ble_eq_true rfl) dL_law_450 ⟨by omega, by omega⟩ (fun H locs hw hS _ => ?_)
      refine lv_istore (lv' := [(6, .int r123), (5, .int r118), (0, .ref b), (1, .ref (bb G + 0)), (2, .ref (bb G + 244)), (3, .ref (bb G + 252)), (4, .int v1)]) hx hb dL_law_453 hl (by decide) rfl (fun ls hl => ?_)
      refine lv_aload_n hx hb dL_law_455 rfl (lv_at hl 4 rfl) ?_
      obtain ⟨r126, C127, hc128, hF⟩ := b2_t hF
      refine call_Vi hC (c_X9_thrown l G n (by omega) hn2  _ _ _ hc128) wvL_110 ⟨rfl, rfl, by decide, by decide⟩ hw hS (by omega) ca_model rfl hl.1 rfl (rest := []) rfl (Nat.le_of_ble_eq_true rfl) dL_law_456 ⟨by omega, by omega⟩ (fun H locs hw hS _ => ?_)
      refine lv_iload hx hb dL_law_459 (lv_at hl 1 rfl) ?_
      refine lv_icmp_eq (tgt := 466) hx hb dL_law_461 (by decide) (fun h129 => ?_) (fun h129 => ?_)
      · have hF := it_t h129 hF
        refine lv_iload hx hb dL_law_466 (lv_at hl 1 rfl) ?_
        refine lv_if_ne (tgt := 483) hx hb dL_law_468 (by decide) (fun h130 => ?_) (fun h130 => ?_)
        · have hF := it_f h130 hF
          refine lv_goto (tgt := 1903) hx hb dL_law_483 (by decide) ?_
          obtain ⟨v131, ev131, hF⟩ := nm_t hF
          refine lv_iinc (v := v131) (lv' := [(4, .int v131), (6, .int r123), (5, .int r118), (0, .ref b), (1, .ref (bb G + 0)), (2, .ref (bb G + 244)), (3, .ref (bb G + 252))]) hx hb dL_law_1903 hl (k := 6) rfl (by rw [ev131]; rfl) (by decide) rfl (fun ls hl => ?_)
          refine lv_goto (tgt := 23) hx hb dL_law_1906 (by decide) ?_
          refine W.widen (k := 4000 + 3 * (k + 1)) (n := 40000 + 18 * (k + 1)) (by omega) (by omega) ?_
          exact it_back hF hk (k + 1) _ _ _ (law_k1 ek ev131) (law_k2 hL hk0 ek h4) hw hS (lv_sub hl [3, 4, 5, 6, 0] rfl)
        · have hF := it_t h130 hF
          refine lv_aload_n hx hb dL_law_471 rfl (lv_at hl 5 rfl) ?_
          refine lv_iconst (v := 0) hx hb dL_law_472 (by decide) ?_
          refine ld_out hC hw (by omega) dL_law_473 ?_
          refine lv_iload hx hb dL_law_474 (lv_at hl 0 rfl) ?_
          refine lv_i2l (v := (r123).toInt64) hx hb dL_law_476 rfl ?_
          refine W.lcmp hx hb dL_law_477 ?_
          refine lv_if_eq (tgt := 483) hx hb dL_law_478 (by decide) (fun h132 => ?_) (fun h132 => ?_)
          · have hF := it_t h132 hF
            refine lv_goto (tgt := 1903) hx hb dL_law_483 (by decide) ?_
            obtain ⟨v133, ev133, hF⟩ := nm_t hF
            refine lv_iinc (v := v133) (lv' := [(4, .int v133), (6, .int r123), (5, .int r118), (0, .ref b), (1, .ref (bb G + 0)), (2, .ref (bb G + 244)), (3, .ref (bb G + 252))]) hx hb dL_law_1903 hl (k := 6) rfl (by rw [ev133]; rfl) (by decide) rfl (fun ls hl => ?_)
            refine lv_goto (tgt := 23) hx hb dL_law_1906 (by decide) ?_
            refine W.widen (k := 4000 + 3 * (k + 1)) (n := 40000 + 18 * (k + 1)) (by omega) (by omega) ?_
            exact it_back hF hk (k + 1) _ _ _ (law_k1 ek ev133) (law_k2 hL hk0 ek h4) hw hS (lv_sub hl [3, 4, 5, 6, 0] rfl)
          · have hF := it_f h132 hF
            refine lv_iconst (v := 0) hx hb dL_law_481 (by decide) ?_
            cases hF
      · have hF := it_f h129 hF
        refine lv_iconst (v := 0) hx hb dL_law_464 (by decide) ?_
        cases hF
    have hF := it_f h13 hF
    by_cases h14 : v6 = (7 : Int32)
    · have hF := it_t h14 hF
      unfold K_L_7 at hF
      refine lv_tableIn (tgt := 486) (off := 447) hx hb dL_law_39 (by rw [h14]; decide) (by rw [h14]; decide) (by rw [h14]; rfl) (by decide) ?_
      refine lv_aload_n hx hb dL_law_486 rfl (lv_at hl 1 rfl) ?_
      refine lv_aload_n hx hb dL_law_487 rfl (lv_at hl 0 rfl) ?_
      refine lv_iload hx hb dL_law_488 (lv_at hl 4 rfl) ?_
      refine lv_iconst (v := 1) hx hb dL_law_490 (by decide) ?_
      refine lv_iadd hx hb dL_law_491 ?_
      obtain ⟨g134, hF⟩ := gi_t hF
      refine va_sld hx hb hX hbl (Nat.not_le.mpr (by rw [hbb]; exact hbl)) hS g134 dL_law_492 ?_
      refine lv_aload_n hx hb dL_law_493 rfl (lv_at hl 3 rfl) ?_
      obtain ⟨r135, C136, hc137, hF⟩ := b2_t hF
      refine call_SW hC (c_L_layer l G n hn (by omega) hfl (xs ((v1 + (1 : Int32))).toNatClampNeg) _ _ _ hc137) wwL_135 ⟨rfl, rfl, by decide, by decide⟩ hw hS hl.1 rfl (rest := []) rfl (Nat.le_of_ble_eq_true rfl) dL_law_494 ⟨by omega, by omega⟩ (fun H locs hw hS => ?_)
      refine lv_istore (lv' := [(5, .int r135), (0, .ref b), (1, .ref (bb G + 0)), (2, .ref (bb G + 244)), (3, .ref (bb G + 252)), (4, .int v1)]) hx hb dL_law_497 hl (by decide) rfl (fun ls hl => ?_)
      refine lv_aload_n hx hb dL_law_499 rfl (lv_at hl 3 rfl) ?_
      refine lv_aload_n hx hb dL_law_500 rfl (lv_at hl 1 rfl) ?_
      refine lv_iload hx hb dL_law_501 (lv_at hl 5 rfl) ?_
      refine lv_iconst (v := 1) hx hb dL_law_503 (by decide) ?_
      refine lv_iadd hx hb dL_law_504 ?_
      obtain ⟨g138, hF⟩ := gi_t hF
      refine va_sld hx hb hX hbl (Nat.not_le.mpr (by rw [hbb]; exact hbl)) hS g138 dL_law_505 ?_
      obtain ⟨r139, C140, hc141, hF⟩ := b2_t hF
      refine call_Vi hC (c_X9_layer l G n (by omega) hn2 (xs ((v1 + (1 : Int32))).toNatClampNeg) _ _ _ hc141) wvL_137 ⟨rfl, rfl, by decide, by decide⟩ hw hS (by omega) ca_model rfl hl.1 rfl (rest := []) rfl (Nat.le_of_ble_eq_true rfl) dL_law_506 ⟨by omega, by omega⟩ (fun H locs hw hS _ => ?_)
      refine lv_istore (lv' := [(6, .int r139), (5, .int r135), (0, .ref b), (1, .ref (bb G + 0)), (2, .ref (bb G + 244)), (3, .ref (bb G + 252)), (4, .int v1)]) hx hb dL_law_509 hl (by decide) rfl (fun ls hl => ?_)
      refine lv_aload_n hx hb dL_law_511 rfl (lv_at hl 4 rfl) ?_
      obtain ⟨r142, C143, hc144, hF⟩ := b2_t hF
      refine call_Vi hC (c_X9_thrown l G n (by omega) hn2  _ _ _ hc144) wvL_110 ⟨rfl, rfl, by decide, by decide⟩ hw hS (by omega) ca_model rfl hl.1 rfl (rest := []) rfl (Nat.le_of_ble_eq_true rfl) dL_law_512 ⟨by omega, by omega⟩ (fun H locs hw hS _ => ?_)
      refine lv_iload hx hb dL_law_515 (lv_at hl 1 rfl) ?_
      refine lv_icmp_eq (tgt := 522) hx hb dL_law_517 (by decide) (fun h145 => ?_) (fun h145 => ?_)
      · have hF := it_t h145 hF
        refine lv_iload hx hb dL_law_522 (lv_at hl 1 rfl) ?_
        refine lv_if_ne (tgt := 539) hx hb dL_law_524 (by decide) (fun h146 => ?_) (fun h146 => ?_)
        · have hF := it_f h146 hF
          refine lv_goto (tgt := 1903) hx hb dL_law_539 (by decide) ?_
          obtain ⟨v147, ev147, hF⟩ := nm_t hF
          refine lv_iinc (v := v147) (lv' := [(4, .int v147), (6, .int r139), (5, .int r135), (0, .ref b), (1, .ref (bb G + 0)), (2, .ref (bb G + 244)), (3, .ref (bb G + 252))]) hx hb dL_law_1903 hl (k := 6) rfl (by rw [ev147]; rfl) (by decide) rfl (fun ls hl => ?_)
          refine lv_goto (tgt := 23) hx hb dL_law_1906 (by decide) ?_
          refine W.widen (k := 4000 + 3 * (k + 1)) (n := 40000 + 18 * (k + 1)) (by omega) (by omega) ?_
          exact it_back hF hk (k + 1) _ _ _ (law_k1 ek ev147) (law_k2 hL hk0 ek h4) hw hS (lv_sub hl [3, 4, 5, 6, 0] rfl)
        · have hF := it_t h146 hF
          refine lv_aload_n hx hb dL_law_527 rfl (lv_at hl 5 rfl) ?_
          refine lv_iconst (v := 0) hx hb dL_law_528 (by decide) ?_
          refine ld_out hC hw (by omega) dL_law_529 ?_
          refine lv_iload hx hb dL_law_530 (lv_at hl 0 rfl) ?_
          refine lv_i2l (v := (r139).toInt64) hx hb dL_law_532 rfl ?_
          refine W.lcmp hx hb dL_law_533 ?_
          refine lv_if_eq (tgt := 539) hx hb dL_law_534 (by decide) (fun h148 => ?_) (fun h148 => ?_)
          · have hF := it_t h148 hF
            refine lv_goto (tgt := 1903) hx hb dL_law_539 (by decide) ?_
            obtain ⟨v149, ev149, hF⟩ := nm_t hF
            refine lv_iinc (v := v149) (lv' := [(4, .int v149), (6, .int r139), (5, .int r135), (0, .ref b), (1, .ref (bb G + 0)), (2, .ref (bb G + 244)), (3, .ref (bb G + 252))]) hx hb dL_law_1903 hl (k := 6) rfl (by rw [ev149]; rfl) (by decide) rfl (fun ls hl => ?_)
            refine lv_goto (tgt := 23) hx hb dL_law_1906 (by decide) ?_
            refine W.widen (k := 4000 + 3 * (k + 1)) (n := 40000 + 18 * (k + 1)) (by omega) (by omega) ?_
            exact it_back hF hk (k + 1) _ _ _ (law_k1 ek ev149) (law_k2 hL hk0 ek h4) hw hS (lv_sub hl [3, 4, 5, 6, 0] rfl)
          · have hF := it_f h148 hF
            refine lv_iconst (v := 0) hx hb dL_law_537 (by decide) ?_
            cases hF
      · have hF := it_f h145 hF
        refine lv_iconst (v := 0) hx hb dL_law_520 (by decide) ?_
        cases hF
    have hF := it_f h14 hF
    by_cases h15 : v6 = (8 : Int32)
    · have hF := it_t h15 hF
      unfold K_L_8 at hF
      refine lv_tableIn (tgt := 542) (off := 503) hx hb dL_law_39 (by rw [h15]; decide) (by rw [h15]; decide) (by rw [h15]; rfl) (by decide) ?_
      refine lv_aload_n hx hb dL_law_542 rfl (lv_at hl 1 rfl) ?_
      refine lv_aload_n hx hb dL_law_543 rfl (lv_at hl 0 rfl) ?_
      refine lv_iload hx hb dL_law_544 (lv_at hl 4 rfl) ?_
      refine lv_iconst (v := 1) hx hb dL_law_546 (by decide) ?_
      refine lv_iadd hx hb dL_law_547 ?_
      obtain ⟨g150, hF⟩ := gi_t hF
      refine va_sld hx hb hX hbl (Nat.not_le.mpr (by rw [hbb]; exact hbl)) hS g150 dL_law_548 ?_
      refine lv_aload_n hx hb dL_law_549 rfl (lv_at hl 3 rfl) ?_
      obtain ⟨r151, C152, hc153, hF⟩ := b2_t hF
      refine call_SW hC (c_L_account l G n hn (by omega) hfl (xs ((v1 + (1 : Int32))).toNatClampNeg) _ _ _ hc153) wwL_138 ⟨rfl, rfl, by decide, by decide⟩ hw hS hl.1 rfl (rest := []) rfl (Nat.le_of_ble_eq_true rfl) dL_law_550 ⟨by omega, by omega⟩ (fun H locs hw hS => ?_)
      refine lv_istore (lv' := [(5, .int r151), (0, .ref b), (1, .ref (bb G + 0)), (2, .ref (bb G + 244)), (3, .ref (bb G + 252)), (4, .int v1)]) hx hb dL_law_553 hl (by decide) rfl (fun ls hl => ?_)
      refine lv_aload_n hx hb dL_law_555 rfl (lv_at hl 3 rfl) ?_
      refine lv_aload_n hx hb dL_law_556 rfl (lv_at hl 1 rfl) ?_
      refine lv_iload hx hb dL_law_557 (lv_at hl 5 rfl) ?_
      refine lv_iconst (v := 1) hx hb dL_law_559 (by decide) ?_
      refine lv_iadd hx hb dL_law_560 ?_
      obtain ⟨g154, hF⟩ := gi_t hF
      refine va_sld hx hb hX hbl (Nat.not_le.mpr (by rw [hbb]; exact hbl)) hS g154 dL_law_561 ?_
      obtain ⟨r155, C156, hc157, hF⟩ := b2_t hF
      refine call_Vi hC (c_X9_account l G n (by omega) hn2 (xs ((v1 + (1 : Int32))).toNatClampNeg) _ _ _ hc157) wvL_140 ⟨rfl, rfl, by decide, by decide⟩ hw hS (by omega) ca_model rfl hl.1 rfl (rest := []) rfl (Nat.le_of_ble_eq_true rfl) dL_law_562 ⟨by omega, by omega⟩ (fun H locs hw hS _ => ?_)
      refine lv_istore (lv' := [(6, .int r155), (5, .int r151), (0, .ref b), (1, .ref (bb G + 0)), (2, .ref (bb G + 244)), (3, .ref (bb G + 252)), (4, .int v1)]) hx hb dL_law_565 hl (by decide) rfl (fun ls hl => ?_)
      refine lv_aload_n hx hb dL_law_567 rfl (lv_at hl 4 rfl) ?_
      obtain ⟨r158, C159, hc160, hF⟩ := b2_t hF
      refine call_Vi hC (c_X9_thrown l G n (by omega) hn2  _ _ _ hc160) wvL_110 ⟨rfl, rfl, by decide, by decide⟩ hw hS (by omega) ca_model rfl hl.1 rfl (rest := []) rfl (Nat.le_of_ble_eq_true rfl) dL_law_568 ⟨by omega, by omega⟩ (fun H locs hw hS _ => ?_)
      refine lv_iload hx hb dL_law_571 (lv_at hl 1 rfl) ?_
      refine lv_icmp_eq (tgt := 578) hx hb dL_law_573 (by decide) (fun h161 => ?_) (fun h161 => ?_)
      · have hF := it_t h161 hF
        refine lv_iload hx hb dL_law_578 (lv_at hl 1 rfl) ?_
        refine lv_if_ne (tgt := 595) hx hb dL_law_580 (by decide) (fun h162 => ?_) (fun h162 => ?_)
        · have hF := it_f h162 hF
          refine lv_goto (tgt := 1903) hx hb dL_law_595 (by decide) ?_
          obtain ⟨v163, ev163, hF⟩ := nm_t hF
          refine lv_iinc (v := v163) (lv' := [(4, .int v163), (6, .int r155), (5, .int r151), (0, .ref b), (1, .ref (bb G + 0)), (2, .ref (bb G + 244)), (3, .ref (bb G + 252))]) hx hb dL_law_1903 hl (k := 6) rfl (by rw [ev163]; rfl) (by decide) rfl (fun ls hl => ?_)
          refine lv_goto (tgt := 23) hx hb dL_law_1906 (by decide) ?_
          refine W.widen (k := 4000 + 3 * (k + 1)) (n := 40000 + 18 * (k + 1)) (by omega) (by omega) ?_
          exact it_back hF hk (k + 1) _ _ _ (law_k1 ek ev163) (law_k2 hL hk0 ek h4) hw hS (lv_sub hl [3, 4, 5, 6, 0] rfl)
        · have hF := it_t h162 hF
          refine lv_aload_n hx hb dL_law_583 rfl (lv_at hl 5 rfl) ?_
          refine lv_iconst (v := 0) hx hb dL_law_584 (by decide) ?_
          refine ld_out hC hw (by omega) dL_law_585 ?_
          refine lv_iload hx hb dL_law_586 (lv_at hl 0 rfl) ?_
          refine lv_i2l (v := (r155).toInt64) hx hb dL_law_588 rfl ?_
          refine W.lcmp hx hb dL_law_589 ?_
          refine lv_if_eq (tgt := 595) hx hb dL_law_590 (by decide) (fun h164 => ?_) (fun h164 => ?_)
          · have hF := it_t h164 hF
            refine lv_goto (tgt := 1903) hx hb dL_law_595 (by decide) ?_
            obtain ⟨v165, ev165, hF⟩ := nm_t hF
            refine lv_iinc (v := v165) (lv' := [(4, .int v165), (6, .int r155), (5, .int r151), (0, .ref b), (1, .ref (bb G + 0)), (2, .ref (bb G + 244)), (3, .ref (bb G + 252))]) hx hb dL_law_1903 hl (k := 6) rfl (by rw [ev165]; rfl) (by decide) rfl (fun ls hl => ?_)
            refine lv_goto (tgt := 23) hx hb dL_law_1906 (by decide) ?_
            refine W.widen (k := 4000 + 3 * (k + 1)) (n := 40000 + 18 * (k + 1)) (by omega) (by omega) ?_
            exact it_back hF hk (k + 1) _ _ _ (law_k1 ek ev165) (law_k2 hL hk0 ek h4) hw hS (lv_sub hl [3, 4, 5, 6, 0] rfl)
          · have hF := it_f h164 hF
            refine lv_iconst (v := 0) hx hb dL_law_593 (by decide) ?_
            cases hF
      · have hF := it_f h161 hF
        refine lv_iconst (v := 0) hx hb dL_law_576 (by decide) ?_
        cases hF
    have hF := it_f h15 hF
    by_cases h16 : v6 = (9 : Int32)
    · have hF := it_t h16 hF
      unfold K_L_9 at hF
      refine lv_tableIn (tgt := 598) (off := 559) hx hb dL_law_39 (by rw [h16]; decide) (by rw [h16]; decide) (by rw [h16]; rfl) (by decide) ?_
      refine lv_aload_n hx hb dL_law_598 rfl (lv_at hl 1 rfl) ?_
      refine lv_aload_n hx hb dL_law_599 rfl (lv_at hl 0 rfl) ?_
      refine lv_iload hx hb dL_law_600 (lv_at hl 4 rfl) ?_
      refine lv_iconst (v := 1) hx hb dL_law_602 (by decide) ?_
      refine lv_iadd hx hb dL_law_603 ?_
      obtain ⟨g166, hF⟩ := gi_t hF
      refine va_sld hx hb hX hbl (Nat.not_le.mpr (by rw [hbb]; exact hbl)) hS g166 dL_law_604 ?_
      refine lv_aload_n hx hb dL_law_605 rfl (lv_at hl 0 rfl) ?_
      refine lv_iload hx hb dL_law_606 (lv_at hl 4 rfl) ?_
      refine lv_iconst (v := 2) hx hb dL_law_608 (by decide) ?_
      refine lv_iadd hx hb dL_law_609 ?_
      obtain ⟨g167, hF⟩ := gi_t hF
      refine va_sld hx hb hX hbl (Nat.not_le.mpr (by rw [hbb]; exact hbl)) hS g167 dL_law_610 ?_
      refine lv_aload_n hx hb dL_law_611 rfl (lv_at hl 3 rfl) ?_
      obtain ⟨r168, C169, hc170, hF⟩ := b2_t hF
      refine call_SW hC (c_L_tick l G n hn (by omega) hfl (xs ((v1 + (1 : Int32))).toNatClampNeg) (xs ((v1 + (2 : Int32))).toNatClampNeg) _ _ _ hc170) wwL_141 ⟨rfl, rfl, by decide, by decide⟩ hw hS hl.1 rfl (rest := []) rfl (Nat.le_of_ble_eq_true rfl) dL_law_612 ⟨by omega, by omega⟩ (fun H locs hw hS => ?_)
      refine lv_istore (lv' := [(5, .int r168), (0, .ref b), (1, .ref (bb G + 0)), (2, .ref (bb G + 244)), (3, .ref (bb G + 252)), (4, .int v1)]) hx hb dL_law_615 hl (by decide) rfl (fun ls hl => ?_)
      refine lv_aload_n hx hb dL_law_617 rfl (lv_at hl 3 rfl) ?_
      refine lv_aload_n hx hb dL_law_618 rfl (lv_at hl 1 rfl) ?_
      refine lv_iload hx hb dL_law_619 (lv_at hl 5 rfl) ?_
      refine lv_iconst (v := 1) hx hb dL_law_621 (by decide) ?_
      refine lv_iadd hx hb dL_law_622 ?_
      obtain ⟨g171, hF⟩ := gi_t hF
      refine va_sld hx hb hX hbl (Nat.not_le.mpr (by rw [hbb]; exact hbl)) hS g171 dL_law_623 ?_
      refine lv_aload_n hx hb dL_law_624 rfl (lv_at hl 1 rfl) ?_
      refine lv_iload hx hb dL_law_625 (lv_at hl 5 rfl) ?_
      refine lv_iconst (v := 2) hx hb dL_law_627 (by decide) ?_
      refine lv_iadd hx hb dL_law_628 ?_
      obtain ⟨g172, hF⟩ := gi_t hF
      refine va_sld hx hb hX hbl (Nat.not_le.mpr (by rw [hbb]; exact hbl)) hS g172 dL_law_629 ?_
      obtain ⟨r173, C174, hc175, hF⟩ := b2_t hF
      refine call_Vi hC (c_X9_tick l G n (by omega) hn2 (xs ((v1 + (1 : Int32))).toNatClampNeg) (xs ((v1 + (2 : Int32))).toNatClampNeg) _ _ _ hc175) wvL_143 ⟨rfl, rfl, by decide, by decide⟩ hw hS (by omega) ca_model rfl hl.1 rfl (rest := []) rfl (Nat.le_of_ble_eq_true rfl) dL_law_630 ⟨by omega, by omega⟩ (fun H locs hw hS _ => ?_)
      refine lv_istore (lv' := [(6, .int r173), (5, .int r168), (0, .ref b), (1, .ref (bb G + 0)), (2, .ref (bb G + 244)), (3, .ref (bb G + 252)), (4, .int v1)]) hx hb dL_law_633 hl (by decide) rfl (fun ls hl => ?_)
      refine lv_aload_n hx hb dL_law_635 rfl (lv_at hl 4 rfl) ?_
      obtain ⟨r176, C177, hc178, hF⟩ := b2_t hF
      refine call_Vi hC (c_X9_thrown l G n (by omega) hn2  _ _ _ hc178) wvL_110 ⟨rfl, rfl, by decide, by decide⟩ hw hS (by omega) ca_model rfl hl.1 rfl (rest := []) rfl (Nat.le_of_ble_eq_true rfl) dL_law_636 ⟨by omega, by omega⟩ (fun H locs hw hS _ => ?_)
      refine lv_iload hx hb dL_law_639 (lv_at hl 1 rfl) ?_
      refine lv_icmp_eq (tgt := 646) hx hb dL_law_641 (by decide) (fun h179 => ?_) (fun h179 => ?_)
      · have hF := it_t h179 hF
        refine lv_iload hx hb dL_law_646 (lv_at hl 1 rfl) ?_
        refine lv_if_ne (tgt := 663) hx hb dL_law_648 (by decide) (fun h180 => ?_) (fun h180 => ?_)
        · have hF := it_f h180 hF
          refine lv_goto (tgt := 1903) hx hb dL_law_663 (by decide) ?_
          obtain ⟨v181, ev181, hF⟩ := nm_t hF
          refine lv_iinc (v := v181) (lv' := [(4, .int v181), (6, .int r173), (5, .int r168), (0, .ref b), (1, .ref (bb G + 0)), (2, .ref (bb G + 244)), (3, .ref (bb G + 252))]) hx hb dL_law_1903 hl (k := 6) rfl (by rw [ev181]; rfl) (by decide) rfl (fun ls hl => ?_)
          refine lv_goto (tgt := 23) hx hb dL_law_1906 (by decide) ?_
          refine W.widen (k := 4000 + 3 * (k + 1)) (n := 40000 + 18 * (k + 1)) (by omega) (by omega) ?_
          exact it_back hF hk (k + 1) _ _ _ (law_k1 ek ev181) (law_k2 hL hk0 ek h4) hw hS (lv_sub hl [3, 4, 5, 6, 0] rfl)
        · have hF := it_t h180 hF
          refine lv_aload_n hx hb dL_law_651 rfl (lv_at hl 5 rfl) ?_
          refine lv_iconst (v := 0) hx hb dL_law_652 (by decide) ?_
          refine ld_out hC hw (by omega) dL_law_653 ?_
          refine lv_iload hx hb dL_law_654 (lv_at hl 0 rfl) ?_
          refine lv_i2l (v := (r173).toInt64) hx hb dL_law_656 rfl ?_
          refine W.lcmp hx hb dL_law_657 ?_
          refine lv_if_eq (tgt := 663) hx hb dL_law_658 (by decide) (fun h182 => ?_) (fun h182 => ?_)
          · have hF := it_t h182 hF
            refine lv_goto (tgt := 1903) hx hb dL_law_663 (by decide) ?_
            obtain ⟨v183, ev183, hF⟩ := nm_t hF
            refine lv_iinc (v := v183) (lv' := [(4, .int v183), (6, .int r173), (5, .int r168), (0, .ref b), (1, .ref (bb G + 0)), (2, .ref (bb G + 244)), (3, .ref (bb G + 252))]) hx hb dL_law_1903 hl (k := 6) rfl (by rw [ev183]; rfl) (by decide) rfl (fun ls hl => ?_)
            refine lv_goto (tgt := 23) hx hb dL_law_1906 (by decide) ?_
            refine W.widen (k := 4000 + 3 * (k + 1)) (n := 40000 + 18 * (k + 1)) (by omega) (by omega) ?_
            exact it_back hF hk (k + 1) _ _ _ (law_k1 ek ev183) (law_k2 hL hk0 ek h4) hw hS (lv_sub hl [3, 4, 5, 6, 0] rfl)
          · have hF := it_f h182 hF
            refine lv_iconst (v := 0) hx hb dL_law_661 (by decide) ?_
            cases hF
      · have hF := it_f h179 hF
        refine lv_iconst (v := 0) hx hb dL_law_644 (by decide) ?_
        cases hF
    have hF := it_f h16 hF
    by_cases h17 : v6 = (10 : Int32)
    · have hF := it_t h17 hF
      unfold K_L_10 at hF
      refine lv_tableIn (tgt := 666) (off := 627) hx hb dL_law_39 (by rw [h17]; decide) (by rw [h17]; decide) (by rw [h17]; rfl) (by decide) ?_
      refine lv_aload_n hx hb dL_law_666 rfl (lv_at hl 1 rfl) ?_
      refine lv_aload_n hx hb dL_law_667 rfl (lv_at hl 0 rfl) ?_
      refine lv_iload hx hb dL_law_668 (lv_at hl 4 rfl) ?_
      refine lv_iconst (v := 1) hx hb dL_law_670 (by decide) ?_
      refine lv_iadd hx hb dL_law_671 ?_
      obtain ⟨g184, hF⟩ := gi_t hF
      refine va_sld hx hb hX hbl (Nat.not_le.mpr (by rw [hbb]; exact hbl)) hS g184 dL_law_672 ?_
      refine lv_aload_n hx hb dL_law_673 rfl (lv_at hl 3 rfl) ?_
      obtain ⟨r185, C186, hc187, hF⟩ := b2_t hF
      refine call_SW hC (c_L_draw l G n hn (by omega) hfl (xs ((v1 + (1 : Int32))).toNatClampNeg) _ _ _ hc187) wwL_144 ⟨rfl, rfl, by decide, by decide⟩ hw hS hl.1 rfl (rest := []) rfl (Nat.le_of_ble_eq_true rfl) dL_law_674 ⟨by omega, by omega⟩ (fun H locs hw hS => ?_)
      refine lv_istore (lv' := [(5, .int r185), (0, .ref b), (1, .ref (bb G + 0)), (2, .ref (bb G + 244)), (3, .ref (bb G + 252)), (4, .int v1)]) hx hb dL_law_677 hl (by decide) rfl (fun ls hl => ?_)
      refine lv_aload_n hx hb dL_law_679 rfl (lv_at hl 3 rfl) ?_
      refine lv_aload_n hx hb dL_law_680 rfl (lv_at hl 1 rfl) ?_
      refine lv_iload hx hb dL_law_681 (lv_at hl 5 rfl) ?_
      refine lv_iconst (v := 1) hx hb dL_law_683 (by decide) ?_
      refine lv_iadd hx hb dL_law_684 ?_
      obtain ⟨g188, hF⟩ := gi_t hF
      refine va_sld hx hb hX hbl (Nat.not_le.mpr (by rw [hbb]; exact hbl)) hS g188 dL_law_685 ?_
      obtain ⟨r189, C190, hc191, hF⟩ := b2_t hF
      refine call_Vi hC (c_X9_draw l G n (by omega) hn2 (xs ((v1 + (1 : Int32))).toNatClampNeg) _ _ _ hc191) wvL_146 ⟨rfl, rfl, by decide, by decide⟩ hw hS (by omega) ca_model rfl hl.1 rfl (rest := []) rfl (Nat.le_of_ble_eq_true rfl) dL_law_686 ⟨by omega, by omega⟩ (fun H locs hw hS _ => ?_)
      refine lv_istore (lv' := [(6, .int r189), (5, .int r185), (0, .ref b), (1, .ref (bb G + 0)), (2, .ref (bb G + 244)), (3, .ref (bb G + 252)), (4, .int v1)]) hx hb dL_law_689 hl (by decide) rfl (fun ls hl => ?_)
      refine lv_aload_n hx hb dL_law_691 rfl (lv_at hl 4 rfl) ?_
      obtain ⟨r192, C193, hc194, hF⟩ := b2_t hF
      refine call_Vi hC (c_X9_thrown l G n (by omega) hn2  _ _ _ hc194) wvL_110 ⟨rfl, rfl, by decide, by decide⟩ hw hS (by omega) ca_model rfl hl.1 rfl (rest := []) rfl (Nat.le_of_ble_eq_true rfl) dL_law_692 ⟨by omega, by omega⟩ (fun H locs hw hS _ => ?_)
      refine lv_iload hx hb dL_law_695 (lv_at hl 1 rfl) ?_
      refine lv_icmp_eq (tgt := 702) hx hb dL_law_697 (by decide) (fun h195 => ?_) (fun h195 => ?_)
      · have hF := it_t h195 hF
        refine lv_iload hx hb dL_law_702 (lv_at hl 1 rfl) ?_
        refine lv_if_ne (tgt := 719) hx hb dL_law_704 (by decide) (fun h196 => ?_) (fun h196 => ?_)
        · have hF := it_f h196 hF
          refine lv_goto (tgt := 1903) hx hb dL_law_719 (by decide) ?_
          obtain ⟨v197, ev197, hF⟩ := nm_t hF
          refine lv_iinc (v := v197) (lv' := [(4, .int v197), (6, .int r189), (5, .int r185), (0, .ref b), (1, .ref (bb G + 0)), (2, .ref (bb G + 244)), (3, .ref (bb G + 252))]) hx hb dL_law_1903 hl (k := 6) rfl (by rw [ev197]; rfl) (by decide) rfl (fun ls hl => ?_)
          refine lv_goto (tgt := 23) hx hb dL_law_1906 (by decide) ?_
          refine W.widen (k := 4000 + 3 * (k + 1)) (n := 40000 + 18 * (k + 1)) (by omega) (by omega) ?_
          exact it_back hF hk (k + 1) _ _ _ (law_k1 ek ev197) (law_k2 hL hk0 ek h4) hw hS (lv_sub hl [3, 4, 5, 6, 0] rfl)
        · have hF := it_t h196 hF
          refine lv_aload_n hx hb dL_law_707 rfl (lv_at hl 5 rfl) ?_
          refine lv_iconst (v := 0) hx hb dL_law_708 (by decide) ?_
          refine ld_out hC hw (by omega) dL_law_709 ?_
          refine lv_iload hx hb dL_law_710 (lv_at hl 0 rfl) ?_
          refine lv_i2l (v := (r189).toInt64) hx hb dL_law_712 rfl ?_
          refine W.lcmp hx hb dL_law_713 ?_
          refine lv_if_eq (tgt := 719) hx hb dL_law_714 (by decide) (fun h198 => ?_) (fun h198 => ?_)
          · have hF := it_t h198 hF
            refine lv_goto (tgt := 1903) hx hb dL_law_719 (by decide) ?_
            obtain ⟨v199, ev199, hF⟩ := nm_t hF
            refine lv_iinc (v := v199) (lv' := [(4, .int v199), (6, .int r189), (5, .int r185), (0, .ref b), (1, .ref (bb G + 0)), (2, .ref (bb G + 244)), (3, .ref (bb G + 252))]) hx hb dL_law_1903 hl (k := 6) rfl (by rw [ev199]; rfl) (by decide) rfl (fun ls hl => ?_)
            refine lv_goto (tgt := 23) hx hb dL_law_1906 (by decide) ?_
            refine W.widen (k := 4000 + 3 * (k + 1)) (n := 40000 + 18 * (k + 1)) (by omega) (by omega) ?_
            exact it_back hF hk (k + 1) _ _ _ (law_k1 ek ev199) (law_k2 hL hk0 ek h4) hw hS (lv_sub hl [3, 4, 5, 6, 0] rfl)
          · have hF := it_f h198 hF
            refine lv_iconst (v := 0) hx hb dL_law_717 (by decide) ?_
            cases hF
      · have hF := it_f h195 hF
        refine lv_iconst (v := 0) hx hb dL_law_700 (by decide) ?_
        cases hF
    have hF := it_f h17 hF
    by_cases h18 : v6 = (11 : Int32)
    · have hF := it_t h18 hF
      unfold K_L_11 at hF
      refine lv_tableIn (tgt := 722) (off := 683) hx hb dL_law_39 (by rw [h18]; decide) (by rw [h18]; decide) (by rw [h18]; rfl) (by decide) ?_
      refine lv_aload_n hx hb dL_law_722 rfl (lv_at hl 1 rfl) ?_
      refine lv_aload_n hx hb dL_law_723 rfl (lv_at hl 0 rfl) ?_
      refine lv_iload hx hb dL_law_724 (lv_at hl 4 rfl) ?_
      refine lv_iconst (v := 1) hx hb dL_law_726 (by decide) ?_
      refine lv_iadd hx hb dL_law_727 ?_
      obtain ⟨g200, hF⟩ := gi_t hF
      refine va_sld hx hb hX hbl (Nat.not_le.mpr (by rw [hbb]; exact hbl)) hS g200 dL_law_728 ?_
      refine lv_aload_n hx hb dL_law_729 rfl (lv_at hl 0 rfl) ?_
      refine lv_iload hx hb dL_law_730 (lv_at hl 4 rfl) ?_
      refine lv_iconst (v := 2) hx hb dL_law_732 (by decide) ?_
      refine lv_iadd hx hb dL_law_733 ?_
      obtain ⟨g201, hF⟩ := gi_t hF
      refine va_sld hx hb hX hbl (Nat.not_le.mpr (by rw [hbb]; exact hbl)) hS g201 dL_law_734 ?_
      refine lv_aload_n hx hb dL_law_735 rfl (lv_at hl 3 rfl) ?_
      obtain ⟨r202, C203, hc204, hF⟩ := b2_t hF
      refine call_SW hC (c_L_set l G n hn (by omega) hfl (xs ((v1 + (1 : Int32))).toNatClampNeg) (xs ((v1 + (2 : Int32))).toNatClampNeg) _ _ _ hc204) wwL_147 ⟨rfl, rfl, by decide, by decide⟩ hw hS hl.1 rfl (rest := []) rfl (Nat.le_of_ble_eq_true rfl) dL_law_736 ⟨by omega, by omega⟩ (fun H locs hw hS => ?_)
      refine lv_istore (lv' := [(5, .int r202), (0, .ref b), (1, .ref (bb G + 0)), (2, .ref (bb G + 244)), (3, .ref (bb G + 252)), (4, .int v1)]) hx hb dL_law_739 hl (by decide) rfl (fun ls hl => ?_)
      refine lv_aload_n hx hb dL_law_741 rfl (lv_at hl 3 rfl) ?_
      refine lv_aload_n hx hb dL_law_742 rfl (lv_at hl 1 rfl) ?_
      refine lv_iload hx hb dL_law_743 (lv_at hl 5 rfl) ?_
      refine lv_iconst (v := 1) hx hb dL_law_745 (by decide) ?_
      refine lv_iadd hx hb dL_law_746 ?_
      obtain ⟨g205, hF⟩ := gi_t hF
      refine va_sld hx hb hX hbl (Nat.not_le.mpr (by rw [hbb]; exact hbl)) hS g205 dL_law_747 ?_
      refine lv_aload_n hx hb dL_law_748 rfl (lv_at hl 1 rfl) ?_
      refine lv_iload hx hb dL_law_749 (lv_at hl 5 rfl) ?_
      refine lv_iconst (v := 2) hx hb dL_law_751 (by decide) ?_
      refine lv_iadd hx hb dL_law_752 ?_
      obtain ⟨g206, hF⟩ := gi_t hF
      refine va_sld hx hb hX hbl (Nat.not_le.mpr (by rw [hbb]; exact hbl)) hS g206 dL_law_753 ?_
      obtain ⟨r207, C208, hc209, hF⟩ := b2_t hF
      refine call_Vi hC (c_X9_set l G n (by omega) hn2 (xs ((v1 + (1 : Int32))).toNatClampNeg) (xs ((v1 + (2 : Int32))).toNatClampNeg) _ _ _ hc209) wvL_149 ⟨rfl, rfl, by decide, by decide⟩ hw hS (by omega) ca_model rfl hl.1 rfl (rest := []) rfl (Nat.le_of_ble_eq_true rfl) dL_law_754 ⟨by omega, by omega⟩ (fun H locs hw hS _ => ?_)
      refine lv_istore (lv' := [(6, .int r207), (5, .int r202), (0, .ref b), (1, .ref (bb G + 0)), (2, .ref (bb G + 244)), (3, .ref (bb G + 252)), (4, .int v1)]) hx hb dL_law_757 hl (by decide) rfl (fun ls hl => ?_)
      refine lv_aload_n hx hb dL_law_759 rfl (lv_at hl 4 rfl) ?_
      obtain ⟨r210, C211, hc212, hF⟩ := b2_t hF
      refine call_Vi hC (c_X9_thrown l G n (by omega) hn2  _ _ _ hc212) wvL_110 ⟨rfl, rfl, by decide, by decide⟩ hw hS (by omega) ca_model rfl hl.1 rfl (rest := []) rfl (Nat.le_of_ble_eq_true rfl) dL_law_760 ⟨by omega, by omega⟩ (fun H locs hw hS _ => ?_)
      refine lv_iload hx hb dL_law_763 (lv_at hl 1 rfl) ?_
      refine lv_icmp_eq (tgt := 770) hx hb dL_law_765 (by decide) (fun h213 => ?_) (fun h213 => ?_)
      · have hF := it_t h213 hF
        refine lv_iload hx hb dL_law_770 (lv_at hl 1 rfl) ?_
        refine lv_if_ne (tgt := 787) hx hb dL_law_772 (by decide) (fun h214 => ?_) (fun h214 => ?_)
        · have hF := it_f h214 hF
          refine lv_goto (tgt := 1903) hx hb dL_law_787 (by decide) ?_
          obtain ⟨v215, ev215, hF⟩ := nm_t hF
          refine lv_iinc (v := v215) (lv' := [(4, .int v215), (6, .int r207), (5, .int r202), (0, .ref b), (1, .ref (bb G + 0)), (2, .ref (bb G + 244)), (3, .ref (bb G + 252))]) hx hb dL_law_1903 hl (k := 6) rfl (by rw [ev215]; rfl) (by decide) rfl (fun ls hl => ?_)
          refine lv_goto (tgt := 23) hx hb dL_law_1906 (by decide) ?_
          refine W.widen (k := 4000 + 3 * (k + 1)) (n := 40000 + 18 * (k + 1)) (by omega) (by omega) ?_
          exact it_back hF hk (k + 1) _ _ _ (law_k1 ek ev215) (law_k2 hL hk0 ek h4) hw hS (lv_sub hl [3, 4, 5, 6, 0] rfl)
        · have hF := it_t h214 hF
          refine lv_aload_n hx hb dL_law_775 rfl (lv_at hl 5 rfl) ?_
          refine lv_iconst (v := 0) hx hb dL_law_776 (by decide) ?_
          refine ld_out hC hw (by omega) dL_law_777 ?_
          refine lv_iload hx hb dL_law_778 (lv_at hl 0 rfl) ?_
          refine lv_i2l (v := (r207).toInt64) hx hb dL_law_780 rfl ?_
          refine W.lcmp hx hb dL_law_781 ?_
          refine lv_if_eq (tgt := 787) hx hb dL_law_782 (by decide) (fun h216 => ?_) (fun h216 => ?_)
          · have hF := it_t h216 hF
            refine lv_goto (tgt := 1903) hx hb dL_law_787 (by decide) ?_
            obtain ⟨v217, ev217, hF⟩ := nm_t hF
            refine lv_iinc (v := v217) (lv' := [(4, .int v217), (6, .int r207), (5, .int r202), (0, .ref b), (1, .ref (bb G + 0)), (2, .ref (bb G + 244)), (3, .ref (bb G + 252))]) hx hb dL_law_1903 hl (k := 6) rfl (by rw [ev217]; rfl) (by decide) rfl (fun ls hl => ?_)
            refine lv_goto (tgt := 23) hx hb dL_law_1906 (by decide) ?_
            refine W.widen (k := 4000 + 3 * (k + 1)) (n := 40000 + 18 * (k + 1)) (by omega) (by omega) ?_
            exact it_back hF hk (k + 1) _ _ _ (law_k1 ek ev217) (law_k2 hL hk0 ek h4) hw hS (lv_sub hl [3, 4, 5, 6, 0] rfl)
          · have hF := it_f h216 hF
            refine lv_iconst (v := 0) hx hb dL_law_785 (by decide) ?_
            cases hF
      · have hF := it_f h213 hF
        refine lv_iconst (v := 0) hx hb dL_law_768 (by decide) ?_
        cases hF
    have hF := it_f h18 hF
    by_cases h19 : v6 = (12 : Int32)
    · have hF := it_t h19 hF
      unfold K_L_12 at hF
      refine lv_tableIn (tgt := 790) (off := 751) hx hb dL_law_39 (by rw [h19]; decide) (by rw [h19]; decide) (by rw [h19]; rfl) (by decide) ?_
      refine lv_aload_n hx hb dL_law_790 rfl (lv_at hl 1 rfl) ?_
      refine lv_aload_n hx hb dL_law_791 rfl (lv_at hl 0 rfl) ?_
      refine lv_iload hx hb dL_law_792 (lv_at hl 4 rfl) ?_
      refine lv_iconst (v := 1) hx hb dL_law_794 (by decide) ?_
      refine lv_iadd hx hb dL_law_795 ?_
      obtain ⟨g218, hF⟩ := gi_t hF
      refine va_sld hx hb hX hbl (Nat.not_le.mpr (by rw [hbb]; exact hbl)) hS g218 dL_law_796 ?_
      refine lv_aload_n hx hb dL_law_797 rfl (lv_at hl 0 rfl) ?_
      refine lv_iload hx hb dL_law_798 (lv_at hl 4 rfl) ?_
      refine lv_iconst (v := 2) hx hb dL_law_800 (by decide) ?_
      refine lv_iadd hx hb dL_law_801 ?_
      obtain ⟨g219, hF⟩ := gi_t hF
      refine va_sld hx hb hX hbl (Nat.not_le.mpr (by rw [hbb]; exact hbl)) hS g219 dL_law_802 ?_
      have hJ811 : ∀ (v221 : Int32) (H : Heap) (locs : List Loc) (ls : Array Slot), J_L_law_811 xs L v1 C2 v221 = some oo → Wd G n C2 H → LW G s H locs → lv_has ls 7 [(0, .ref b), (1, .ref (bb G + 0)), (2, .ref (bb G + 244)), (3, .ref (bb G + 252)), (4, .int v1)] → W p l e room_1 s m (#[Value.ref b]) below meth c H locs (4000 + 3 * k) (40000 + 18 * k) (lw_Z below #[Value.ref b] s) (F0 m 811 ls [.int v221, .int (xs ((v1 + (1 : Int32))).toNatClampNeg), .ref (bb G + 0)]) := by
        intro v221 H locs ls hF hw hS hl
        unfold J_L_law_811 at hF
        refine lv_aload_n hx hb dL_law_811 rfl (lv_at hl 3 rfl) ?_
        obtain ⟨r222, C223, hc224, hF⟩ := b2_t hF
        refine call_SW hC (c_L_setFlue l G n hn (by omega) hfl (xs ((v1 + (1 : Int32))).toNatClampNeg) v221 _ _ _ hc224) wwL_150 ⟨rfl, rfl, by decide, by decide⟩ hw hS hl.1 rfl (rest := []) rfl (Nat.le_of_ble_eq_true rfl) dL_law_812 ⟨by omega, by omega⟩ (fun H locs hw hS => ?_)
        refine lv_istore (lv' := [(5, .int r222), (0, .ref b), (1, .ref (bb G + 0)), (2, .ref (bb G + 244)), (3, .ref (bb G + 252)), (4, .int v1)]) hx hb dL_law_815 hl (by decide) rfl (fun ls hl => ?_)
        refine lv_aload_n hx hb dL_law_817 rfl (lv_at hl 3 rfl) ?_
        refine lv_aload_n hx hb dL_law_818 rfl (lv_at hl 1 rfl) ?_
        refine lv_iload hx hb dL_law_819 (lv_at hl 5 rfl) ?_
        refine lv_iconst (v := 1) hx hb dL_law_821 (by decide) ?_
        refine lv_iadd hx hb dL_law_822 ?_
        obtain ⟨g225, hF⟩ := gi_t hF
        refine va_sld hx hb hX hbl (Nat.not_le.mpr (by rw [hbb]; exact hbl)) hS g225 dL_law_823 ?_
        refine lv_aload_n hx hb dL_law_824 rfl (lv_at hl 1 rfl) ?_
        refine lv_iload hx hb dL_law_825 (lv_at hl 5 rfl) ?_
        refine lv_iconst (v := 2) hx hb dL_law_827 (by decide) ?_
        refine lv_iadd hx hb dL_law_828 ?_
        obtain ⟨g226, hF⟩ := gi_t hF
        refine va_sld hx hb hX hbl (Nat.not_le.mpr (by rw [hbb]; exact hbl)) hS g226 dL_law_829 ?_
        have hJ838 : ∀ (v228 : Int32) (H : Heap) (locs : List Loc) (ls : Array Slot), J_L_law_838 xs v1 r222 C223 v228 = some oo → Wd G n C223 H → LW G s H locs → lv_has ls 7 [(0, .ref b), (1, .ref (bb G + 0)), (2, .ref (bb G + 244)), (3, .ref (bb G + 252)), (4, .int v1), (5, .int r222)] → W p l e room_1 s m (#[Value.ref b]) below meth c H locs (4000 + 3 * k + 1) (40000 + 18 * k + 6) (lw_Z below #[Value.ref b] s) (F0 m 838 ls [.int v228, .int (xs ((v1 + (1 : Int32))).toNatClampNeg), .ref (bb G + 244)]) := by
          intro v228 H locs ls hF hw hS hl
          unfold J_L_law_838 at hF
          obtain ⟨r229, C230, hc231, hF⟩ := b2_t hF
          refine call_Vi hC (c_X9_setFlue l G n (by omega) hn2 (xs ((v1 + (1 : Int32))).toNatClampNeg) v228 _ _ _ hc231) wvL_153 ⟨rfl, rfl, by decide, by decide⟩ hw hS (by omega) ca_model rfl hl.1 rfl (rest := []) rfl (Nat.le_of_ble_eq_true rfl) dL_law_838 ⟨by omega, by omega⟩ (fun H locs hw hS _ => ?_)
          refine lv_istore (lv' := [(6, .int r229), (0, .ref b), (1, .ref (bb G + 0)), (2, .ref (bb G + 244)), (3, .ref (bb G + 252)), (4, .int v1), (5, .int r222)]) hx hb dL_law_841 hl (by decide) rfl (fun ls hl => ?_)
          refine lv_aload_n hx hb dL_law_843 rfl (lv_at hl 3 rfl) ?_
          obtain ⟨r232, C233, hc234, hF⟩ := b2_t hF
          refine call_Vi hC (c_X9_thrown l G n (by omega) hn2  _ _ _ hc234) wvL_110 ⟨rfl, rfl, by decide, by decide⟩ hw hS (by omega) ca_model rfl hl.1 rfl (rest := []) rfl (Nat.le_of_ble_eq_true rfl) dL_law_844 ⟨by omega, by omega⟩ (fun H locs hw hS _ => ?_)
          refine lv_iload hx hb dL_law_847 (lv_at hl 6 rfl) ?_
          refine lv_icmp_eq (tgt := 854) hx hb dL_law_849 (by decide) (fun h235 => ?_) (fun h235 => ?_)
          · have hF := it_t h235 hF
            refine lv_iload hx hb dL_law_854 (lv_at hl 6 rfl) ?_
            refine lv_if_ne (tgt := 871) hx hb dL_law_856 (by decide) (fun h236 => ?_) (fun h236 => ?_)
            · have hF := it_f h236 hF
              refine lv_goto (tgt := 1903) hx hb dL_law_871 (by decide) ?_
              obtain ⟨v237, ev237, hF⟩ := nm_t hF
              refine lv_iinc (v := v237) (lv' := [(4, .int v237), (6, .int r229), (0, .ref b), (1, .ref (bb G + 0)), (2, .ref (bb G + 244)), (3, .ref (bb G + 252)), (5, .int r222)]) hx hb dL_law_1903 hl (k := 5) rfl (by rw [ev237]; rfl) (by decide) rfl (fun ls hl => ?_)
              refine lv_goto (tgt := 23) hx hb dL_law_1906 (by decide) ?_
              refine W.widen (k := 4000 + 3 * (k + 1)) (n := 40000 + 18 * (k + 1)) (by omega) (by omega) ?_
              exact it_back hF hk (k + 1) _ _ _ (law_k1 ek ev237) (law_k2 hL hk0 ek h4) hw hS (lv_sub hl [2, 3, 4, 5, 0] rfl)
            · have hF := it_t h236 hF
              refine lv_aload_n hx hb dL_law_859 rfl (lv_at hl 4 rfl) ?_
              refine lv_iconst (v := 0) hx hb dL_law_860 (by decide) ?_
              refine ld_out hC hw (by omega) dL_law_861 ?_
              refine lv_iload hx hb dL_law_862 (lv_at hl 0 rfl) ?_
              refine lv_i2l (v := (r229).toInt64) hx hb dL_law_864 rfl ?_
              refine W.lcmp hx hb dL_law_865 ?_
              refine lv_if_eq (tgt := 871) hx hb dL_law_866 (by decide) (fun h238 => ?_) (fun h238 => ?_)
              · have hF := it_t h238 hF
                refine lv_goto (tgt := 1903) hx hb dL_law_871 (by decide) ?_
                obtain ⟨v239, ev239, hF⟩ := nm_t hF
                refine lv_iinc (v := v239) (lv' := [(4, .int v239), (6, .int r229), (0, .ref b), (1, .ref (bb G + 0)), (2, .ref (bb G + 244)), (3, .ref (bb G + 252)), (5, .int r222)]) hx hb dL_law_1903 hl (k := 5) rfl (by rw [ev239]; rfl) (by decide) rfl (fun ls hl => ?_)
                refine lv_goto (tgt := 23) hx hb dL_law_1906 (by decide) ?_
                refine W.widen (k := 4000 + 3 * (k + 1)) (n := 40000 + 18 * (k + 1)) (by omega) (by omega) ?_
                exact it_back hF hk (k + 1) _ _ _ (law_k1 ek ev239) (law_k2 hL hk0 ek h4) hw hS (lv_sub hl [2, 3, 4, 5, 0] rfl)
              · have hF := it_f h238 hF
                refine lv_iconst (v := 0) hx hb dL_law_869 (by decide) ?_
                cases hF
          · have hF := it_f h235 hF
            refine lv_iconst (v := 0) hx hb dL_law_852 (by decide) ?_
            cases hF
        refine lv_if_eq (tgt := 837) hx hb dL_law_830 (by decide) (fun h227 => ?_) (fun h227 => ?_)
        · have hF := it_t h227 hF
          refine lv_iconst (v := 0) hx hb dL_law_837 (by decide) ?_
          exact hJ838 (0 : Int32) _ _ _ hF hw hS (lv_sub hl [1, 2, 3, 4, 5, 0] rfl)
        · have hF := it_f h227 hF
          refine lv_iconst (v := 1) hx hb dL_law_833 (by decide) ?_
          refine lv_goto (tgt := 838) hx hb dL_law_834 (by decide) ?_
          exact hJ838 (1 : Int32) _ _ _ hF hw hS (lv_sub hl [1, 2, 3, 4, 5, 0] rfl)
      refine lv_if_eq (tgt := 810) hx hb dL_law_803 (by decide) (fun h220 => ?_) (fun h220 => ?_)
      · have hF := it_t h220 hF
        refine lv_iconst (v := 0) hx hb dL_law_810 (by decide) ?_
        exact hJ811 (0 : Int32) _ _ _ hF hw hS (lv_sub hl [0, 1, 2, 3, 4] rfl)
      · have hF := it_f h220 hF
        refine lv_iconst (v := 1) hx hb dL_law_806 (by decide) ?_
        refine lv_goto (tgt := 811) hx hb dL_law_807 (by decide) ?_
        exact hJ811 (1 : Int32) _ _ _ hF hw hS (lv_sub hl [0, 1, 2, 3, 4] rfl)
    have hF := it_f h19 hF
    by_cases h20 : v6 = (13 : Int32)
    · have hF := it_t h20 hF
      unfold K_L_13 at hF
      refine lv_tableIn (tgt := 874) (off := 835) hx hb dL_law_39 (by rw [h20]; decide) (by rw [h20]; decide) (by rw [h20]; rfl) (by decide) ?_
      refine lv_aload_n hx hb dL_law_874 rfl (lv_at hl 1 rfl) ?_
      refine lv_aload_n hx hb dL_law_875 rfl (lv_at hl 0 rfl) ?_
      refine lv_iload hx hb dL_law_876 (lv_at hl 4 rfl) ?_
      refine lv_iconst (v := 1) hx hb dL_law_878 (by decide) ?_
      refine lv_iadd hx hb dL_law_879 ?_
      obtain ⟨g240, hF⟩ := gi_t hF
      refine va_sld hx hb hX hbl (Nat.not_le.mpr (by rw [hbb]; exact hbl)) hS g240 dL_law_880 ?_
      refine lv_aload_n hx hb dL_law_881 rfl (lv_at hl 0 rfl) ?_
      refine lv_iload hx hb dL_law_882 (lv_at hl 4 rfl) ?_
      refine lv_iconst (v := 2) hx hb dL_law_884 (by decide) ?_
      refine lv_iadd hx hb dL_law_885 ?_
      obtain ⟨g241, hF⟩ := gi_t hF
      refine va_sld hx hb hX hbl (Nat.not_le.mpr (by rw [hbb]; exact hbl)) hS g241 dL_law_886 ?_
      refine lv_aload_n hx hb dL_law_887 rfl (lv_at hl 3 rfl) ?_
      obtain ⟨r242, C243, hc244, hF⟩ := b2_t hF
      refine call_SW hC (c_L_setDraft l G n hn (by omega) hfl (xs ((v1 + (1 : Int32))).toNatClampNeg) (xs ((v1 + (2 : Int32))).toNatClampNeg) _ _ _ hc244) wwL_154 ⟨rfl, rfl, by decide, by decide⟩ hw hS hl.1 rfl (rest := []) rfl (Nat.le_of_ble_eq_true rfl) dL_law_888 ⟨by omega, by omega⟩ (fun H locs hw hS => ?_)
      refine lv_istore (lv' := [(5, .int r242), (0, .ref b), (1, .ref (bb G + 0)), (2, .ref (bb G + 244)), (3, .ref (bb G + 252)), (4, .int v1)]) hx hb dL_law_891 hl (by decide) rfl (fun ls hl => ?_)
      refine lv_aload_n hx hb dL_law_893 rfl (lv_at hl 3 rfl) ?_
      refine lv_aload_n hx hb dL_law_894 rfl (lv_at hl 1 rfl) ?_
      refine lv_iload hx hb dL_law_895 (lv_at hl 5 rfl) ?_
      refine lv_iconst (v := 1) hx hb dL_law_897 (by decide) ?_
      refine lv_iadd hx hb dL_law_898 ?_
      obtain ⟨g245, hF⟩ := gi_t hF
      refine va_sld hx hb hX hbl (Nat.not_le.mpr (by rw [hbb]; exact hbl)) hS g245 dL_law_899 ?_
      refine lv_aload_n hx hb dL_law_900 rfl (lv_at hl 1 rfl) ?_
      refine lv_iload hx hb dL_law_901 (lv_at hl 5 rfl) ?_
      refine lv_iconst (v := 2) hx hb dL_law_903 (by decide) ?_
      refine lv_iadd hx hb dL_law_904 ?_
      obtain ⟨g246, hF⟩ := gi_t hF
      refine va_sld hx hb hX hbl (Nat.not_le.mpr (by rw [hbb]; exact hbl)) hS g246 dL_law_905 ?_
      obtain ⟨r247, C248, hc249, hF⟩ := b2_t hF
      refine call_Vi hC (c_X9_setDraft l G n (by omega) hn2 (xs ((v1 + (1 : Int32))).toNatClampNeg) (xs ((v1 + (2 : Int32))).toNatClampNeg) _ _ _ hc249) wvL_156 ⟨rfl, rfl, by decide, by decide⟩ hw hS (by omega) ca_model rfl hl.1 rfl (rest := []) rfl (Nat.le_of_ble_eq_true rfl) dL_law_906 ⟨by omega, by omega⟩ (fun H locs hw hS _ => ?_)
      refine lv_istore (lv' := [(6, .int r247), (5, .int r242), (0, .ref b), (1, .ref (bb G + 0)), (2, .ref (bb G + 244)), (3, .ref (bb G + 252)), (4, .int v1)]) hx hb dL_law_909 hl (by decide) rfl (fun ls hl => ?_)
      refine lv_aload_n hx hb dL_law_911 rfl (lv_at hl 4 rfl) ?_
      obtain ⟨r250, C251, hc252, hF⟩ := b2_t hF
      refine call_Vi hC (c_X9_thrown l G n (by omega) hn2  _ _ _ hc252) wvL_110 ⟨rfl, rfl, by decide, by decide⟩ hw hS (by omega) ca_model rfl hl.1 rfl (rest := []) rfl (Nat.le_of_ble_eq_true rfl) dL_law_912 ⟨by omega, by omega⟩ (fun H locs hw hS _ => ?_)
      refine lv_iload hx hb dL_law_915 (lv_at hl 1 rfl) ?_
      refine lv_icmp_eq (tgt := 922) hx hb dL_law_917 (by decide) (fun h253 => ?_) (fun h253 => ?_)
      · have hF := it_t h253 hF
        refine lv_iload hx hb dL_law_922 (lv_at hl 1 rfl) ?_
        refine lv_if_ne (tgt := 939) hx hb dL_law_924 (by decide) (fun h254 => ?_) (fun h254 => ?_)
        · have hF := it_f h254 hF
          refine lv_goto (tgt := 1903) hx hb dL_law_939 (by decide) ?_
          obtain ⟨v255, ev255, hF⟩ := nm_t hF
          refine lv_iinc (v := v255) (lv' := [(4, .int v255), (6, .int r247), (5, .int r242), (0, .ref b), (1, .ref (bb G + 0)), (2, .ref (bb G + 244)), (3, .ref (bb G + 252))]) hx hb dL_law_1903 hl (k := 6) rfl (by rw [ev255]; rfl) (by decide) rfl (fun ls hl => ?_)
          refine lv_goto (tgt := 23) hx hb dL_law_1906 (by decide) ?_
          refine W.widen (k := 4000 + 3 * (k + 1)) (n := 40000 + 18 * (k + 1)) (by omega) (by omega) ?_
          exact it_back hF hk (k + 1) _ _ _ (law_k1 ek ev255) (law_k2 hL hk0 ek h4) hw hS (lv_sub hl [3, 4, 5, 6, 0] rfl)
        · have hF := it_t h254 hF
          refine lv_aload_n hx hb dL_law_927 rfl (lv_at hl 5 rfl) ?_
          refine lv_iconst (v := 0) hx hb dL_law_928 (by decide) ?_
          refine ld_out hC hw (by omega) dL_law_929 ?_
          refine lv_iload hx hb dL_law_930 (lv_at hl 0 rfl) ?_
          refine lv_i2l (v := (r247).toInt64) hx hb dL_law_932 rfl ?_
          refine W.lcmp hx hb dL_law_933 ?_
          refine lv_if_eq (tgt := 939) hx hb dL_law_934 (by decide) (fun h256 => ?_) (fun h256 => ?_)
          · have hF := it_t h256 hF
            refine lv_goto (tgt := 1903) hx hb dL_law_939 (by decide) ?_
            obtain ⟨v257, ev257, hF⟩ := nm_t hF
            refine lv_iinc (v := v257) (lv' := [(4, .int v257), (6, .int r247), (5, .int r242), (0, .ref b), (1, .ref (bb G + 0)), (2, .ref (bb G + 244)), (3, .ref (bb G + 252))]) hx hb dL_law_1903 hl (k := 6) rfl (by rw [ev257]; rfl) (by decide) rfl (fun ls hl => ?_)
            refine lv_goto (tgt := 23) hx hb dL_law_1906 (by decide) ?_
            refine W.widen (k := 4000 + 3 * (k + 1)) (n := 40000 + 18 * (k + 1)) (by omega) (by omega) ?_
            exact it_back hF hk (k + 1) _ _ _ (law_k1 ek ev257) (law_k2 hL hk0 ek h4) hw hS (lv_sub hl [3, 4, 5, 6, 0] rfl)
          · have hF := it_f h256 hF
            refine lv_iconst (v := 0) hx hb dL_law_937 (by decide) ?_
            cases hF
      · have hF := it_f h253 hF
        refine lv_iconst (v := 0) hx hb dL_law_920 (by decide) ?_
        cases hF
    have hF := it_f h20 hF
    by_cases h21 : v6 = (14 : Int32)
    · have hF := it_t h21 hF
      unfold K_L_14 at hF
      refine lv_tableIn (tgt := 942) (off := 903) hx hb dL_law_39 (by rw [h21]; decide) (by rw [h21]; decide) (by rw [h21]; rfl) (by decide) ?_
      refine lv_aload_n hx hb dL_law_942 rfl (lv_at hl 1 rfl) ?_
      refine lv_aload_n hx hb dL_law_943 rfl (lv_at hl 0 rfl) ?_
      refine lv_iload hx hb dL_law_944 (lv_at hl 4 rfl) ?_
      refine lv_iconst (v := 1) hx hb dL_law_946 (by decide) ?_
      refine lv_iadd hx hb dL_law_947 ?_
      obtain ⟨g258, hF⟩ := gi_t hF
      refine va_sld hx hb hX hbl (Nat.not_le.mpr (by rw [hbb]; exact hbl)) hS g258 dL_law_948 ?_
      refine lv_aload_n hx hb dL_law_949 rfl (lv_at hl 3 rfl) ?_
      obtain ⟨r259, C260, hc261, hF⟩ := b2_t hF
      refine call_SW hC (c_L_lock l G n hn (by omega) hfl (xs ((v1 + (1 : Int32))).toNatClampNeg) _ _ _ hc261) wwL_157 ⟨rfl, rfl, by decide, by decide⟩ hw hS hl.1 rfl (rest := []) rfl (Nat.le_of_ble_eq_true rfl) dL_law_950 ⟨by omega, by omega⟩ (fun H locs hw hS => ?_)
      refine lv_istore (lv' := [(5, .int r259), (0, .ref b), (1, .ref (bb G + 0)), (2, .ref (bb G + 244)), (3, .ref (bb G + 252)), (4, .int v1)]) hx hb dL_law_953 hl (by decide) rfl (fun ls hl => ?_)
      refine lv_aload_n hx hb dL_law_955 rfl (lv_at hl 3 rfl) ?_
      refine lv_aload_n hx hb dL_law_956 rfl (lv_at hl 1 rfl) ?_
      refine lv_iload hx hb dL_law_957 (lv_at hl 5 rfl) ?_
      refine lv_iconst (v := 1) hx hb dL_law_959 (by decide) ?_
      refine lv_iadd hx hb dL_law_960 ?_
      obtain ⟨g262, hF⟩ := gi_t hF
      refine va_sld hx hb hX hbl (Nat.not_le.mpr (by rw [hbb]; exact hbl)) hS g262 dL_law_961 ?_
      obtain ⟨r263, C264, hc265, hF⟩ := b2_t hF
      refine call_Vi hC (c_X9_lock l G n (by omega) hn2 (xs ((v1 + (1 : Int32))).toNatClampNeg) _ _ _ hc265) wvL_159 ⟨rfl, rfl, by decide, by decide⟩ hw hS (by omega) ca_model rfl hl.1 rfl (rest := []) rfl (Nat.le_of_ble_eq_true rfl) dL_law_962 ⟨by omega, by omega⟩ (fun H locs hw hS _ => ?_)
      refine lv_istore (lv' := [(6, .int r263), (5, .int r259), (0, .ref b), (1, .ref (bb G + 0)), (2, .ref (bb G + 244)), (3, .ref (bb G + 252)), (4, .int v1)]) hx hb dL_law_965 hl (by decide) rfl (fun ls hl => ?_)
      refine lv_aload_n hx hb dL_law_967 rfl (lv_at hl 4 rfl) ?_
      obtain ⟨r266, C267, hc268, hF⟩ := b2_t hF
      refine call_Vi hC (c_X9_thrown l G n (by omega) hn2  _ _ _ hc268) wvL_110 ⟨rfl, rfl, by decide, by decide⟩ hw hS (by omega) ca_model rfl hl.1 rfl (rest := []) rfl (Nat.le_of_ble_eq_true rfl) dL_law_968 ⟨by omega, by omega⟩ (fun H locs hw hS _ => ?_)
      refine lv_iload hx hb dL_law_971 (lv_at hl 1 rfl) ?_
      refine lv_icmp_eq (tgt := 978) hx hb dL_law_973 (by decide) (fun h269 => ?_) (fun h269 => ?_)
      · have hF := it_t h269 hF
        refine lv_iload hx hb dL_law_978 (lv_at hl 1 rfl) ?_
        refine lv_if_ne (tgt := 995) hx hb dL_law_980 (by decide) (fun h270 => ?_) (fun h270 => ?_)
        · have hF := it_f h270 hF
          refine lv_goto (tgt := 1903) hx hb dL_law_995 (by decide) ?_
          obtain ⟨v271, ev271, hF⟩ := nm_t hF
          refine lv_iinc (v := v271) (lv' := [(4, .int v271), (6, .int r263), (5, .int r259), (0, .ref b), (1, .ref (bb G + 0)), (2, .ref (bb G + 244)), (3, .ref (bb G + 252))]) hx hb dL_law_1903 hl (k := 6) rfl (by rw [ev271]; rfl) (by decide) rfl (fun ls hl => ?_)
          refine lv_goto (tgt := 23) hx hb dL_law_1906 (by decide) ?_
          refine W.widen (k := 4000 + 3 * (k + 1)) (n := 40000 + 18 * (k + 1)) (by omega) (by omega) ?_
          exact it_back hF hk (k + 1) _ _ _ (law_k1 ek ev271) (law_k2 hL hk0 ek h4) hw hS (lv_sub hl [3, 4, 5, 6, 0] rfl)
        · have hF := it_t h270 hF
          refine lv_aload_n hx hb dL_law_983 rfl (lv_at hl 5 rfl) ?_
          refine lv_iconst (v := 0) hx hb dL_law_984 (by decide) ?_
          refine ld_out hC hw (by omega) dL_law_985 ?_
          refine lv_iload hx hb dL_law_986 (lv_at hl 0 rfl) ?_
          refine lv_i2l (v := (r263).toInt64) hx hb dL_law_988 rfl ?_
          refine W.lcmp hx hb dL_law_989 ?_
          refine lv_if_eq (tgt := 995) hx hb dL_law_990 (by decide) (fun h272 => ?_) (fun h272 => ?_)
          · have hF := it_t h272 hF
            refine lv_goto (tgt := 1903) hx hb dL_law_995 (by decide) ?_
            obtain ⟨v273, ev273, hF⟩ := nm_t hF
            refine lv_iinc (v := v273) (lv' := [(4, .int v273), (6, .int r263), (5, .int r259), (0, .ref b), (1, .ref (bb G + 0)), (2, .ref (bb G + 244)), (3, .ref (bb G + 252))]) hx hb dL_law_1903 hl (k := 6) rfl (by rw [ev273]; rfl) (by decide) rfl (fun ls hl => ?_)
            refine lv_goto (tgt := 23) hx hb dL_law_1906 (by decide) ?_
            refine W.widen (k := 4000 + 3 * (k + 1)) (n := 40000 + 18 * (k + 1)) (by omega) (by omega) ?_
            exact it_back hF hk (k + 1) _ _ _ (law_k1 ek ev273) (law_k2 hL hk0 ek h4) hw hS (lv_sub hl [3, 4, 5, 6, 0] rfl)
          · have hF := it_f h272 hF
            refine lv_iconst (v := 0) hx hb dL_law_993 (by decide) ?_
            cases hF
      · have hF := it_f h269 hF
        refine lv_iconst (v := 0) hx hb dL_law_976 (by decide) ?_
        cases hF
    have hF := it_f h21 hF
    by_cases h22 : v6 = (15 : Int32)
    · have hF := it_t h22 hF
      unfold K_L_15 at hF
      refine lv_tableIn (tgt := 998) (off := 959) hx hb dL_law_39 (by rw [h22]; decide) (by rw [h22]; decide) (by rw [h22]; rfl) (by decide) ?_
      refine lv_aload_n hx hb dL_law_998 rfl (lv_at hl 1 rfl) ?_
      refine lv_aload_n hx hb dL_law_999 rfl (lv_at hl 0 rfl) ?_
      refine lv_iload hx hb dL_law_1000 (lv_at hl 4 rfl) ?_
      refine lv_iconst (v := 1) hx hb dL_law_1002 (by decide) ?_
      refine lv_iadd hx hb dL_law_1003 ?_
      obtain ⟨g274, hF⟩ := gi_t hF
      refine va_sld hx hb hX hbl (Nat.not_le.mpr (by rw [hbb]; exact hbl)) hS g274 dL_law_1004 ?_
      refine lv_aload_n hx hb dL_law_1005 rfl (lv_at hl 3 rfl) ?_
      obtain ⟨r275, C276, hc277, hF⟩ := b2_t hF
      refine call_SW hC (c_L_unlock l G n hn (by omega) hfl (xs ((v1 + (1 : Int32))).toNatClampNeg) _ _ _ hc277) wwL_160 ⟨rfl, rfl, by decide, by decide⟩ hw hS hl.1 rfl (rest := []) rfl (Nat.le_of_ble_eq_true rfl) dL_law_1006 ⟨by omega, by omega⟩ (fun H locs hw hS => ?_)
      refine lv_istore (lv' := [(5, .int r275), (0, .ref b), (1, .ref (bb G + 0)), (2, .ref (bb G + 244)), (3, .ref (bb G + 252)), (4, .int v1)]) hx hb dL_law_1009 hl (by decide) rfl (fun ls hl => ?_)
      refine lv_aload_n hx hb dL_law_1011 rfl (lv_at hl 3 rfl) ?_
      refine lv_aload_n hx hb dL_law_1012 rfl (lv_at hl 1 rfl) ?_
      refine lv_iload hx hb dL_law_1013 (lv_at hl 5 rfl) ?_
      refine lv_iconst (v := 1) hx hb dL_law_1015 (by decide) ?_
      refine lv_iadd hx hb dL_law_1016 ?_
      obtain ⟨g278, hF⟩ := gi_t hF
      refine va_sld hx hb hX hbl (Nat.not_le.mpr (by rw [hbb]; exact hbl)) hS g278 dL_law_1017 ?_
      obtain ⟨r279, C280, hc281, hF⟩ := b2_t hF
      refine call_Vi hC (c_X9_unlock l G n (by omega) hn2 (xs ((v1 + (1 : Int32))).toNatClampNeg) _ _ _ hc281) wvL_162 ⟨rfl, rfl, by decide, by decide⟩ hw hS (by omega) ca_model rfl hl.1 rfl (rest := []) rfl (Nat.le_of_ble_eq_true rfl) dL_law_1018 ⟨by omega, by omega⟩ (fun H locs hw hS _ => ?_)
      refine lv_istore (lv' := [(6, .int r279), (5, .int r275), (0, .ref b), (1, .ref (bb G + 0)), (2, .ref (bb G + 244)), (3, .ref (bb G + 252)), (4, .int v1)]) hx hb dL_law_1021 hl (by decide) rfl (fun ls hl => ?_)
      refine lv_aload_n hx hb dL_law_1023 rfl (lv_at hl 4 rfl) ?_
      obtain ⟨r282, C283, hc284, hF⟩ := b2_t hF
      refine call_Vi hC (c_X9_thrown l G n (by omega) hn2  _ _ _ hc284) wvL_110 ⟨rfl, rfl, by decide, by decide⟩ hw hS (by omega) ca_model rfl hl.1 rfl (rest := []) rfl (Nat.le_of_ble_eq_true rfl) dL_law_1024 ⟨by omega, by omega⟩ (fun H locs hw hS _ => ?_)
      refine lv_iload hx hb dL_law_1027 (lv_at hl 1 rfl) ?_
      refine lv_icmp_eq (tgt := 1034) hx hb dL_law_1029 (by decide) (fun h285 => ?_) (fun h285 => ?_)
      · have hF := it_t h285 hF
        refine lv_iload hx hb dL_law_1034 (lv_at hl 1 rfl) ?_
        refine lv_if_ne (tgt := 1051) hx hb dL_law_1036 (by decide) (fun h286 => ?_) (fun h286 => ?_)
        · have hF := it_f h286 hF
          refine lv_goto (tgt := 1903) hx hb dL_law_1051 (by decide) ?_
          obtain ⟨v287, ev287, hF⟩ := nm_t hF
          refine lv_iinc (v := v287) (lv' := [(4, .int v287), (6, .int r279), (5, .int r275), (0, .ref b), (1, .ref (bb G + 0)), (2, .ref (bb G + 244)), (3, .ref (bb G + 252))]) hx hb dL_law_1903 hl (k := 6) rfl (by rw [ev287]; rfl) (by decide) rfl (fun ls hl => ?_)
          refine lv_goto (tgt := 23) hx hb dL_law_1906 (by decide) ?_
          refine W.widen (k := 4000 + 3 * (k + 1)) (n := 40000 + 18 * (k + 1)) (by omega) (by omega) ?_
          exact it_back hF hk (k + 1) _ _ _ (law_k1 ek ev287) (law_k2 hL hk0 ek h4) hw hS (lv_sub hl [3, 4, 5, 6, 0] rfl)
        · have hF := it_t h286 hF
          refine lv_aload_n hx hb dL_law_1039 rfl (lv_at hl 5 rfl) ?_
          refine lv_iconst (v := 0) hx hb dL_law_1040 (by decide) ?_
          refine ld_out hC hw (by omega) dL_law_1041 ?_
          refine lv_iload hx hb dL_law_1042 (lv_at hl 0 rfl) ?_
          refine lv_i2l (v := (r279).toInt64) hx hb dL_law_1044 rfl ?_
          refine W.lcmp hx hb dL_law_1045 ?_
          refine lv_if_eq (tgt := 1051) hx hb dL_law_1046 (by decide) (fun h288 => ?_) (fun h288 => ?_)
          · have hF := it_t h288 hF
            refine lv_goto (tgt := 1903) hx hb dL_law_1051 (by decide) ?_
            obtain ⟨v289, ev289, hF⟩ := nm_t hF
            refine lv_iinc (v := v289) (lv' := [(4, .int v289), (6, .int r279), (5, .int r275), (0, .ref b), (1, .ref (bb G + 0)), (2, .ref (bb G + 244)), (3, .ref (bb G + 252))]) hx hb dL_law_1903 hl (k := 6) rfl (by rw [ev289]; rfl) (by decide) rfl (fun ls hl => ?_)
            refine lv_goto (tgt := 23) hx hb dL_law_1906 (by decide) ?_
            refine W.widen (k := 4000 + 3 * (k + 1)) (n := 40000 + 18 * (k + 1)) (by omega) (by omega) ?_
            exact it_back hF hk (k + 1) _ _ _ (law_k1 ek ev289) (law_k2 hL hk0 ek h4) hw hS (lv_sub hl [3, 4, 5, 6, 0] rfl)
          · have hF := it_f h288 hF
            refine lv_iconst (v := 0) hx hb dL_law_1049 (by decide) ?_
            cases hF
      · have hF := it_f h285 hF
        refine lv_iconst (v := 0) hx hb dL_law_1032 (by decide) ?_
        cases hF
    have hF := it_f h22 hF
    by_cases h23 : v6 = (16 : Int32)
    · have hF := it_t h23 hF
      unfold K_L_16 at hF
      refine lv_tableIn (tgt := 1054) (off := 1015) hx hb dL_law_39 (by rw [h23]; decide) (by rw [h23]; decide) (by rw [h23]; rfl) (by decide) ?_
      refine lv_aload_n hx hb dL_law_1054 rfl (lv_at hl 1 rfl) ?_
      refine lv_aload_n hx hb dL_law_1055 rfl (lv_at hl 0 rfl) ?_
      refine lv_iload hx hb dL_law_1056 (lv_at hl 4 rfl) ?_
      refine lv_iconst (v := 1) hx hb dL_law_1058 (by decide) ?_
      refine lv_iadd hx hb dL_law_1059 ?_
      obtain ⟨g290, hF⟩ := gi_t hF
      refine va_sld hx hb hX hbl (Nat.not_le.mpr (by rw [hbb]; exact hbl)) hS g290 dL_law_1060 ?_
      refine lv_aload_n hx hb dL_law_1061 rfl (lv_at hl 3 rfl) ?_
      obtain ⟨r291, C292, hc293, hF⟩ := b2_t hF
      refine call_SW hC (c_L_putOff l G n hn (by omega) hfl (xs ((v1 + (1 : Int32))).toNatClampNeg) _ _ _ hc293) wwL_163 ⟨rfl, rfl, by decide, by decide⟩ hw hS hl.1 rfl (rest := []) rfl (Nat.le_of_ble_eq_true rfl) dL_law_1062 ⟨by omega, by omega⟩ (fun H locs hw hS => ?_)
      refine lv_istore (lv' := [(5, .int r291), (0, .ref b), (1, .ref (bb G + 0)), (2, .ref (bb G + 244)), (3, .ref (bb G + 252)), (4, .int v1)]) hx hb dL_law_1065 hl (by decide) rfl (fun ls hl => ?_)
      refine lv_aload_n hx hb dL_law_1067 rfl (lv_at hl 3 rfl) ?_
      refine lv_aload_n hx hb dL_law_1068 rfl (lv_at hl 1 rfl) ?_
      refine lv_iload hx hb dL_law_1069 (lv_at hl 5 rfl) ?_
      refine lv_iconst (v := 1) hx hb dL_law_1071 (by decide) ?_
      refine lv_iadd hx hb dL_law_1072 ?_
      obtain ⟨g294, hF⟩ := gi_t hF
      refine va_sld hx hb hX hbl (Nat.not_le.mpr (by rw [hbb]; exact hbl)) hS g294 dL_law_1073 ?_
      obtain ⟨r295, C296, hc297, hF⟩ := b2_t hF
      refine call_Vi hC (c_X9_putOff l G n (by omega) hn2 (xs ((v1 + (1 : Int32))).toNatClampNeg) _ _ _ hc297) wvL_165 ⟨rfl, rfl, by decide, by decide⟩ hw hS (by omega) ca_model rfl hl.1 rfl (rest := []) rfl (Nat.le_of_ble_eq_true rfl) dL_law_1074 ⟨by omega, by omega⟩ (fun H locs hw hS _ => ?_)
      refine lv_istore (lv' := [(6, .int r295), (5, .int r291), (0, .ref b), (1, .ref (bb G + 0)), (2, .ref (bb G + 244)), (3, .ref (bb G + 252)), (4, .int v1)]) hx hb dL_law_1077 hl (by decide) rfl (fun ls hl => ?_)
      refine lv_aload_n hx hb dL_law_1079 rfl (lv_at hl 4 rfl) ?_
      obtain ⟨r298, C299, hc300, hF⟩ := b2_t hF
      refine call_Vi hC (c_X9_thrown l G n (by omega) hn2  _ _ _ hc300) wvL_110 ⟨rfl, rfl, by decide, by decide⟩ hw hS (by omega) ca_model rfl hl.1 rfl (rest := []) rfl (Nat.le_of_ble_eq_true rfl) dL_law_1080 ⟨by omega, by omega⟩ (fun H locs hw hS _ => ?_)
      refine lv_iload hx hb dL_law_1083 (lv_at hl 1 rfl) ?_
      refine lv_icmp_eq (tgt := 1090) hx hb dL_law_1085 (by decide) (fun h301 => ?_) (fun h301 => ?_)
      · have hF := it_t h301 hF
        refine lv_iload hx hb dL_law_1090 (lv_at hl 1 rfl) ?_
        refine lv_if_ne (tgt := 1107) hx hb dL_law_1092 (by decide) (fun h302 => ?_) (fun h302 => ?_)
        · have hF := it_f h302 hF
          refine lv_goto (tgt := 1903) hx hb dL_law_1107 (by decide) ?_
          obtain ⟨v303, ev303, hF⟩ := nm_t hF
          refine lv_iinc (v := v303) (lv' := [(4, .int v303), (6, .int r295), (5, .int r291), (0, .ref b), (1, .ref (bb G + 0)), (2, .ref (bb G + 244)), (3, .ref (bb G + 252))]) hx hb dL_law_1903 hl (k := 6) rfl (by rw [ev303]; rfl) (by decide) rfl (fun ls hl => ?_)
          refine lv_goto (tgt := 23) hx hb dL_law_1906 (by decide) ?_
          refine W.widen (k := 4000 + 3 * (k + 1)) (n := 40000 + 18 * (k + 1)) (by omega) (by omega) ?_
          exact it_back hF hk (k + 1) _ _ _ (law_k1 ek ev303) (law_k2 hL hk0 ek h4) hw hS (lv_sub hl [3, 4, 5, 6, 0] rfl)
        · have hF := it_t h302 hF
          refine lv_aload_n hx hb dL_law_1095 rfl (lv_at hl 5 rfl) ?_
          refine lv_iconst (v := 0) hx hb dL_law_1096 (by decide) ?_
          refine ld_out hC hw (by omega) dL_law_1097 ?_
          refine lv_iload hx hb dL_law_1098 (lv_at hl 0 rfl) ?_
          refine lv_i2l (v := (r295).toInt64) hx hb dL_law_1100 rfl ?_
          refine W.lcmp hx hb dL_law_1101 ?_
          refine lv_if_eq (tgt := 1107) hx hb dL_law_1102 (by decide) (fun h304 => ?_) (fun h304 => ?_)
          · have hF := it_t h304 hF
            refine lv_goto (tgt := 1903) hx hb dL_law_1107 (by decide) ?_
            obtain ⟨v305, ev305, hF⟩ := nm_t hF
            refine lv_iinc (v := v305) (lv' := [(4, .int v305), (6, .int r295), (5, .int r291), (0, .ref b), (1, .ref (bb G + 0)), (2, .ref (bb G + 244)), (3, .ref (bb G + 252))]) hx hb dL_law_1903 hl (k := 6) rfl (by rw [ev305]; rfl) (by decide) rfl (fun ls hl => ?_)
            refine lv_goto (tgt := 23) hx hb dL_law_1906 (by decide) ?_
            refine W.widen (k := 4000 + 3 * (k + 1)) (n := 40000 + 18 * (k + 1)) (by omega) (by omega) ?_
            exact it_back hF hk (k + 1) _ _ _ (law_k1 ek ev305) (law_k2 hL hk0 ek h4) hw hS (lv_sub hl [3, 4, 5, 6, 0] rfl)
          · have hF := it_f h304 hF
            refine lv_iconst (v := 0) hx hb dL_law_1105 (by decide) ?_
            cases hF
      · have hF := it_f h301 hF
        refine lv_iconst (v := 0) hx hb dL_law_1088 (by decide) ?_
        cases hF
    have hF := it_f h23 hF
    by_cases h24 : v6 = (17 : Int32)
    · have hF := it_t h24 hF
      unfold K_L_17 at hF
      refine lv_tableIn (tgt := 1110) (off := 1071) hx hb dL_law_39 (by rw [h24]; decide) (by rw [h24]; decide) (by rw [h24]; rfl) (by decide) ?_
      refine lv_aload_n hx hb dL_law_1110 rfl (lv_at hl 1 rfl) ?_
      refine lv_aload_n hx hb dL_law_1111 rfl (lv_at hl 3 rfl) ?_
      obtain ⟨r306, C307, hc308, hF⟩ := b2_t hF
      refine call_SW hC (c_L_undo l G n hn (by omega) hfl  _ _ _ hc308) wwL_166 ⟨rfl, rfl, by decide, by decide⟩ hw hS hl.1 rfl (rest := []) rfl (Nat.le_of_ble_eq_true rfl) dL_law_1112 ⟨by omega, by omega⟩ (fun H locs hw hS => ?_)
      refine lv_istore (lv' := [(5, .int r306), (0, .ref b), (1, .ref (bb G + 0)), (2, .ref (bb G + 244)), (3, .ref (bb G + 252)), (4, .int v1)]) hx hb dL_law_1115 hl (by decide) rfl (fun ls hl => ?_)
      refine lv_aload_n hx hb dL_law_1117 rfl (lv_at hl 3 rfl) ?_
      obtain ⟨r309, C310, hc311, hF⟩ := b2_t hF
      refine call_Vi hC (c_X9_undo l G n (by omega) hn2  _ _ _ hc311) wvL_168 ⟨rfl, rfl, by decide, by decide⟩ hw hS (by omega) ca_model rfl hl.1 rfl (rest := []) rfl (Nat.le_of_ble_eq_true rfl) dL_law_1118 ⟨by omega, by omega⟩ (fun H locs hw hS _ => ?_)
      refine lv_istore (lv' := [(6, .int r309), (5, .int r306), (0, .ref b), (1, .ref (bb G + 0)), (2, .ref (bb G + 244)), (3, .ref (bb G + 252)), (4, .int v1)]) hx hb dL_law_1121 hl (by decide) rfl (fun ls hl => ?_)
      refine lv_aload_n hx hb dL_law_1123 rfl (lv_at hl 4 rfl) ?_
      obtain ⟨r312, C313, hc314, hF⟩ := b2_t hF
      refine call_Vi hC (c_X9_thrown l G n (by omega) hn2  _ _ _ hc314) wvL_110 ⟨rfl, rfl, by decide, by decide⟩ hw hS (by omega) ca_model rfl hl.1 rfl (rest := []) rfl (Nat.le_of_ble_eq_true rfl) dL_law_1124 ⟨by omega, by omega⟩ (fun H locs hw hS _ => ?_)
      refine lv_iload hx hb dL_law_1127 (lv_at hl 1 rfl) ?_
      refine lv_icmp_eq (tgt := 1134) hx hb dL_law_1129 (by decide) (fun h315 => ?_) (fun h315 => ?_)
      · have hF := it_t h315 hF
        refine lv_iload hx hb dL_law_1134 (lv_at hl 1 rfl) ?_
        refine lv_if_ne (tgt := 1151) hx hb dL_law_1136 (by decide) (fun h316 => ?_) (fun h316 => ?_)
        · have hF := it_f h316 hF
          refine lv_goto (tgt := 1903) hx hb dL_law_1151 (by decide) ?_
          obtain ⟨v317, ev317, hF⟩ := nm_t hF
          refine lv_iinc (v := v317) (lv' := [(4, .int v317), (6, .int r309), (5, .int r306), (0, .ref b), (1, .ref (bb G + 0)), (2, .ref (bb G + 244)), (3, .ref (bb G + 252))]) hx hb dL_law_1903 hl (k := 6) rfl (by rw [ev317]; rfl) (by decide) rfl (fun ls hl => ?_)
          refine lv_goto (tgt := 23) hx hb dL_law_1906 (by decide) ?_
          refine W.widen (k := 4000 + 3 * (k + 1)) (n := 40000 + 18 * (k + 1)) (by omega) (by omega) ?_
          exact it_back hF hk (k + 1) _ _ _ (law_k1 ek ev317) (law_k2 hL hk0 ek h4) hw hS (lv_sub hl [3, 4, 5, 6, 0] rfl)
        · have hF := it_t h316 hF
          refine lv_aload_n hx hb dL_law_1139 rfl (lv_at hl 5 rfl) ?_
          refine lv_iconst (v := 0) hx hb dL_law_1140 (by decide) ?_
          refine ld_out hC hw (by omega) dL_law_1141 ?_
          refine lv_iload hx hb dL_law_1142 (lv_at hl 0 rfl) ?_
          refine lv_i2l (v := (r309).toInt64) hx hb dL_law_1144 rfl ?_
          refine W.lcmp hx hb dL_law_1145 ?_
          refine lv_if_eq (tgt := 1151) hx hb dL_law_1146 (by decide) (fun h318 => ?_) (fun h318 => ?_)
          · have hF := it_t h318 hF
            refine lv_goto (tgt := 1903) hx hb dL_law_1151 (by decide) ?_
            obtain ⟨v319, ev319, hF⟩ := nm_t hF
            refine lv_iinc (v := v319) (lv' := [(4, .int v319), (6, .int r309), (5, .int r306), (0, .ref b), (1, .ref (bb G + 0)), (2, .ref (bb G + 244)), (3, .ref (bb G + 252))]) hx hb dL_law_1903 hl (k := 6) rfl (by rw [ev319]; rfl) (by decide) rfl (fun ls hl => ?_)
            refine lv_goto (tgt := 23) hx hb dL_law_1906 (by decide) ?_
            refine W.widen (k := 4000 + 3 * (k + 1)) (n := 40000 + 18 * (k + 1)) (by omega) (by omega) ?_
            exact it_back hF hk (k + 1) _ _ _ (law_k1 ek ev319) (law_k2 hL hk0 ek h4) hw hS (lv_sub hl [3, 4, 5, 6, 0] rfl)
          · have hF := it_f h318 hF
            refine lv_iconst (v := 0) hx hb dL_law_1149 (by decide) ?_
            cases hF
      · have hF := it_f h315 hF
        refine lv_iconst (v := 0) hx hb dL_law_1132 (by decide) ?_
        cases hF
    have hF := it_f h24 hF
    by_cases h25 : v6 = (18 : Int32)
    · have hF := it_t h25 hF
      unfold K_L_18 at hF
      refine lv_tableIn (tgt := 1154) (off := 1115) hx hb dL_law_39 (by rw [h25]; decide) (by rw [h25]; decide) (by rw [h25]; rfl) (by decide) ?_
      refine lv_aload_n hx hb dL_law_1154 rfl (lv_at hl 1 rfl) ?_
      obtain ⟨r320, C321, hc322, hF⟩ := b2_t hF
      refine call_Vi hC (c_X8_next l G n (by omega) hn2  _ _ _ hc322) wvL_169 ⟨rfl, rfl, by decide, by decide⟩ hw hS (by omega) ca_casc rfl hl.1 rfl (rest := []) rfl (Nat.le_of_ble_eq_true rfl) dL_law_1155 ⟨by omega, by omega⟩ (fun H locs hw hS _ => ?_)
      refine lv_aload_n hx hb dL_law_1158 rfl (lv_at hl 2 rfl) ?_
      obtain ⟨r323, C324, hc325, hF⟩ := b2_t hF
      refine call_Vi hC (c_X9_next l G n (by omega) hn2  _ _ _ hc325) wvL_172 ⟨rfl, rfl, by decide, by decide⟩ hw hS (by omega) ca_model rfl hl.1 rfl (rest := [.int r320]) rfl (Nat.le_of_ble_eq_true rfl) dL_law_1159 ⟨by omega, by omega⟩ (fun H locs hw hS _ => ?_)
      refine lv_icmp_eq (tgt := 1903) hx hb dL_law_1162 (by decide) (fun h326 => ?_) (fun h326 => ?_)
      · have hF := it_t h326 hF
        obtain ⟨v327, ev327, hF⟩ := nm_t hF
        refine lv_iinc (v := v327) (lv' := [(4, .int v327), (0, .ref b), (1, .ref (bb G + 0)), (2, .ref (bb G + 244)), (3, .ref (bb G + 252))]) hx hb dL_law_1903 hl (k := 4) rfl (by rw [ev327]; rfl) (by decide) rfl (fun ls hl => ?_)
        refine lv_goto (tgt := 23) hx hb dL_law_1906 (by decide) ?_
        refine W.widen (k := 4000 + 3 * (k + 1)) (n := 40000 + 18 * (k + 1)) (by omega) (by omega) ?_
        exact it_back hF hk (k + 1) _ _ _ (law_k1 ek ev327) (law_k2 hL hk0 ek h4) hw hS (lv_sub hl [1, 2, 3, 4, 0] rfl)
      · have hF := it_f h326 hF
        refine lv_iconst (v := 0) hx hb dL_law_1165 (by decide) ?_
        cases hF
    have hF := it_f h25 hF
    by_cases h26 : v6 = (19 : Int32)
    · have hF := it_t h26 hF
      unfold K_L_19 at hF
      refine lv_tableIn (tgt := 1167) (off := 1128) hx hb dL_law_39 (by rw [h26]; decide) (by rw [h26]; decide) (by rw [h26]; rfl) (by decide) ?_
      refine lv_aload_n hx hb dL_law_1167 rfl (lv_at hl 1 rfl) ?_
      refine lv_aload_n hx hb dL_law_1168 rfl (lv_at hl 0 rfl) ?_
      refine lv_iload hx hb dL_law_1169 (lv_at hl 4 rfl) ?_
      refine lv_iconst (v := 1) hx hb dL_law_1171 (by decide) ?_
      refine lv_iadd hx hb dL_law_1172 ?_
      obtain ⟨g328, hF⟩ := gi_t hF
      refine va_sld hx hb hX hbl (Nat.not_le.mpr (by rw [hbb]; exact hbl)) hS g328 dL_law_1173 ?_
      refine lv_aload_n hx hb dL_law_1174 rfl (lv_at hl 3 rfl) ?_
      obtain ⟨r329, C330, hc331, hF⟩ := b2_t hF
      refine call_SW hC (c_L_whyNot l G n hn (by omega) hfl (xs ((v1 + (1 : Int32))).toNatClampNeg) _ _ _ hc331) wwL_173 ⟨rfl, rfl, by decide, by decide⟩ hw hS hl.1 rfl (rest := []) rfl (Nat.le_of_ble_eq_true rfl) dL_law_1175 ⟨by omega, by omega⟩ (fun H locs hw hS => ?_)
      refine lv_istore (lv' := [(5, .int r329), (0, .ref b), (1, .ref (bb G + 0)), (2, .ref (bb G + 244)), (3, .ref (bb G + 252)), (4, .int v1)]) hx hb dL_law_1178 hl (by decide) rfl (fun ls hl => ?_)
      refine lv_aload_n hx hb dL_law_1180 rfl (lv_at hl 3 rfl) ?_
      refine lv_aload_n hx hb dL_law_1181 rfl (lv_at hl 1 rfl) ?_
      refine lv_iload hx hb dL_law_1182 (lv_at hl 5 rfl) ?_
      refine lv_iconst (v := 1) hx hb dL_law_1184 (by decide) ?_
      refine lv_iadd hx hb dL_law_1185 ?_
      obtain ⟨g332, hF⟩ := gi_t hF
      refine va_sld hx hb hX hbl (Nat.not_le.mpr (by rw [hbb]; exact hbl)) hS g332 dL_law_1186 ?_
      obtain ⟨r333, C334, hc335, hF⟩ := b2_t hF
      refine call_Vi hC (c_X9_whyNot l G n (by omega) hn2 (xs ((v1 + (1 : Int32))).toNatClampNeg) _ _ _ hc335) wvL_175 ⟨rfl, rfl, by decide, by decide⟩ hw hS (by omega) ca_model rfl hl.1 rfl (rest := []) rfl (Nat.le_of_ble_eq_true rfl) dL_law_1187 ⟨by omega, by omega⟩ (fun H locs hw hS _ => ?_)
      refine lv_istore (lv' := [(6, .int r333), (5, .int r329), (0, .ref b), (1, .ref (bb G + 0)), (2, .ref (bb G + 244)), (3, .ref (bb G + 252)), (4, .int v1)]) hx hb dL_law_1190 hl (by decide) rfl (fun ls hl => ?_)
      refine lv_aload_n hx hb dL_law_1192 rfl (lv_at hl 4 rfl) ?_
      obtain ⟨r336, C337, hc338, hF⟩ := b2_t hF
      refine call_Vi hC (c_X9_thrown l G n (by omega) hn2  _ _ _ hc338) wvL_110 ⟨rfl, rfl, by decide, by decide⟩ hw hS (by omega) ca_model rfl hl.1 rfl (rest := []) rfl (Nat.le_of_ble_eq_true rfl) dL_law_1193 ⟨by omega, by omega⟩ (fun H locs hw hS _ => ?_)
      refine lv_iload hx hb dL_law_1196 (lv_at hl 1 rfl) ?_
      refine lv_icmp_eq (tgt := 1203) hx hb dL_law_1198 (by decide) (fun h339 => ?_) (fun h339 => ?_)
      · have hF := it_t h339 hF
        refine lv_iload hx hb dL_law_1203 (lv_at hl 1 rfl) ?_
        refine lv_if_ne (tgt := 1220) hx hb dL_law_1205 (by decide) (fun h340 => ?_) (fun h340 => ?_)
        · have hF := it_f h340 hF
          refine lv_goto (tgt := 1903) hx hb dL_law_1220 (by decide) ?_
          obtain ⟨v341, ev341, hF⟩ := nm_t hF
          refine lv_iinc (v := v341) (lv' := [(4, .int v341), (6, .int r333), (5, .int r329), (0, .ref b), (1, .ref (bb G + 0)), (2, .ref (bb G + 244)), (3, .ref (bb G + 252))]) hx hb dL_law_1903 hl (k := 6) rfl (by rw [ev341]; rfl) (by decide) rfl (fun ls hl => ?_)
          refine lv_goto (tgt := 23) hx hb dL_law_1906 (by decide) ?_
          refine W.widen (k := 4000 + 3 * (k + 1)) (n := 40000 + 18 * (k + 1)) (by omega) (by omega) ?_
          exact it_back hF hk (k + 1) _ _ _ (law_k1 ek ev341) (law_k2 hL hk0 ek h4) hw hS (lv_sub hl [3, 4, 5, 6, 0] rfl)
        · have hF := it_t h340 hF
          refine lv_aload_n hx hb dL_law_1208 rfl (lv_at hl 5 rfl) ?_
          refine lv_iconst (v := 0) hx hb dL_law_1209 (by decide) ?_
          refine ld_out hC hw (by omega) dL_law_1210 ?_
          refine lv_iload hx hb dL_law_1211 (lv_at hl 0 rfl) ?_
          refine lv_i2l (v := (r333).toInt64) hx hb dL_law_1213 rfl ?_
          refine W.lcmp hx hb dL_law_1214 ?_
          refine lv_if_eq (tgt := 1220) hx hb dL_law_1215 (by decide) (fun h342 => ?_) (fun h342 => ?_)
          · have hF := it_t h342 hF
            refine lv_goto (tgt := 1903) hx hb dL_law_1220 (by decide) ?_
            obtain ⟨v343, ev343, hF⟩ := nm_t hF
            refine lv_iinc (v := v343) (lv' := [(4, .int v343), (6, .int r333), (5, .int r329), (0, .ref b), (1, .ref (bb G + 0)), (2, .ref (bb G + 244)), (3, .ref (bb G + 252))]) hx hb dL_law_1903 hl (k := 6) rfl (by rw [ev343]; rfl) (by decide) rfl (fun ls hl => ?_)
            refine lv_goto (tgt := 23) hx hb dL_law_1906 (by decide) ?_
            refine W.widen (k := 4000 + 3 * (k + 1)) (n := 40000 + 18 * (k + 1)) (by omega) (by omega) ?_
            exact it_back hF hk (k + 1) _ _ _ (law_k1 ek ev343) (law_k2 hL hk0 ek h4) hw hS (lv_sub hl [3, 4, 5, 6, 0] rfl)
          · have hF := it_f h342 hF
            refine lv_iconst (v := 0) hx hb dL_law_1218 (by decide) ?_
            cases hF
      · have hF := it_f h339 hF
        refine lv_iconst (v := 0) hx hb dL_law_1201 (by decide) ?_
        cases hF
    have hF := it_f h26 hF
    by_cases h27 : v6 = (20 : Int32)
    · have hF := it_t h27 hF
      unfold K_L_20 at hF
      refine lv_tableIn (tgt := 1223) (off := 1184) hx hb dL_law_39 (by rw [h27]; decide) (by rw [h27]; decide) (by rw [h27]; rfl) (by decide) ?_
      refine lv_aload_n hx hb dL_law_1223 rfl (lv_at hl 1 rfl) ?_
      refine lv_aload_n hx hb dL_law_1224 rfl (lv_at hl 0 rfl) ?_
      refine lv_iload hx hb dL_law_1225 (lv_at hl 4 rfl) ?_
      refine lv_iconst (v := 1) hx hb dL_law_1227 (by decide) ?_
      refine lv_iadd hx hb dL_law_1228 ?_
      obtain ⟨g344, hF⟩ := gi_t hF
      refine va_sld hx hb hX hbl (Nat.not_le.mpr (by rw [hbb]; exact hbl)) hS g344 dL_law_1229 ?_
      refine lv_aload_n hx hb dL_law_1230 rfl (lv_at hl 0 rfl) ?_
      refine lv_iload hx hb dL_law_1231 (lv_at hl 4 rfl) ?_
      refine lv_iconst (v := 2) hx hb dL_law_1233 (by decide) ?_
      refine lv_iadd hx hb dL_law_1234 ?_
      obtain ⟨g345, hF⟩ := gi_t hF
      refine va_sld hx hb hX hbl (Nat.not_le.mpr (by rw [hbb]; exact hbl)) hS g345 dL_law_1235 ?_
      have hJ1244 : ∀ (v347 : Int32) (H : Heap) (locs : List Loc) (ls : Array Slot), J_L_law_1244 xs L v1 C2 v347 = some oo → Wd G n C2 H → LW G s H locs → lv_has ls 7 [(0, .ref b), (1, .ref (bb G + 0)), (2, .ref (bb G + 244)), (3, .ref (bb G + 252)), (4, .int v1)] → W p l e room_1 s m (#[Value.ref b]) below meth c H locs (4000 + 3 * k) (40000 + 18 * k) (lw_Z below #[Value.ref b] s) (F0 m 1244 ls [.int v347, .int (xs ((v1 + (1 : Int32))).toNatClampNeg), .ref (bb G + 0)]) := by
        intro v347 H locs ls hF hw hS hl
        unfold J_L_law_1244 at hF
        refine lv_aload_n hx hb dL_law_1244 rfl (lv_at hl 3 rfl) ?_
        obtain ⟨r348, C349, hc350, hF⟩ := b2_t hF
        refine call_SW hC (c_L_smallestSet l G n hn (by omega) hfl (xs ((v1 + (1 : Int32))).toNatClampNeg) v347 _ _ _ hc350) wwL_176 ⟨rfl, rfl, by decide, by decide⟩ hw hS hl.1 rfl (rest := []) rfl (Nat.le_of_ble_eq_true rfl) dL_law_1245 ⟨by omega, by omega⟩ (fun H locs hw hS => ?_)
        refine lv_istore (lv' := [(5, .int r348), (0, .ref b), (1, .ref (bb G + 0)), (2, .ref (bb G + 244)), (3, .ref (bb G + 252)), (4, .int v1)]) hx hb dL_law_1248 hl (by decide) rfl (fun ls hl => ?_)
        refine lv_aload_n hx hb dL_law_1250 rfl (lv_at hl 3 rfl) ?_
        refine lv_aload_n hx hb dL_law_1251 rfl (lv_at hl 1 rfl) ?_
        refine lv_iload hx hb dL_law_1252 (lv_at hl 5 rfl) ?_
        refine lv_iconst (v := 1) hx hb dL_law_1254 (by decide) ?_
        refine lv_iadd hx hb dL_law_1255 ?_
        obtain ⟨g351, hF⟩ := gi_t hF
        refine va_sld hx hb hX hbl (Nat.not_le.mpr (by rw [hbb]; exact hbl)) hS g351 dL_law_1256 ?_
        refine lv_aload_n hx hb dL_law_1257 rfl (lv_at hl 1 rfl) ?_
        refine lv_iload hx hb dL_law_1258 (lv_at hl 5 rfl) ?_
        refine lv_iconst (v := 2) hx hb dL_law_1260 (by decide) ?_
        refine lv_iadd hx hb dL_law_1261 ?_
        obtain ⟨g352, hF⟩ := gi_t hF
        refine va_sld hx hb hX hbl (Nat.not_le.mpr (by rw [hbb]; exact hbl)) hS g352 dL_law_1262 ?_
        have hJ1271 : ∀ (v354 : Int32) (H : Heap) (locs : List Loc) (ls : Array Slot), J_L_law_1271 xs v1 r348 C349 v354 = some oo → Wd G n C349 H → LW G s H locs → lv_has ls 7 [(0, .ref b), (1, .ref (bb G + 0)), (2, .ref (bb G + 244)), (3, .ref (bb G + 252)), (4, .int v1), (5, .int r348)] → W p l e room_1 s m (#[Value.ref b]) below meth c H locs (4000 + 3 * k + 1) (40000 + 18 * k + 6) (lw_Z below #[Value.ref b] s) (F0 m 1271 ls [.int v354, .int (xs ((v1 + (1 : Int32))).toNatClampNeg), .ref (bb G + 244)]) := by
          intro v354 H locs ls hF hw hS hl
          unfold J_L_law_1271 at hF
          obtain ⟨r355, C356, hc357, hF⟩ := b2_t hF
          refine call_Vi hC (c_X9_smallestSet l G n (by omega) hn2 (xs ((v1 + (1 : Int32))).toNatClampNeg) v354 _ _ _ hc357) wvL_178 ⟨rfl, rfl, by decide, by decide⟩ hw hS (by omega) ca_model rfl hl.1 rfl (rest := []) rfl (Nat.le_of_ble_eq_true rfl) dL_law_1271 ⟨by omega, by omega⟩ (fun H locs hw hS _ => ?_)
          refine lv_istore (lv' := [(6, .int r355), (0, .ref b), (1, .ref (bb G + 0)), (2, .ref (bb G + 244)), (3, .ref (bb G + 252)), (4, .int v1), (5, .int r348)]) hx hb dL_law_1274 hl (by decide) rfl (fun ls hl => ?_)
          refine lv_aload_n hx hb dL_law_1276 rfl (lv_at hl 3 rfl) ?_
          obtain ⟨r358, C359, hc360, hF⟩ := b2_t hF
          refine call_Vi hC (c_X9_thrown l G n (by omega) hn2  _ _ _ hc360) wvL_110 ⟨rfl, rfl, by decide, by decide⟩ hw hS (by omega) ca_model rfl hl.1 rfl (rest := []) rfl (Nat.le_of_ble_eq_true rfl) dL_law_1277 ⟨by omega, by omega⟩ (fun H locs hw hS _ => ?_)
          refine lv_iload hx hb dL_law_1280 (lv_at hl 6 rfl) ?_
          refine lv_icmp_eq (tgt := 1287) hx hb dL_law_1282 (by decide) (fun h361 => ?_) (fun h361 => ?_)
          · have hF := it_t h361 hF
            refine lv_iload hx hb dL_law_1287 (lv_at hl 6 rfl) ?_
            refine lv_if_ne (tgt := 1304) hx hb dL_law_1289 (by decide) (fun h362 => ?_) (fun h362 => ?_)
            · have hF := it_f h362 hF
              refine lv_goto (tgt := 1903) hx hb dL_law_1304 (by decide) ?_
              obtain ⟨v363, ev363, hF⟩ := nm_t hF
              refine lv_iinc (v := v363) (lv' := [(4, .int v363), (6, .int r355), (0, .ref b), (1, .ref (bb G + 0)), (2, .ref (bb G + 244)), (3, .ref (bb G + 252)), (5, .int r348)]) hx hb dL_law_1903 hl (k := 5) rfl (by rw [ev363]; rfl) (by decide) rfl (fun ls hl => ?_)
              refine lv_goto (tgt := 23) hx hb dL_law_1906 (by decide) ?_
              refine W.widen (k := 4000 + 3 * (k + 1)) (n := 40000 + 18 * (k + 1)) (by omega) (by omega) ?_
              exact it_back hF hk (k + 1) _ _ _ (law_k1 ek ev363) (law_k2 hL hk0 ek h4) hw hS (lv_sub hl [2, 3, 4, 5, 0] rfl)
            · have hF := it_t h362 hF
              refine lv_aload_n hx hb dL_law_1292 rfl (lv_at hl 4 rfl) ?_
              refine lv_iconst (v := 0) hx hb dL_law_1293 (by decide) ?_
              refine ld_out hC hw (by omega) dL_law_1294 ?_
              refine lv_iload hx hb dL_law_1295 (lv_at hl 0 rfl) ?_
              refine lv_i2l (v := (r355).toInt64) hx hb dL_law_1297 rfl ?_
              refine W.lcmp hx hb dL_law_1298 ?_
              refine lv_if_eq (tgt := 1304) hx hb dL_law_1299 (by decide) (fun h364 => ?_) (fun h364 => ?_)
              · have hF := it_t h364 hF
                refine lv_goto (tgt := 1903) hx hb dL_law_1304 (by decide) ?_
                obtain ⟨v365, ev365, hF⟩ := nm_t hF
                refine lv_iinc (v := v365) (lv' := [(4, .int v365), (6, .int r355), (0, .ref b), (1, .ref (bb G + 0)), (2, .ref (bb G + 244)), (3, .ref (bb G + 252)), (5, .int r348)]) hx hb dL_law_1903 hl (k := 5) rfl (by rw [ev365]; rfl) (by decide) rfl (fun ls hl => ?_)
                refine lv_goto (tgt := 23) hx hb dL_law_1906 (by decide) ?_
                refine W.widen (k := 4000 + 3 * (k + 1)) (n := 40000 + 18 * (k + 1)) (by omega) (by omega) ?_
                exact it_back hF hk (k + 1) _ _ _ (law_k1 ek ev365) (law_k2 hL hk0 ek h4) hw hS (lv_sub hl [2, 3, 4, 5, 0] rfl)
              · have hF := it_f h364 hF
                refine lv_iconst (v := 0) hx hb dL_law_1302 (by decide) ?_
                cases hF
          · have hF := it_f h361 hF
            refine lv_iconst (v := 0) hx hb dL_law_1285 (by decide) ?_
            cases hF
        refine lv_if_eq (tgt := 1270) hx hb dL_law_1263 (by decide) (fun h353 => ?_) (fun h353 => ?_)
        · have hF := it_t h353 hF
          refine lv_iconst (v := 0) hx hb dL_law_1270 (by decide) ?_
          exact hJ1271 (0 : Int32) _ _ _ hF hw hS (lv_sub hl [1, 2, 3, 4, 5, 0] rfl)
        · have hF := it_f h353 hF
          refine lv_iconst (v := 1) hx hb dL_law_1266 (by decide) ?_
          refine lv_goto (tgt := 1271) hx hb dL_law_1267 (by decide) ?_
          exact hJ1271 (1 : Int32) _ _ _ hF hw hS (lv_sub hl [1, 2, 3, 4, 5, 0] rfl)
      refine lv_if_eq (tgt := 1243) hx hb dL_law_1236 (by decide) (fun h346 => ?_) (fun h346 => ?_)
      · have hF := it_t h346 hF
        refine lv_iconst (v := 0) hx hb dL_law_1243 (by decide) ?_
        exact hJ1244 (0 : Int32) _ _ _ hF hw hS (lv_sub hl [0, 1, 2, 3, 4] rfl)
      · have hF := it_f h346 hF
        refine lv_iconst (v := 1) hx hb dL_law_1239 (by decide) ?_
        refine lv_goto (tgt := 1244) hx hb dL_law_1240 (by decide) ?_
        exact hJ1244 (1 : Int32) _ _ _ hF hw hS (lv_sub hl [0, 1, 2, 3, 4] rfl)
    have hF := it_f h27 hF
    by_cases h28 : v6 = (21 : Int32)
    · have hF := it_t h28 hF
      unfold K_L_21 at hF
      refine lv_tableIn (tgt := 1307) (off := 1268) hx hb dL_law_39 (by rw [h28]; decide) (by rw [h28]; decide) (by rw [h28]; rfl) (by decide) ?_
      refine lv_aload_n hx hb dL_law_1307 rfl (lv_at hl 1 rfl) ?_
      refine lv_aload_n hx hb dL_law_1308 rfl (lv_at hl 0 rfl) ?_
      refine lv_iload hx hb dL_law_1309 (lv_at hl 4 rfl) ?_
      refine lv_iconst (v := 1) hx hb dL_law_1311 (by decide) ?_
      refine lv_iadd hx hb dL_law_1312 ?_
      obtain ⟨g366, hF⟩ := gi_t hF
      refine va_sld hx hb hX hbl (Nat.not_le.mpr (by rw [hbb]; exact hbl)) hS g366 dL_law_1313 ?_
      refine lv_aload_n hx hb dL_law_1314 rfl (lv_at hl 0 rfl) ?_
      refine lv_iload hx hb dL_law_1315 (lv_at hl 4 rfl) ?_
      refine lv_iconst (v := 2) hx hb dL_law_1317 (by decide) ?_
      refine lv_iadd hx hb dL_law_1318 ?_
      obtain ⟨g367, hF⟩ := gi_t hF
      refine va_sld hx hb hX hbl (Nat.not_le.mpr (by rw [hbb]; exact hbl)) hS g367 dL_law_1319 ?_
      refine lv_aload_n hx hb dL_law_1320 rfl (lv_at hl 0 rfl) ?_
      refine lv_iload hx hb dL_law_1321 (lv_at hl 4 rfl) ?_
      refine lv_iconst (v := 3) hx hb dL_law_1323 (by decide) ?_
      refine lv_iadd hx hb dL_law_1324 ?_
      obtain ⟨g368, hF⟩ := gi_t hF
      refine va_sld hx hb hX hbl (Nat.not_le.mpr (by rw [hbb]; exact hbl)) hS g368 dL_law_1325 ?_
      refine lv_aload_n hx hb dL_law_1326 rfl (lv_at hl 3 rfl) ?_
      obtain ⟨r369, C370, hc371, hF⟩ := b2_t hF
      refine call_SW hC (c_L_ahead l G n hn (by omega) hfl (xs ((v1 + (1 : Int32))).toNatClampNeg) (xs ((v1 + (2 : Int32))).toNatClampNeg) (xs ((v1 + (3 : Int32))).toNatClampNeg) _ _ _ hc371) wwL_179 ⟨rfl, rfl, by decide, by decide⟩ hw hS hl.1 rfl (rest := []) rfl (Nat.le_of_ble_eq_true rfl) dL_law_1327 ⟨by omega, by omega⟩ (fun H locs hw hS => ?_)
      refine lv_istore (lv' := [(5, .int r369), (0, .ref b), (1, .ref (bb G + 0)), (2, .ref (bb G + 244)), (3, .ref (bb G + 252)), (4, .int v1)]) hx hb dL_law_1330 hl (by decide) rfl (fun ls hl => ?_)
      refine lv_aload_n hx hb dL_law_1332 rfl (lv_at hl 3 rfl) ?_
      refine lv_aload_n hx hb dL_law_1333 rfl (lv_at hl 1 rfl) ?_
      refine lv_iload hx hb dL_law_1334 (lv_at hl 5 rfl) ?_
      refine lv_iconst (v := 1) hx hb dL_law_1336 (by decide) ?_
      refine lv_iadd hx hb dL_law_1337 ?_
      obtain ⟨g372, hF⟩ := gi_t hF
      refine va_sld hx hb hX hbl (Nat.not_le.mpr (by rw [hbb]; exact hbl)) hS g372 dL_law_1338 ?_
      refine lv_aload_n hx hb dL_law_1339 rfl (lv_at hl 1 rfl) ?_
      refine lv_iload hx hb dL_law_1340 (lv_at hl 5 rfl) ?_
      refine lv_iconst (v := 2) hx hb dL_law_1342 (by decide) ?_
      refine lv_iadd hx hb dL_law_1343 ?_
      obtain ⟨g373, hF⟩ := gi_t hF
      refine va_sld hx hb hX hbl (Nat.not_le.mpr (by rw [hbb]; exact hbl)) hS g373 dL_law_1344 ?_
      refine lv_aload_n hx hb dL_law_1345 rfl (lv_at hl 1 rfl) ?_
      refine lv_iload hx hb dL_law_1346 (lv_at hl 5 rfl) ?_
      refine lv_iconst (v := 3) hx hb dL_law_1348 (by decide) ?_
      refine lv_iadd hx hb dL_law_1349 ?_
      obtain ⟨g374, hF⟩ := gi_t hF
      refine va_sld hx hb hX hbl (Nat.not_le.mpr (by rw [hbb]; exact hbl)) hS g374 dL_law_1350 ?_
      obtain ⟨r375, C376, hc377, hF⟩ := b2_t hF
      refine call_Vi hC (c_X9_ahead l G n (by omega) hn2 (xs ((v1 + (1 : Int32))).toNatClampNeg) (xs ((v1 + (2 : Int32))).toNatClampNeg) (xs ((v1 + (3 : Int32))).toNatClampNeg) _ _ _ hc377) wvL_182 ⟨rfl, rfl, by decide, by decide⟩ hw hS (by omega) ca_model rfl hl.1 rfl (rest := []) rfl (Nat.le_of_ble_eq_true rfl) dL_law_1351 ⟨by omega, by omega⟩ (fun H locs hw hS _ => ?_)
      refine lv_istore (lv' := [(6, .int r375), (5, .int r369), (0, .ref b), (1, .ref (bb G + 0)), (2, .ref (bb G + 244)), (3, .ref (bb G + 252)), (4, .int v1)]) hx hb dL_law_1354 hl (by decide) rfl (fun ls hl => ?_)
      refine lv_aload_n hx hb dL_law_1356 rfl (lv_at hl 4 rfl) ?_
      obtain ⟨r378, C379, hc380, hF⟩ := b2_t hF
      refine call_Vi hC (c_X9_thrown l G n (by omega) hn2  _ _ _ hc380) wvL_110 ⟨rfl, rfl, by decide, by decide⟩ hw hS (by omega) ca_model rfl hl.1 rfl (rest := []) rfl (Nat.le_of_ble_eq_true rfl) dL_law_1357 ⟨by omega, by omega⟩ (fun H locs hw hS _ => ?_)
      refine lv_iload hx hb dL_law_1360 (lv_at hl 1 rfl) ?_
      refine lv_icmp_eq (tgt := 1367) hx hb dL_law_1362 (by decide) (fun h381 => ?_) (fun h381 => ?_)
      · have hF := it_t h381 hF
        refine lv_iload hx hb dL_law_1367 (lv_at hl 1 rfl) ?_
        refine lv_if_ne (tgt := 1384) hx hb dL_law_1369 (by decide) (fun h382 => ?_) (fun h382 => ?_)
        · have hF := it_f h382 hF
          refine lv_goto (tgt := 1903) hx hb dL_law_1384 (by decide) ?_
          obtain ⟨v383, ev383, hF⟩ := nm_t hF
          refine lv_iinc (v := v383) (lv' := [(4, .int v383), (6, .int r375), (5, .int r369), (0, .ref b), (1, .ref (bb G + 0)), (2, .ref (bb G + 244)), (3, .ref (bb G + 252))]) hx hb dL_law_1903 hl (k := 6) rfl (by rw [ev383]; rfl) (by decide) rfl (fun ls hl => ?_)
          refine lv_goto (tgt := 23) hx hb dL_law_1906 (by decide) ?_
          refine W.widen (k := 4000 + 3 * (k + 1)) (n := 40000 + 18 * (k + 1)) (by omega) (by omega) ?_
          exact it_back hF hk (k + 1) _ _ _ (law_k1 ek ev383) (law_k2 hL hk0 ek h4) hw hS (lv_sub hl [3, 4, 5, 6, 0] rfl)
        · have hF := it_t h382 hF
          refine lv_aload_n hx hb dL_law_1372 rfl (lv_at hl 5 rfl) ?_
          refine lv_iconst (v := 0) hx hb dL_law_1373 (by decide) ?_
          refine ld_out hC hw (by omega) dL_law_1374 ?_
          refine lv_iload hx hb dL_law_1375 (lv_at hl 0 rfl) ?_
          refine lv_i2l (v := (r375).toInt64) hx hb dL_law_1377 rfl ?_
          refine W.lcmp hx hb dL_law_1378 ?_
          refine lv_if_eq (tgt := 1384) hx hb dL_law_1379 (by decide) (fun h384 => ?_) (fun h384 => ?_)
          · have hF := it_t h384 hF
            refine lv_goto (tgt := 1903) hx hb dL_law_1384 (by decide) ?_
            obtain ⟨v385, ev385, hF⟩ := nm_t hF
            refine lv_iinc (v := v385) (lv' := [(4, .int v385), (6, .int r375), (5, .int r369), (0, .ref b), (1, .ref (bb G + 0)), (2, .ref (bb G + 244)), (3, .ref (bb G + 252))]) hx hb dL_law_1903 hl (k := 6) rfl (by rw [ev385]; rfl) (by decide) rfl (fun ls hl => ?_)
            refine lv_goto (tgt := 23) hx hb dL_law_1906 (by decide) ?_
            refine W.widen (k := 4000 + 3 * (k + 1)) (n := 40000 + 18 * (k + 1)) (by omega) (by omega) ?_
            exact it_back hF hk (k + 1) _ _ _ (law_k1 ek ev385) (law_k2 hL hk0 ek h4) hw hS (lv_sub hl [3, 4, 5, 6, 0] rfl)
          · have hF := it_f h384 hF
            refine lv_iconst (v := 0) hx hb dL_law_1382 (by decide) ?_
            cases hF
      · have hF := it_f h381 hF
        refine lv_iconst (v := 0) hx hb dL_law_1365 (by decide) ?_
        cases hF
    have hF := it_f h28 hF
    by_cases h29 : v6 = (22 : Int32)
    · have hF := it_t h29 hF
      unfold K_L_22 at hF
      refine lv_tableIn (tgt := 1387) (off := 1348) hx hb dL_law_39 (by rw [h29]; decide) (by rw [h29]; decide) (by rw [h29]; rfl) (by decide) ?_
      refine lv_aload_n hx hb dL_law_1387 rfl (lv_at hl 1 rfl) ?_
      refine lv_aload_n hx hb dL_law_1388 rfl (lv_at hl 0 rfl) ?_
      refine lv_iload hx hb dL_law_1389 (lv_at hl 4 rfl) ?_
      refine lv_iconst (v := 1) hx hb dL_law_1391 (by decide) ?_
      refine lv_iadd hx hb dL_law_1392 ?_
      obtain ⟨g386, hF⟩ := gi_t hF
      refine va_sld hx hb hX hbl (Nat.not_le.mpr (by rw [hbb]; exact hbl)) hS g386 dL_law_1393 ?_
      refine lv_aload_n hx hb dL_law_1394 rfl (lv_at hl 0 rfl) ?_
      refine lv_iload hx hb dL_law_1395 (lv_at hl 4 rfl) ?_
      refine lv_iconst (v := 2) hx hb dL_law_1397 (by decide) ?_
      refine lv_iadd hx hb dL_law_1398 ?_
      obtain ⟨g387, hF⟩ := gi_t hF
      refine va_sld hx hb hX hbl (Nat.not_le.mpr (by rw [hbb]; exact hbl)) hS g387 dL_law_1399 ?_
      refine lv_aload_n hx hb dL_law_1400 rfl (lv_at hl 3 rfl) ?_
      obtain ⟨r388, C389, hc390, hF⟩ := b2_t hF
      refine call_SW hC (c_L_warmAfter l G n hn (by omega) hfl (xs ((v1 + (1 : Int32))).toNatClampNeg) (xs ((v1 + (2 : Int32))).toNatClampNeg) _ _ _ hc390) wwL_183 ⟨rfl, rfl, by decide, by decide⟩ hw hS hl.1 rfl (rest := []) rfl (Nat.le_of_ble_eq_true rfl) dL_law_1401 ⟨by omega, by omega⟩ (fun H locs hw hS => ?_)
      refine lv_istore (lv' := [(5, .int r388), (0, .ref b), (1, .ref (bb G + 0)), (2, .ref (bb G + 244)), (3, .ref (bb G + 252)), (4, .int v1)]) hx hb dL_law_1404 hl (by decide) rfl (fun ls hl => ?_)
      refine lv_aload_n hx hb dL_law_1406 rfl (lv_at hl 3 rfl) ?_
      refine lv_aload_n hx hb dL_law_1407 rfl (lv_at hl 1 rfl) ?_
      refine lv_iload hx hb dL_law_1408 (lv_at hl 5 rfl) ?_
      refine lv_iconst (v := 1) hx hb dL_law_1410 (by decide) ?_
      refine lv_iadd hx hb dL_law_1411 ?_
      obtain ⟨g391, hF⟩ := gi_t hF
      refine va_sld hx hb hX hbl (Nat.not_le.mpr (by rw [hbb]; exact hbl)) hS g391 dL_law_1412 ?_
      refine lv_aload_n hx hb dL_law_1413 rfl (lv_at hl 1 rfl) ?_
      refine lv_iload hx hb dL_law_1414 (lv_at hl 5 rfl) ?_
      refine lv_iconst (v := 2) hx hb dL_law_1416 (by decide) ?_
      refine lv_iadd hx hb dL_law_1417 ?_
      obtain ⟨g392, hF⟩ := gi_t hF
      refine va_sld hx hb hX hbl (Nat.not_le.mpr (by rw [hbb]; exact hbl)) hS g392 dL_law_1418 ?_
      obtain ⟨r393, C394, hc395, hF⟩ := b2_t hF
      refine call_Vi hC (c_X9_warmAfter l G n (by omega) hn2 (xs ((v1 + (1 : Int32))).toNatClampNeg) (xs ((v1 + (2 : Int32))).toNatClampNeg) _ _ _ hc395) wvL_185 ⟨rfl, rfl, by decide, by decide⟩ hw hS (by omega) ca_model rfl hl.1 rfl (rest := []) rfl (Nat.le_of_ble_eq_true rfl) dL_law_1419 ⟨by omega, by omega⟩ (fun H locs hw hS _ => ?_)
      refine lv_istore (lv' := [(6, .int r393), (5, .int r388), (0, .ref b), (1, .ref (bb G + 0)), (2, .ref (bb G + 244)), (3, .ref (bb G + 252)), (4, .int v1)]) hx hb dL_law_1422 hl (by decide) rfl (fun ls hl => ?_)
      refine lv_aload_n hx hb dL_law_1424 rfl (lv_at hl 4 rfl) ?_
      obtain ⟨r396, C397, hc398, hF⟩ := b2_t hF
      refine call_Vi hC (c_X9_thrown l G n (by omega) hn2  _ _ _ hc398) wvL_110 ⟨rfl, rfl, by decide, by decide⟩ hw hS (by omega) ca_model rfl hl.1 rfl (rest := []) rfl (Nat.le_of_ble_eq_true rfl) dL_law_1425 ⟨by omega, by omega⟩ (fun H locs hw hS _ => ?_)
      refine lv_iload hx hb dL_law_1428 (lv_at hl 1 rfl) ?_
      refine lv_icmp_eq (tgt := 1435) hx hb dL_law_1430 (by decide) (fun h399 => ?_) (fun h399 => ?_)
      · have hF := it_t h399 hF
        refine lv_iload hx hb dL_law_1435 (lv_at hl 1 rfl) ?_
        refine lv_if_ne (tgt := 1452) hx hb dL_law_1437 (by decide) (fun h400 => ?_) (fun h400 => ?_)
        · have hF := it_f h400 hF
          refine lv_goto (tgt := 1903) hx hb dL_law_1452 (by decide) ?_
          obtain ⟨v401, ev401, hF⟩ := nm_t hF
          refine lv_iinc (v := v401) (lv' := [(4, .int v401), (6, .int r393), (5, .int r388), (0, .ref b), (1, .ref (bb G + 0)), (2, .ref (bb G + 244)), (3, .ref (bb G + 252))]) hx hb dL_law_1903 hl (k := 6) rfl (by rw [ev401]; rfl) (by decide) rfl (fun ls hl => ?_)
          refine lv_goto (tgt := 23) hx hb dL_law_1906 (by decide) ?_
          refine W.widen (k := 4000 + 3 * (k + 1)) (n := 40000 + 18 * (k + 1)) (by omega) (by omega) ?_
          exact it_back hF hk (k + 1) _ _ _ (law_k1 ek ev401) (law_k2 hL hk0 ek h4) hw hS (lv_sub hl [3, 4, 5, 6, 0] rfl)
        · have hF := it_t h400 hF
          refine lv_aload_n hx hb dL_law_1440 rfl (lv_at hl 5 rfl) ?_
          refine lv_iconst (v := 0) hx hb dL_law_1441 (by decide) ?_
          refine ld_out hC hw (by omega) dL_law_1442 ?_
          refine lv_iload hx hb dL_law_1443 (lv_at hl 0 rfl) ?_
          refine lv_i2l (v := (r393).toInt64) hx hb dL_law_1445 rfl ?_
          refine W.lcmp hx hb dL_law_1446 ?_
          refine lv_if_eq (tgt := 1452) hx hb dL_law_1447 (by decide) (fun h402 => ?_) (fun h402 => ?_)
          · have hF := it_t h402 hF
            refine lv_goto (tgt := 1903) hx hb dL_law_1452 (by decide) ?_
            obtain ⟨v403, ev403, hF⟩ := nm_t hF
            refine lv_iinc (v := v403) (lv' := [(4, .int v403), (6, .int r393), (5, .int r388), (0, .ref b), (1, .ref (bb G + 0)), (2, .ref (bb G + 244)), (3, .ref (bb G + 252))]) hx hb dL_law_1903 hl (k := 6) rfl (by rw [ev403]; rfl) (by decide) rfl (fun ls hl => ?_)
            refine lv_goto (tgt := 23) hx hb dL_law_1906 (by decide) ?_
            refine W.widen (k := 4000 + 3 * (k + 1)) (n := 40000 + 18 * (k + 1)) (by omega) (by omega) ?_
            exact it_back hF hk (k + 1) _ _ _ (law_k1 ek ev403) (law_k2 hL hk0 ek h4) hw hS (lv_sub hl [3, 4, 5, 6, 0] rfl)
          · have hF := it_f h402 hF
            refine lv_iconst (v := 0) hx hb dL_law_1450 (by decide) ?_
            cases hF
      · have hF := it_f h399 hF
        refine lv_iconst (v := 0) hx hb dL_law_1433 (by decide) ?_
        cases hF
    have hF := it_f h29 hF
    by_cases h30 : v6 = (23 : Int32)
    · have hF := it_t h30 hF
      unfold K_L_23 at hF
      refine lv_tableIn (tgt := 1455) (off := 1416) hx hb dL_law_39 (by rw [h30]; decide) (by rw [h30]; decide) (by rw [h30]; rfl) (by decide) ?_
      refine lv_aload_n hx hb dL_law_1455 rfl (lv_at hl 1 rfl) ?_
      refine lv_aload_n hx hb dL_law_1456 rfl (lv_at hl 0 rfl) ?_
      refine lv_iload hx hb dL_law_1457 (lv_at hl 4 rfl) ?_
      refine lv_iconst (v := 1) hx hb dL_law_1459 (by decide) ?_
      refine lv_iadd hx hb dL_law_1460 ?_
      obtain ⟨g404, hF⟩ := gi_t hF
      refine va_sld hx hb hX hbl (Nat.not_le.mpr (by rw [hbb]; exact hbl)) hS g404 dL_law_1461 ?_
      refine lv_aload_n hx hb dL_law_1462 rfl (lv_at hl 0 rfl) ?_
      refine lv_iload hx hb dL_law_1463 (lv_at hl 4 rfl) ?_
      refine lv_iconst (v := 2) hx hb dL_law_1465 (by decide) ?_
      refine lv_iadd hx hb dL_law_1466 ?_
      obtain ⟨g405, hF⟩ := gi_t hF
      refine va_sld hx hb hX hbl (Nat.not_le.mpr (by rw [hbb]; exact hbl)) hS g405 dL_law_1467 ?_
      refine lv_aload_n hx hb dL_law_1468 rfl (lv_at hl 3 rfl) ?_
      obtain ⟨r406, C407, hc408, hF⟩ := b2_t hF
      refine call_SW hC (c_L_bearable l G n hn (by omega) hfl (xs ((v1 + (1 : Int32))).toNatClampNeg) (xs ((v1 + (2 : Int32))).toNatClampNeg) _ _ _ hc408) wwL_186 ⟨rfl, rfl, by decide, by decide⟩ hw hS hl.1 rfl (rest := []) rfl (Nat.le_of_ble_eq_true rfl) dL_law_1469 ⟨by omega, by omega⟩ (fun H locs hw hS => ?_)
      refine lv_istore (lv' := [(5, .int r406), (0, .ref b), (1, .ref (bb G + 0)), (2, .ref (bb G + 244)), (3, .ref (bb G + 252)), (4, .int v1)]) hx hb dL_law_1472 hl (by decide) rfl (fun ls hl => ?_)
      refine lv_aload_n hx hb dL_law_1474 rfl (lv_at hl 3 rfl) ?_
      refine lv_aload_n hx hb dL_law_1475 rfl (lv_at hl 1 rfl) ?_
      refine lv_iload hx hb dL_law_1476 (lv_at hl 5 rfl) ?_
      refine lv_iconst (v := 1) hx hb dL_law_1478 (by decide) ?_
      refine lv_iadd hx hb dL_law_1479 ?_
      obtain ⟨g409, hF⟩ := gi_t hF
      refine va_sld hx hb hX hbl (Nat.not_le.mpr (by rw [hbb]; exact hbl)) hS g409 dL_law_1480 ?_
      refine lv_aload_n hx hb dL_law_1481 rfl (lv_at hl 1 rfl) ?_
      refine lv_iload hx hb dL_law_1482 (lv_at hl 5 rfl) ?_
      refine lv_iconst (v := 2) hx hb dL_law_1484 (by decide) ?_
      refine lv_iadd hx hb dL_law_1485 ?_
      obtain ⟨g410, hF⟩ := gi_t hF
      refine va_sld hx hb hX hbl (Nat.not_le.mpr (by rw [hbb]; exact hbl)) hS g410 dL_law_1486 ?_
      obtain ⟨r411, C412, hc413, hF⟩ := b2_t hF
      refine call_Vi hC (c_X9_bearable l G n (by omega) hn2 (xs ((v1 + (1 : Int32))).toNatClampNeg) (xs ((v1 + (2 : Int32))).toNatClampNeg) _ _ _ hc413) wvL_188 ⟨rfl, rfl, by decide, by decide⟩ hw hS (by omega) ca_model rfl hl.1 rfl (rest := []) rfl (Nat.le_of_ble_eq_true rfl) dL_law_1487 ⟨by omega, by omega⟩ (fun H locs hw hS _ => ?_)
      refine lv_istore (lv' := [(6, .int r411), (5, .int r406), (0, .ref b), (1, .ref (bb G + 0)), (2, .ref (bb G + 244)), (3, .ref (bb G + 252)), (4, .int v1)]) hx hb dL_law_1490 hl (by decide) rfl (fun ls hl => ?_)
      refine lv_aload_n hx hb dL_law_1492 rfl (lv_at hl 4 rfl) ?_
      obtain ⟨r414, C415, hc416, hF⟩ := b2_t hF
      refine call_Vi hC (c_X9_thrown l G n (by omega) hn2  _ _ _ hc416) wvL_110 ⟨rfl, rfl, by decide, by decide⟩ hw hS (by omega) ca_model rfl hl.1 rfl (rest := []) rfl (Nat.le_of_ble_eq_true rfl) dL_law_1493 ⟨by omega, by omega⟩ (fun H locs hw hS _ => ?_)
      refine lv_iload hx hb dL_law_1496 (lv_at hl 1 rfl) ?_
      refine lv_icmp_eq (tgt := 1503) hx hb dL_law_1498 (by decide) (fun h417 => ?_) (fun h417 => ?_)
      · have hF := it_t h417 hF
        refine lv_iload hx hb dL_law_1503 (lv_at hl 1 rfl) ?_
        refine lv_if_ne (tgt := 1520) hx hb dL_law_1505 (by decide) (fun h418 => ?_) (fun h418 => ?_)
        · have hF := it_f h418 hF
          refine lv_goto (tgt := 1903) hx hb dL_law_1520 (by decide) ?_
          obtain ⟨v419, ev419, hF⟩ := nm_t hF
          refine lv_iinc (v := v419) (lv' := [(4, .int v419), (6, .int r411), (5, .int r406), (0, .ref b), (1, .ref (bb G + 0)), (2, .ref (bb G + 244)), (3, .ref (bb G + 252))]) hx hb dL_law_1903 hl (k := 6) rfl (by rw [ev419]; rfl) (by decide) rfl (fun ls hl => ?_)
          refine lv_goto (tgt := 23) hx hb dL_law_1906 (by decide) ?_
          refine W.widen (k := 4000 + 3 * (k + 1)) (n := 40000 + 18 * (k + 1)) (by omega) (by omega) ?_
          exact it_back hF hk (k + 1) _ _ _ (law_k1 ek ev419) (law_k2 hL hk0 ek h4) hw hS (lv_sub hl [3, 4, 5, 6, 0] rfl)
        · have hF := it_t h418 hF
          refine lv_aload_n hx hb dL_law_1508 rfl (lv_at hl 5 rfl) ?_
          refine lv_iconst (v := 0) hx hb dL_law_1509 (by decide) ?_
          refine ld_out hC hw (by omega) dL_law_1510 ?_
          refine lv_iload hx hb dL_law_1511 (lv_at hl 0 rfl) ?_
          refine lv_i2l (v := (r411).toInt64) hx hb dL_law_1513 rfl ?_
          refine W.lcmp hx hb dL_law_1514 ?_
          refine lv_if_eq (tgt := 1520) hx hb dL_law_1515 (by decide) (fun h420 => ?_) (fun h420 => ?_)
          · have hF := it_t h420 hF
            refine lv_goto (tgt := 1903) hx hb dL_law_1520 (by decide) ?_
            obtain ⟨v421, ev421, hF⟩ := nm_t hF
            refine lv_iinc (v := v421) (lv' := [(4, .int v421), (6, .int r411), (5, .int r406), (0, .ref b), (1, .ref (bb G + 0)), (2, .ref (bb G + 244)), (3, .ref (bb G + 252))]) hx hb dL_law_1903 hl (k := 6) rfl (by rw [ev421]; rfl) (by decide) rfl (fun ls hl => ?_)
            refine lv_goto (tgt := 23) hx hb dL_law_1906 (by decide) ?_
            refine W.widen (k := 4000 + 3 * (k + 1)) (n := 40000 + 18 * (k + 1)) (by omega) (by omega) ?_
            exact it_back hF hk (k + 1) _ _ _ (law_k1 ek ev421) (law_k2 hL hk0 ek h4) hw hS (lv_sub hl [3, 4, 5, 6, 0] rfl)
          · have hF := it_f h420 hF
            refine lv_iconst (v := 0) hx hb dL_law_1518 (by decide) ?_
            cases hF
      · have hF := it_f h417 hF
        refine lv_iconst (v := 0) hx hb dL_law_1501 (by decide) ?_
        cases hF
    have hF := it_f h30 hF
    by_cases h31 : v6 = (24 : Int32)
    · have hF := it_t h31 hF
      unfold K_L_24 at hF
      refine lv_tableIn (tgt := 1523) (off := 1484) hx hb dL_law_39 (by rw [h31]; decide) (by rw [h31]; decide) (by rw [h31]; rfl) (by decide) ?_
      refine lv_aload_n hx hb dL_law_1523 rfl (lv_at hl 1 rfl) ?_
      refine lv_aload_n hx hb dL_law_1524 rfl (lv_at hl 0 rfl) ?_
      refine lv_iload hx hb dL_law_1525 (lv_at hl 4 rfl) ?_
      refine lv_iconst (v := 1) hx hb dL_law_1527 (by decide) ?_
      refine lv_iadd hx hb dL_law_1528 ?_
      obtain ⟨g422, hF⟩ := gi_t hF
      refine va_sld hx hb hX hbl (Nat.not_le.mpr (by rw [hbb]; exact hbl)) hS g422 dL_law_1529 ?_
      refine lv_aload_n hx hb dL_law_1530 rfl (lv_at hl 0 rfl) ?_
      refine lv_iload hx hb dL_law_1531 (lv_at hl 4 rfl) ?_
      refine lv_iconst (v := 2) hx hb dL_law_1533 (by decide) ?_
      refine lv_iadd hx hb dL_law_1534 ?_
      obtain ⟨g423, hF⟩ := gi_t hF
      refine va_sld hx hb hX hbl (Nat.not_le.mpr (by rw [hbb]; exact hbl)) hS g423 dL_law_1535 ?_
      refine lv_aload_n hx hb dL_law_1536 rfl (lv_at hl 3 rfl) ?_
      obtain ⟨r424, C425, hc426, hF⟩ := b2_t hF
      refine call_SW hC (c_L_cheapestPurge l G n hn (by omega) hfl (xs ((v1 + (1 : Int32))).toNatClampNeg) (xs ((v1 + (2 : Int32))).toNatClampNeg) _ _ _ hc426) wwL_189 ⟨rfl, rfl, by decide, by decide⟩ hw hS hl.1 rfl (rest := []) rfl (Nat.le_of_ble_eq_true rfl) dL_law_1537 ⟨by omega, by omega⟩ (fun H locs hw hS => ?_)
      refine lv_istore (lv' := [(5, .int r424), (0, .ref b), (1, .ref (bb G + 0)), (2, .ref (bb G + 244)), (3, .ref (bb G + 252)), (4, .int v1)]) hx hb dL_law_1540 hl (by decide) rfl (fun ls hl => ?_)
      refine lv_aload_n hx hb dL_law_1542 rfl (lv_at hl 3 rfl) ?_
      refine lv_aload_n hx hb dL_law_1543 rfl (lv_at hl 1 rfl) ?_
      refine lv_iload hx hb dL_law_1544 (lv_at hl 5 rfl) ?_
      refine lv_iconst (v := 1) hx hb dL_law_1546 (by decide) ?_
      refine lv_iadd hx hb dL_law_1547 ?_
      obtain ⟨g427, hF⟩ := gi_t hF
      refine va_sld hx hb hX hbl (Nat.not_le.mpr (by rw [hbb]; exact hbl)) hS g427 dL_law_1548 ?_
      refine lv_aload_n hx hb dL_law_1549 rfl (lv_at hl 1 rfl) ?_
      refine lv_iload hx hb dL_law_1550 (lv_at hl 5 rfl) ?_
      refine lv_iconst (v := 2) hx hb dL_law_1552 (by decide) ?_
      refine lv_iadd hx hb dL_law_1553 ?_
      obtain ⟨g428, hF⟩ := gi_t hF
      refine va_sld hx hb hX hbl (Nat.not_le.mpr (by rw [hbb]; exact hbl)) hS g428 dL_law_1554 ?_
      obtain ⟨r429, C430, hc431, hF⟩ := b2_t hF
      refine call_Vi hC (c_X9_cheapestPurge l G n (by omega) hn2 (xs ((v1 + (1 : Int32))).toNatClampNeg) (xs ((v1 + (2 : Int32))).toNatClampNeg) _ _ _ hc431) wvL_191 ⟨rfl, rfl, by decide, by decide⟩ hw hS (by omega) ca_model rfl hl.1 rfl (rest := []) rfl (Nat.le_of_ble_eq_true rfl) dL_law_1555 ⟨by omega, by omega⟩ (fun H locs hw hS _ => ?_)
      refine lv_istore (lv' := [(6, .int r429), (5, .int r424), (0, .ref b), (1, .ref (bb G + 0)), (2, .ref (bb G + 244)), (3, .ref (bb G + 252)), (4, .int v1)]) hx hb dL_law_1558 hl (by decide) rfl (fun ls hl => ?_)
      refine lv_aload_n hx hb dL_law_1560 rfl (lv_at hl 4 rfl) ?_
      obtain ⟨r432, C433, hc434, hF⟩ := b2_t hF
      refine call_Vi hC (c_X9_thrown l G n (by omega) hn2  _ _ _ hc434) wvL_110 ⟨rfl, rfl, by decide, by decide⟩ hw hS (by omega) ca_model rfl hl.1 rfl (rest := []) rfl (Nat.le_of_ble_eq_true rfl) dL_law_1561 ⟨by omega, by omega⟩ (fun H locs hw hS _ => ?_)
      refine lv_iload hx hb dL_law_1564 (lv_at hl 1 rfl) ?_
      refine lv_icmp_eq (tgt := 1571) hx hb dL_law_1566 (by decide) (fun h435 => ?_) (fun h435 => ?_)
      · have hF := it_t h435 hF
        refine lv_iload hx hb dL_law_1571 (lv_at hl 1 rfl) ?_
        refine lv_if_ne (tgt := 1588) hx hb dL_law_1573 (by decide) (fun h436 => ?_) (fun h436 => ?_)
        · have hF := it_f h436 hF
          refine lv_goto (tgt := 1903) hx hb dL_law_1588 (by decide) ?_
          obtain ⟨v437, ev437, hF⟩ := nm_t hF
          refine lv_iinc (v := v437) (lv' := [(4, .int v437), (6, .int r429), (5, .int r424), (0, .ref b), (1, .ref (bb G + 0)), (2, .ref (bb G + 244)), (3, .ref (bb G + 252))]) hx hb dL_law_1903 hl (k := 6) rfl (by rw [ev437]; rfl) (by decide) rfl (fun ls hl => ?_)
          refine lv_goto (tgt := 23) hx hb dL_law_1906 (by decide) ?_
          refine W.widen (k := 4000 + 3 * (k + 1)) (n := 40000 + 18 * (k + 1)) (by omega) (by omega) ?_
          exact it_back hF hk (k + 1) _ _ _ (law_k1 ek ev437) (law_k2 hL hk0 ek h4) hw hS (lv_sub hl [3, 4, 5, 6, 0] rfl)
        · have hF := it_t h436 hF
          refine lv_aload_n hx hb dL_law_1576 rfl (lv_at hl 5 rfl) ?_
          refine lv_iconst (v := 0) hx hb dL_law_1577 (by decide) ?_
          refine ld_out hC hw (by omega) dL_law_1578 ?_
          refine lv_iload hx hb dL_law_1579 (lv_at hl 0 rfl) ?_
          refine lv_i2l (v := (r429).toInt64) hx hb dL_law_1581 rfl ?_
          refine W.lcmp hx hb dL_law_1582 ?_
          refine lv_if_eq (tgt := 1588) hx hb dL_law_1583 (by decide) (fun h438 => ?_) (fun h438 => ?_)
          · have hF := it_t h438 hF
            refine lv_goto (tgt := 1903) hx hb dL_law_1588 (by decide) ?_
            obtain ⟨v439, ev439, hF⟩ := nm_t hF
            refine lv_iinc (v := v439) (lv' := [(4, .int v439), (6, .int r429), (5, .int r424), (0, .ref b), (1, .ref (bb G + 0)), (2, .ref (bb G + 244)), (3, .ref (bb G + 252))]) hx hb dL_law_1903 hl (k := 6) rfl (by rw [ev439]; rfl) (by decide) rfl (fun ls hl => ?_)
            refine lv_goto (tgt := 23) hx hb dL_law_1906 (by decide) ?_
            refine W.widen (k := 4000 + 3 * (k + 1)) (n := 40000 + 18 * (k + 1)) (by omega) (by omega) ?_
            exact it_back hF hk (k + 1) _ _ _ (law_k1 ek ev439) (law_k2 hL hk0 ek h4) hw hS (lv_sub hl [3, 4, 5, 6, 0] rfl)
          · have hF := it_f h438 hF
            refine lv_iconst (v := 0) hx hb dL_law_1586 (by decide) ?_
            cases hF
      · have hF := it_f h435 hF
        refine lv_iconst (v := 0) hx hb dL_law_1569 (by decide) ?_
        cases hF
    have hF := it_f h31 hF
    by_cases h32 : v6 = (25 : Int32)
    · have hF := it_t h32 hF
      unfold K_L_25 at hF
      refine lv_tableIn (tgt := 1591) (off := 1552) hx hb dL_law_39 (by rw [h32]; decide) (by rw [h32]; decide) (by rw [h32]; rfl) (by decide) ?_
      refine lv_aload_n hx hb dL_law_1591 rfl (lv_at hl 1 rfl) ?_
      refine lv_aload_n hx hb dL_law_1592 rfl (lv_at hl 0 rfl) ?_
      refine lv_iload hx hb dL_law_1593 (lv_at hl 4 rfl) ?_
      refine lv_iconst (v := 1) hx hb dL_law_1595 (by decide) ?_
      refine lv_iadd hx hb dL_law_1596 ?_
      obtain ⟨g440, hF⟩ := gi_t hF
      refine va_sld hx hb hX hbl (Nat.not_le.mpr (by rw [hbb]; exact hbl)) hS g440 dL_law_1597 ?_
      refine lv_aload_n hx hb dL_law_1598 rfl (lv_at hl 0 rfl) ?_
      refine lv_iload hx hb dL_law_1599 (lv_at hl 4 rfl) ?_
      refine lv_iconst (v := 2) hx hb dL_law_1601 (by decide) ?_
      refine lv_iadd hx hb dL_law_1602 ?_
      obtain ⟨g441, hF⟩ := gi_t hF
      refine va_sld hx hb hX hbl (Nat.not_le.mpr (by rw [hbb]; exact hbl)) hS g441 dL_law_1603 ?_
      refine lv_i2l (v := ((xs ((v1 + (2 : Int32))).toNatClampNeg)).toInt64) hx hb dL_law_1604 rfl ?_
      refine lv_bipush (v := 32) hx hb dL_law_1605 (by decide) ?_
      refine lv_lshl (v := ((((xs ((v1 + (2 : Int32))).toNatClampNeg)).toInt64) <<< (((32 : Int32)).toInt64 &&& 63))) hx hb dL_law_1607 rfl ?_
      refine lv_aload_n hx hb dL_law_1608 rfl (lv_at hl 0 rfl) ?_
      refine lv_iload hx hb dL_law_1609 (lv_at hl 4 rfl) ?_
      refine lv_iconst (v := 3) hx hb dL_law_1611 (by decide) ?_
      refine lv_iadd hx hb dL_law_1612 ?_
      obtain ⟨g442, hF⟩ := gi_t hF
      refine va_sld hx hb hX hbl (Nat.not_le.mpr (by rw [hbb]; exact hbl)) hS g442 dL_law_1613 ?_
      refine lv_i2l (v := ((xs ((v1 + (3 : Int32))).toNatClampNeg)).toInt64) hx hb dL_law_1614 rfl ?_
      refine lv_ldc2 (v := 4294967295) hx hb hC.2.2.2.1 (hC.2.2.2.2.1 _ kcL_192) dL_law_1615 ?_
      refine lv_land hx hb dL_law_1618 ?_
      refine lv_lor hx hb dL_law_1619 ?_
      refine lv_aload_n hx hb dL_law_1620 rfl (lv_at hl 3 rfl) ?_
      obtain ⟨r443, C444, hc445, hF⟩ := b2_t hF
      refine call_SW hC (c_L_runScript l G n hn (by omega) hfl (xs ((v1 + (1 : Int32))).toNatClampNeg) (((((xs ((v1 + (2 : Int32))).toNatClampNeg)).toInt64) <<< (((32 : Int32)).toInt64 &&& 63)) ||| ((((xs ((v1 + (3 : Int32))).toNatClampNeg)).toInt64) &&& (4294967295 : Int64))) _ _ _ hc445) wwL_194 ⟨rfl, rfl, by decide, by decide⟩ hw hS hl.1 rfl (rest := []) rfl (Nat.le_of_ble_eq_true rfl) dL_law_1621 ⟨by omega, by omega⟩ (fun H locs hw hS => ?_)
      refine lv_istore (lv' := [(5, .int r443), (0, .ref b), (1, .ref (bb G + 0)), (2, .ref (bb G + 244)), (3, .ref (bb G + 252)), (4, .int v1)]) hx hb dL_law_1624 hl (by decide) rfl (fun ls hl => ?_)
      refine lv_aload_n hx hb dL_law_1626 rfl (lv_at hl 3 rfl) ?_
      refine lv_aload_n hx hb dL_law_1627 rfl (lv_at hl 1 rfl) ?_
      refine lv_iload hx hb dL_law_1628 (lv_at hl 5 rfl) ?_
      refine lv_iconst (v := 1) hx hb dL_law_1630 (by decide) ?_
      refine lv_iadd hx hb dL_law_1631 ?_
      obtain ⟨g446, hF⟩ := gi_t hF
      refine va_sld hx hb hX hbl (Nat.not_le.mpr (by rw [hbb]; exact hbl)) hS g446 dL_law_1632 ?_
      refine lv_aload_n hx hb dL_law_1633 rfl (lv_at hl 1 rfl) ?_
      refine lv_iload hx hb dL_law_1634 (lv_at hl 5 rfl) ?_
      refine lv_iconst (v := 2) hx hb dL_law_1636 (by decide) ?_
      refine lv_iadd hx hb dL_law_1637 ?_
      obtain ⟨g447, hF⟩ := gi_t hF
      refine va_sld hx hb hX hbl (Nat.not_le.mpr (by rw [hbb]; exact hbl)) hS g447 dL_law_1638 ?_
      refine lv_i2l (v := ((xs ((v1 + (2 : Int32))).toNatClampNeg)).toInt64) hx hb dL_law_1639 rfl ?_
      refine lv_bipush (v := 32) hx hb dL_law_1640 (by decide) ?_
      refine lv_lshl (v := ((((xs ((v1 + (2 : Int32))).toNatClampNeg)).toInt64) <<< (((32 : Int32)).toInt64 &&& 63))) hx hb dL_law_1642 rfl ?_
      refine lv_aload_n hx hb dL_law_1643 rfl (lv_at hl 1 rfl) ?_
      refine lv_iload hx hb dL_law_1644 (lv_at hl 5 rfl) ?_
      refine lv_iconst (v := 3) hx hb dL_law_1646 (by decide) ?_
      refine lv_iadd hx hb dL_law_1647 ?_
      obtain ⟨g448, hF⟩ := gi_t hF
      refine va_sld hx hb hX hbl (Nat.not_le.mpr (by rw [hbb]; exact hbl)) hS g448 dL_law_1648 ?_
      refine lv_i2l (v := ((xs ((v1 + (3 : Int32))).toNatClampNeg)).toInt64) hx hb dL_law_1649 rfl ?_
      refine lv_ldc2 (v := 4294967295) hx hb hC.2.2.2.1 (hC.2.2.2.2.1 _ kcL_192) dL_law_1650 ?_
      refine lv_land hx hb dL_law_1653 ?_
      refine lv_lor hx hb dL_law_1654 ?_
      obtain ⟨r449, C450, hc451, hF⟩ := b2_t hF
      refine call_Vi hC (c_X9_runScript l G n (by omega) hn2 (xs ((v1 + (1 : Int32))).toNatClampNeg) (((((xs ((v1 + (2 : Int32))).toNatClampNeg)).toInt64) <<< (((32 : Int32)).toInt64 &&& 63)) ||| ((((xs ((v1 + (3 : Int32))).toNatClampNeg)).toInt64) &&& (4294967295 : Int64))) _ _ _ hc451) wvL_197 ⟨rfl, rfl, by decide, by decide⟩ hw hS (by omega) ca_model rfl hl.1 rfl (rest := []) rfl (Nat.le_of_ble_eq_true rfl) dL_law_1655 ⟨by omega, by omega⟩ (fun H locs hw hS _ => ?_)
      refine lv_istore (lv' := [(6, .int r449), (5, .int r443), (0, .ref b), (1, .ref (bb G + 0)), (2, .ref (bb G + 244)), (3, .ref (bb G + 252)), (4, .int v1)]) hx hb dL_law_1658 hl (by decide) rfl (fun ls hl => ?_)
      refine lv_aload_n hx hb dL_law_1660 rfl (lv_at hl 4 rfl) ?_
      obtain ⟨r452, C453, hc454, hF⟩ := b2_t hF
      refine call_Vi hC (c_X9_thrown l G n (by omega) hn2  _ _ _ hc454) wvL_110 ⟨rfl, rfl, by decide, by decide⟩ hw hS (by omega) ca_model rfl hl.1 rfl (rest := []) rfl (Nat.le_of_ble_eq_true rfl) dL_law_1661 ⟨by omega, by omega⟩ (fun H locs hw hS _ => ?_)
      refine lv_iload hx hb dL_law_1664 (lv_at hl 1 rfl) ?_
      refine lv_icmp_eq (tgt := 1671) hx hb dL_law_1666 (by decide) (fun h455 => ?_) (fun h455 => ?_)
      · have hF := it_t h455 hF
        refine lv_iload hx hb dL_law_1671 (lv_at hl 1 rfl) ?_
        refine lv_if_ne (tgt := 1688) hx hb dL_law_1673 (by decide) (fun h456 => ?_) (fun h456 => ?_)
        · have hF := it_f h456 hF
          refine lv_goto (tgt := 1903) hx hb dL_law_1688 (by decide) ?_
          obtain ⟨v457, ev457, hF⟩ := nm_t hF
          refine lv_iinc (v := v457) (lv' := [(4, .int v457), (6, .int r449), (5, .int r443), (0, .ref b), (1, .ref (bb G + 0)), (2, .ref (bb G + 244)), (3, .ref (bb G + 252))]) hx hb dL_law_1903 hl (k := 6) rfl (by rw [ev457]; rfl) (by decide) rfl (fun ls hl => ?_)
          refine lv_goto (tgt := 23) hx hb dL_law_1906 (by decide) ?_
          refine W.widen (k := 4000 + 3 * (k + 1)) (n := 40000 + 18 * (k + 1)) (by omega) (by omega) ?_
          exact it_back hF hk (k + 1) _ _ _ (law_k1 ek ev457) (law_k2 hL hk0 ek h4) hw hS (lv_sub hl [3, 4, 5, 6, 0] rfl)
        · have hF := it_t h456 hF
          refine lv_aload_n hx hb dL_law_1676 rfl (lv_at hl 5 rfl) ?_
          refine lv_iconst (v := 0) hx hb dL_law_1677 (by decide) ?_
          refine ld_out hC hw (by omega) dL_law_1678 ?_
          refine lv_iload hx hb dL_law_1679 (lv_at hl 0 rfl) ?_
          refine lv_i2l (v := (r449).toInt64) hx hb dL_law_1681 rfl ?_
          refine W.lcmp hx hb dL_law_1682 ?_
          refine lv_if_eq (tgt := 1688) hx hb dL_law_1683 (by decide) (fun h458 => ?_) (fun h458 => ?_)
          · have hF := it_t h458 hF
            refine lv_goto (tgt := 1903) hx hb dL_law_1688 (by decide) ?_
            obtain ⟨v459, ev459, hF⟩ := nm_t hF
            refine lv_iinc (v := v459) (lv' := [(4, .int v459), (6, .int r449), (5, .int r443), (0, .ref b), (1, .ref (bb G + 0)), (2, .ref (bb G + 244)), (3, .ref (bb G + 252))]) hx hb dL_law_1903 hl (k := 6) rfl (by rw [ev459]; rfl) (by decide) rfl (fun ls hl => ?_)
            refine lv_goto (tgt := 23) hx hb dL_law_1906 (by decide) ?_
            refine W.widen (k := 4000 + 3 * (k + 1)) (n := 40000 + 18 * (k + 1)) (by omega) (by omega) ?_
            exact it_back hF hk (k + 1) _ _ _ (law_k1 ek ev459) (law_k2 hL hk0 ek h4) hw hS (lv_sub hl [3, 4, 5, 6, 0] rfl)
          · have hF := it_f h458 hF
            refine lv_iconst (v := 0) hx hb dL_law_1686 (by decide) ?_
            cases hF
      · have hF := it_f h455 hF
        refine lv_iconst (v := 0) hx hb dL_law_1669 (by decide) ?_
        cases hF
    have hF := it_f h32 hF
    by_cases h33 : v6 = (26 : Int32)
    · have hF := it_t h33 hF
      unfold K_L_26 at hF
      refine lv_tableIn (tgt := 1691) (off := 1652) hx hb dL_law_39 (by rw [h33]; decide) (by rw [h33]; decide) (by rw [h33]; rfl) (by decide) ?_
      refine lv_aload_n hx hb dL_law_1691 rfl (lv_at hl 1 rfl) ?_
      refine lv_aload_n hx hb dL_law_1692 rfl (lv_at hl 0 rfl) ?_
      refine lv_iload hx hb dL_law_1693 (lv_at hl 4 rfl) ?_
      refine lv_iconst (v := 1) hx hb dL_law_1695 (by decide) ?_
      refine lv_iadd hx hb dL_law_1696 ?_
      obtain ⟨g460, hF⟩ := gi_t hF
      refine va_sld hx hb hX hbl (Nat.not_le.mpr (by rw [hbb]; exact hbl)) hS g460 dL_law_1697 ?_
      refine lv_i2l (v := ((xs ((v1 + (1 : Int32))).toNatClampNeg)).toInt64) hx hb dL_law_1698 rfl ?_
      refine lv_bipush (v := 32) hx hb dL_law_1699 (by decide) ?_
      refine lv_lshl (v := ((((xs ((v1 + (1 : Int32))).toNatClampNeg)).toInt64) <<< (((32 : Int32)).toInt64 &&& 63))) hx hb dL_law_1701 rfl ?_
      refine lv_aload_n hx hb dL_law_1702 rfl (lv_at hl 0 rfl) ?_
      refine lv_iload hx hb dL_law_1703 (lv_at hl 4 rfl) ?_
      refine lv_iconst (v := 2) hx hb dL_law_1705 (by decide) ?_
      refine lv_iadd hx hb dL_law_1706 ?_
      obtain ⟨g461, hF⟩ := gi_t hF
      refine va_sld hx hb hX hbl (Nat.not_le.mpr (by rw [hbb]; exact hbl)) hS g461 dL_law_1707 ?_
      refine lv_i2l (v := ((xs ((v1 + (2 : Int32))).toNatClampNeg)).toInt64) hx hb dL_law_1708 rfl ?_
      refine lv_ldc2 (v := 4294967295) hx hb hC.2.2.2.1 (hC.2.2.2.2.1 _ kcL_192) dL_law_1709 ?_
      refine lv_land hx hb dL_law_1712 ?_
      refine lv_lor hx hb dL_law_1713 ?_
      refine lv_aload_n hx hb dL_law_1714 rfl (lv_at hl 0 rfl) ?_
      refine lv_iload hx hb dL_law_1715 (lv_at hl 4 rfl) ?_
      refine lv_iconst (v := 3) hx hb dL_law_1717 (by decide) ?_
      refine lv_iadd hx hb dL_law_1718 ?_
      obtain ⟨g462, hF⟩ := gi_t hF
      refine va_sld hx hb hX hbl (Nat.not_le.mpr (by rw [hbb]; exact hbl)) hS g462 dL_law_1719 ?_
      refine lv_aload_n hx hb dL_law_1720 rfl (lv_at hl 3 rfl) ?_
      obtain ⟨r463, C464, hc465, hF⟩ := b2_t hF
      refine call_SW hC (c_L_simulate l G n hn (by omega) hfl (((((xs ((v1 + (1 : Int32))).toNatClampNeg)).toInt64) <<< (((32 : Int32)).toInt64 &&& 63)) ||| ((((xs ((v1 + (2 : Int32))).toNatClampNeg)).toInt64) &&& (4294967295 : Int64))) (xs ((v1 + (3 : Int32))).toNatClampNeg) _ _ _ hc465) wwL_198 ⟨rfl, rfl, by decide, by decide⟩ hw hS hl.1 rfl (rest := []) rfl (Nat.le_of_ble_eq_true rfl) dL_law_1721 ⟨by omega, by omega⟩ (fun H locs hw hS => ?_)
      refine lv_istore (lv' := [(5, .int r463), (0, .ref b), (1, .ref (bb G + 0)), (2, .ref (bb G + 244)), (3, .ref (bb G + 252)), (4, .int v1)]) hx hb dL_law_1724 hl (by decide) rfl (fun ls hl => ?_)
      refine lv_aload_n hx hb dL_law_1726 rfl (lv_at hl 3 rfl) ?_
      refine lv_aload_n hx hb dL_law_1727 rfl (lv_at hl 1 rfl) ?_
      refine lv_iload hx hb dL_law_1728 (lv_at hl 5 rfl) ?_
      refine lv_iconst (v := 1) hx hb dL_law_1730 (by decide) ?_
      refine lv_iadd hx hb dL_law_1731 ?_
      obtain ⟨g466, hF⟩ := gi_t hF
      refine va_sld hx hb hX hbl (Nat.not_le.mpr (by rw [hbb]; exact hbl)) hS g466 dL_law_1732 ?_
      refine lv_i2l (v := ((xs ((v1 + (1 : Int32))).toNatClampNeg)).toInt64) hx hb dL_law_1733 rfl ?_
      refine lv_bipush (v := 32) hx hb dL_law_1734 (by decide) ?_
      refine lv_lshl (v := ((((xs ((v1 + (1 : Int32))).toNatClampNeg)).toInt64) <<< (((32 : Int32)).toInt64 &&& 63))) hx hb dL_law_1736 rfl ?_
      refine lv_aload_n hx hb dL_law_1737 rfl (lv_at hl 1 rfl) ?_
      refine lv_iload hx hb dL_law_1738 (lv_at hl 5 rfl) ?_
      refine lv_iconst (v := 2) hx hb dL_law_1740 (by decide) ?_
      refine lv_iadd hx hb dL_law_1741 ?_
      obtain ⟨g467, hF⟩ := gi_t hF
      refine va_sld hx hb hX hbl (Nat.not_le.mpr (by rw [hbb]; exact hbl)) hS g467 dL_law_1742 ?_
      refine lv_i2l (v := ((xs ((v1 + (2 : Int32))).toNatClampNeg)).toInt64) hx hb dL_law_1743 rfl ?_
      refine lv_ldc2 (v := 4294967295) hx hb hC.2.2.2.1 (hC.2.2.2.2.1 _ kcL_192) dL_law_1744 ?_
      refine lv_land hx hb dL_law_1747 ?_
      refine lv_lor hx hb dL_law_1748 ?_
      refine lv_aload_n hx hb dL_law_1749 rfl (lv_at hl 1 rfl) ?_
      refine lv_iload hx hb dL_law_1750 (lv_at hl 5 rfl) ?_
      refine lv_iconst (v := 3) hx hb dL_law_1752 (by decide) ?_
      refine lv_iadd hx hb dL_law_1753 ?_
      obtain ⟨g468, hF⟩ := gi_t hF
      refine va_sld hx hb hX hbl (Nat.not_le.mpr (by rw [hbb]; exact hbl)) hS g468 dL_law_1754 ?_
      obtain ⟨r469, C470, hc471, hF⟩ := b2_t hF
      refine call_Vi hC (c_X9_simulate l G n (by omega) hn2 (((((xs ((v1 + (1 : Int32))).toNatClampNeg)).toInt64) <<< (((32 : Int32)).toInt64 &&& 63)) ||| ((((xs ((v1 + (2 : Int32))).toNatClampNeg)).toInt64) &&& (4294967295 : Int64))) (xs ((v1 + (3 : Int32))).toNatClampNeg) _ _ _ hc471) wvL_201 ⟨rfl, rfl, by decide, by decide⟩ hw hS (by omega) ca_model rfl hl.1 rfl (rest := []) rfl (Nat.le_of_ble_eq_true rfl) dL_law_1755 ⟨by omega, by omega⟩ (fun H locs hw hS _ => ?_)
      refine lv_istore (lv' := [(6, .int r469), (5, .int r463), (0, .ref b), (1, .ref (bb G + 0)), (2, .ref (bb G + 244)), (3, .ref (bb G + 252)), (4, .int v1)]) hx hb dL_law_1758 hl (by decide) rfl (fun ls hl => ?_)
      refine lv_aload_n hx hb dL_law_1760 rfl (lv_at hl 4 rfl) ?_
      obtain ⟨r472, C473, hc474, hF⟩ := b2_t hF
      refine call_Vi hC (c_X9_thrown l G n (by omega) hn2  _ _ _ hc474) wvL_110 ⟨rfl, rfl, by decide, by decide⟩ hw hS (by omega) ca_model rfl hl.1 rfl (rest := []) rfl (Nat.le_of_ble_eq_true rfl) dL_law_1761 ⟨by omega, by omega⟩ (fun H locs hw hS _ => ?_)
      refine lv_iload hx hb dL_law_1764 (lv_at hl 1 rfl) ?_
      refine lv_icmp_eq (tgt := 1771) hx hb dL_law_1766 (by decide) (fun h475 => ?_) (fun h475 => ?_)
      · have hF := it_t h475 hF
        refine lv_iload hx hb dL_law_1771 (lv_at hl 1 rfl) ?_
        refine lv_if_ne (tgt := 1788) hx hb dL_law_1773 (by decide) (fun h476 => ?_) (fun h476 => ?_)
        · have hF := it_f h476 hF
          refine lv_goto (tgt := 1903) hx hb dL_law_1788 (by decide) ?_
          obtain ⟨v477, ev477, hF⟩ := nm_t hF
          refine lv_iinc (v := v477) (lv' := [(4, .int v477), (6, .int r469), (5, .int r463), (0, .ref b), (1, .ref (bb G + 0)), (2, .ref (bb G + 244)), (3, .ref (bb G + 252))]) hx hb dL_law_1903 hl (k := 6) rfl (by rw [ev477]; rfl) (by decide) rfl (fun ls hl => ?_)
          refine lv_goto (tgt := 23) hx hb dL_law_1906 (by decide) ?_
          refine W.widen (k := 4000 + 3 * (k + 1)) (n := 40000 + 18 * (k + 1)) (by omega) (by omega) ?_
          exact it_back hF hk (k + 1) _ _ _ (law_k1 ek ev477) (law_k2 hL hk0 ek h4) hw hS (lv_sub hl [3, 4, 5, 6, 0] rfl)
        · have hF := it_t h476 hF
          refine lv_aload_n hx hb dL_law_1776 rfl (lv_at hl 5 rfl) ?_
          refine lv_iconst (v := 0) hx hb dL_law_1777 (by decide) ?_
          refine ld_out hC hw (by omega) dL_law_1778 ?_
          refine lv_iload hx hb dL_law_1779 (lv_at hl 0 rfl) ?_
          refine lv_i2l (v := (r469).toInt64) hx hb dL_law_1781 rfl ?_
          refine W.lcmp hx hb dL_law_1782 ?_
          refine lv_if_eq (tgt := 1788) hx hb dL_law_1783 (by decide) (fun h478 => ?_) (fun h478 => ?_)
          · have hF := it_t h478 hF
            refine lv_goto (tgt := 1903) hx hb dL_law_1788 (by decide) ?_
            obtain ⟨v479, ev479, hF⟩ := nm_t hF
            refine lv_iinc (v := v479) (lv' := [(4, .int v479), (6, .int r469), (5, .int r463), (0, .ref b), (1, .ref (bb G + 0)), (2, .ref (bb G + 244)), (3, .ref (bb G + 252))]) hx hb dL_law_1903 hl (k := 6) rfl (by rw [ev479]; rfl) (by decide) rfl (fun ls hl => ?_)
            refine lv_goto (tgt := 23) hx hb dL_law_1906 (by decide) ?_
            refine W.widen (k := 4000 + 3 * (k + 1)) (n := 40000 + 18 * (k + 1)) (by omega) (by omega) ?_
            exact it_back hF hk (k + 1) _ _ _ (law_k1 ek ev479) (law_k2 hL hk0 ek h4) hw hS (lv_sub hl [3, 4, 5, 6, 0] rfl)
          · have hF := it_f h478 hF
            refine lv_iconst (v := 0) hx hb dL_law_1786 (by decide) ?_
            cases hF
      · have hF := it_f h475 hF
        refine lv_iconst (v := 0) hx hb dL_law_1769 (by decide) ?_
        cases hF
    have hF := it_f h33 hF
    by_cases h34 : v6 = (27 : Int32)
    · have hF := it_t h34 hF
      unfold K_L_27 at hF
      refine lv_tableIn (tgt := 1791) (off := 1752) hx hb dL_law_39 (by rw [h34]; decide) (by rw [h34]; decide) (by rw [h34]; rfl) (by decide) ?_
      refine lv_aload_n hx hb dL_law_1791 rfl (lv_at hl 1 rfl) ?_
      refine lv_aload_n hx hb dL_law_1792 rfl (lv_at hl 0 rfl) ?_
      refine lv_iload hx hb dL_law_1793 (lv_at hl 4 rfl) ?_
      refine lv_iconst (v := 1) hx hb dL_law_1795 (by decide) ?_
      refine lv_iadd hx hb dL_law_1796 ?_
      obtain ⟨g480, hF⟩ := gi_t hF
      refine va_sld hx hb hX hbl (Nat.not_le.mpr (by rw [hbb]; exact hbl)) hS g480 dL_law_1797 ?_
      refine lv_aload_n hx hb dL_law_1798 rfl (lv_at hl 3 rfl) ?_
      obtain ⟨r481, C482, hc483, hF⟩ := b2_t hF
      refine call_SW hC (c_L_save l G n hn (by omega) hfl (xs ((v1 + (1 : Int32))).toNatClampNeg) _ _ _ hc483) wwL_202 ⟨rfl, rfl, by decide, by decide⟩ hw hS hl.1 rfl (rest := []) rfl (Nat.le_of_ble_eq_true rfl) dL_law_1799 ⟨by omega, by omega⟩ (fun H locs hw hS => ?_)
      refine lv_istore (lv' := [(5, .int r481), (0, .ref b), (1, .ref (bb G + 0)), (2, .ref (bb G + 244)), (3, .ref (bb G + 252)), (4, .int v1)]) hx hb dL_law_1802 hl (by decide) rfl (fun ls hl => ?_)
      refine lv_aload_n hx hb dL_law_1804 rfl (lv_at hl 3 rfl) ?_
      refine lv_aload_n hx hb dL_law_1805 rfl (lv_at hl 1 rfl) ?_
      refine lv_iload hx hb dL_law_1806 (lv_at hl 5 rfl) ?_
      refine lv_iconst (v := 1) hx hb dL_law_1808 (by decide) ?_
      refine lv_iadd hx hb dL_law_1809 ?_
      obtain ⟨g484, hF⟩ := gi_t hF
      refine va_sld hx hb hX hbl (Nat.not_le.mpr (by rw [hbb]; exact hbl)) hS g484 dL_law_1810 ?_
      obtain ⟨r485, C486, hc487, hF⟩ := b2_t hF
      refine call_Vi hC (c_X9_save l G n (by omega) hn2 (xs ((v1 + (1 : Int32))).toNatClampNeg) _ _ _ hc487) wvL_204 ⟨rfl, rfl, by decide, by decide⟩ hw hS (by omega) ca_model rfl hl.1 rfl (rest := []) rfl (Nat.le_of_ble_eq_true rfl) dL_law_1811 ⟨by omega, by omega⟩ (fun H locs hw hS _ => ?_)
      refine lv_istore (lv' := [(6, .int r485), (5, .int r481), (0, .ref b), (1, .ref (bb G + 0)), (2, .ref (bb G + 244)), (3, .ref (bb G + 252)), (4, .int v1)]) hx hb dL_law_1814 hl (by decide) rfl (fun ls hl => ?_)
      refine lv_aload_n hx hb dL_law_1816 rfl (lv_at hl 4 rfl) ?_
      obtain ⟨r488, C489, hc490, hF⟩ := b2_t hF
      refine call_Vi hC (c_X9_thrown l G n (by omega) hn2  _ _ _ hc490) wvL_110 ⟨rfl, rfl, by decide, by decide⟩ hw hS (by omega) ca_model rfl hl.1 rfl (rest := []) rfl (Nat.le_of_ble_eq_true rfl) dL_law_1817 ⟨by omega, by omega⟩ (fun H locs hw hS _ => ?_)
      refine lv_iload hx hb dL_law_1820 (lv_at hl 1 rfl) ?_
      refine lv_icmp_eq (tgt := 1827) hx hb dL_law_1822 (by decide) (fun h491 => ?_) (fun h491 => ?_)
      · have hF := it_t h491 hF
        refine lv_iload hx hb dL_law_1827 (lv_at hl 1 rfl) ?_
        refine lv_if_ne (tgt := 1844) hx hb dL_law_1829 (by decide) (fun h492 => ?_) (fun h492 => ?_)
        · have hF := it_f h492 hF
          refine lv_goto (tgt := 1903) hx hb dL_law_1844 (by decide) ?_
          obtain ⟨v493, ev493, hF⟩ := nm_t hF
          refine lv_iinc (v := v493) (lv' := [(4, .int v493), (6, .int r485), (5, .int r481), (0, .ref b), (1, .ref (bb G + 0)), (2, .ref (bb G + 244)), (3, .ref (bb G + 252))]) hx hb dL_law_1903 hl (k := 6) rfl (by rw [ev493]; rfl) (by decide) rfl (fun ls hl => ?_)
          refine lv_goto (tgt := 23) hx hb dL_law_1906 (by decide) ?_
          refine W.widen (k := 4000 + 3 * (k + 1)) (n := 40000 + 18 * (k + 1)) (by omega) (by omega) ?_
          exact it_back hF hk (k + 1) _ _ _ (law_k1 ek ev493) (law_k2 hL hk0 ek h4) hw hS (lv_sub hl [3, 4, 5, 6, 0] rfl)
        · have hF := it_t h492 hF
          refine lv_aload_n hx hb dL_law_1832 rfl (lv_at hl 5 rfl) ?_
          refine lv_iconst (v := 0) hx hb dL_law_1833 (by decide) ?_
          refine ld_out hC hw (by omega) dL_law_1834 ?_
          refine lv_iload hx hb dL_law_1835 (lv_at hl 0 rfl) ?_
          refine lv_i2l (v := (r485).toInt64) hx hb dL_law_1837 rfl ?_
          refine W.lcmp hx hb dL_law_1838 ?_
          refine lv_if_eq (tgt := 1844) hx hb dL_law_1839 (by decide) (fun h494 => ?_) (fun h494 => ?_)
          · have hF := it_t h494 hF
            refine lv_goto (tgt := 1903) hx hb dL_law_1844 (by decide) ?_
            obtain ⟨v495, ev495, hF⟩ := nm_t hF
            refine lv_iinc (v := v495) (lv' := [(4, .int v495), (6, .int r485), (5, .int r481), (0, .ref b), (1, .ref (bb G + 0)), (2, .ref (bb G + 244)), (3, .ref (bb G + 252))]) hx hb dL_law_1903 hl (k := 6) rfl (by rw [ev495]; rfl) (by decide) rfl (fun ls hl => ?_)
            refine lv_goto (tgt := 23) hx hb dL_law_1906 (by decide) ?_
            refine W.widen (k := 4000 + 3 * (k + 1)) (n := 40000 + 18 * (k + 1)) (by omega) (by omega) ?_
            exact it_back hF hk (k + 1) _ _ _ (law_k1 ek ev495) (law_k2 hL hk0 ek h4) hw hS (lv_sub hl [3, 4, 5, 6, 0] rfl)
          · have hF := it_f h494 hF
            refine lv_iconst (v := 0) hx hb dL_law_1842 (by decide) ?_
            cases hF
      · have hF := it_f h491 hF
        refine lv_iconst (v := 0) hx hb dL_law_1825 (by decide) ?_
        cases hF
    have hF := it_f h34 hF
    by_cases h35 : v6 = (28 : Int32)
    · have hF := it_t h35 hF
      unfold K_L_28 at hF
      refine lv_tableIn (tgt := 1847) (off := 1808) hx hb dL_law_39 (by rw [h35]; decide) (by rw [h35]; decide) (by rw [h35]; rfl) (by decide) ?_
      refine lv_aload_n hx hb dL_law_1847 rfl (lv_at hl 1 rfl) ?_
      refine lv_aload_n hx hb dL_law_1848 rfl (lv_at hl 0 rfl) ?_
      refine lv_iload hx hb dL_law_1849 (lv_at hl 4 rfl) ?_
      refine lv_iconst (v := 1) hx hb dL_law_1851 (by decide) ?_
      refine lv_iadd hx hb dL_law_1852 ?_
      obtain ⟨g496, hF⟩ := gi_t hF
      refine va_sld hx hb hX hbl (Nat.not_le.mpr (by rw [hbb]; exact hbl)) hS g496 dL_law_1853 ?_
      refine lv_aload_n hx hb dL_law_1854 rfl (lv_at hl 3 rfl) ?_
      obtain ⟨r497, C498, hc499, hF⟩ := b2_t hF
      refine call_SW hC (c_L_restore l G n hn (by omega) hfl (xs ((v1 + (1 : Int32))).toNatClampNeg) _ _ _ hc499) wwL_205 ⟨rfl, rfl, by decide, by decide⟩ hw hS hl.1 rfl (rest := []) rfl (Nat.le_of_ble_eq_true rfl) dL_law_1855 ⟨by omega, by omega⟩ (fun H locs hw hS => ?_)
      refine lv_istore (lv' := [(5, .int r497), (0, .ref b), (1, .ref (bb G + 0)), (2, .ref (bb G + 244)), (3, .ref (bb G + 252)), (4, .int v1)]) hx hb dL_law_1858 hl (by decide) rfl (fun ls hl => ?_)
      refine lv_aload_n hx hb dL_law_1860 rfl (lv_at hl 3 rfl) ?_
      refine lv_aload_n hx hb dL_law_1861 rfl (lv_at hl 1 rfl) ?_
      refine lv_iload hx hb dL_law_1862 (lv_at hl 5 rfl) ?_
      refine lv_iconst (v := 1) hx hb dL_law_1864 (by decide) ?_
      refine lv_iadd hx hb dL_law_1865 ?_
      obtain ⟨g500, hF⟩ := gi_t hF
      refine va_sld hx hb hX hbl (Nat.not_le.mpr (by rw [hbb]; exact hbl)) hS g500 dL_law_1866 ?_
      obtain ⟨r501, C502, hc503, hF⟩ := b2_t hF
      refine call_Vi hC (c_X9_restore l G n (by omega) hn2 (xs ((v1 + (1 : Int32))).toNatClampNeg) _ _ _ hc503) wvL_207 ⟨rfl, rfl, by decide, by decide⟩ hw hS (by omega) ca_model rfl hl.1 rfl (rest := []) rfl (Nat.le_of_ble_eq_true rfl) dL_law_1867 ⟨by omega, by omega⟩ (fun H locs hw hS _ => ?_)
      refine lv_istore (lv' := [(6, .int r501), (5, .int r497), (0, .ref b), (1, .ref (bb G + 0)), (2, .ref (bb G + 244)), (3, .ref (bb G + 252)), (4, .int v1)]) hx hb dL_law_1870 hl (by decide) rfl (fun ls hl => ?_)
      refine lv_aload_n hx hb dL_law_1872 rfl (lv_at hl 4 rfl) ?_
      obtain ⟨r504, C505, hc506, hF⟩ := b2_t hF
      refine call_Vi hC (c_X9_thrown l G n (by omega) hn2  _ _ _ hc506) wvL_110 ⟨rfl, rfl, by decide, by decide⟩ hw hS (by omega) ca_model rfl hl.1 rfl (rest := []) rfl (Nat.le_of_ble_eq_true rfl) dL_law_1873 ⟨by omega, by omega⟩ (fun H locs hw hS _ => ?_)
      refine lv_iload hx hb dL_law_1876 (lv_at hl 1 rfl) ?_
      refine lv_icmp_eq (tgt := 1883) hx hb dL_law_1878 (by decide) (fun h507 => ?_) (fun h507 => ?_)
      · have hF := it_t h507 hF
        refine lv_iload hx hb dL_law_1883 (lv_at hl 1 rfl) ?_
        refine lv_if_ne (tgt := 1900) hx hb dL_law_1885 (by decide) (fun h508 => ?_) (fun h508 => ?_)
        · have hF := it_f h508 hF
          refine lv_goto (tgt := 1903) hx hb dL_law_1900 (by decide) ?_
          obtain ⟨v509, ev509, hF⟩ := nm_t hF
          refine lv_iinc (v := v509) (lv' := [(4, .int v509), (6, .int r501), (5, .int r497), (0, .ref b), (1, .ref (bb G + 0)), (2, .ref (bb G + 244)), (3, .ref (bb G + 252))]) hx hb dL_law_1903 hl (k := 6) rfl (by rw [ev509]; rfl) (by decide) rfl (fun ls hl => ?_)
          refine lv_goto (tgt := 23) hx hb dL_law_1906 (by decide) ?_
          refine W.widen (k := 4000 + 3 * (k + 1)) (n := 40000 + 18 * (k + 1)) (by omega) (by omega) ?_
          exact it_back hF hk (k + 1) _ _ _ (law_k1 ek ev509) (law_k2 hL hk0 ek h4) hw hS (lv_sub hl [3, 4, 5, 6, 0] rfl)
        · have hF := it_t h508 hF
          refine lv_aload_n hx hb dL_law_1888 rfl (lv_at hl 5 rfl) ?_
          refine lv_iconst (v := 0) hx hb dL_law_1889 (by decide) ?_
          refine ld_out hC hw (by omega) dL_law_1890 ?_
          refine lv_iload hx hb dL_law_1891 (lv_at hl 0 rfl) ?_
          refine lv_i2l (v := (r501).toInt64) hx hb dL_law_1893 rfl ?_
          refine W.lcmp hx hb dL_law_1894 ?_
          refine lv_if_eq (tgt := 1900) hx hb dL_law_1895 (by decide) (fun h510 => ?_) (fun h510 => ?_)
          · have hF := it_t h510 hF
            refine lv_goto (tgt := 1903) hx hb dL_law_1900 (by decide) ?_
            obtain ⟨v511, ev511, hF⟩ := nm_t hF
            refine lv_iinc (v := v511) (lv' := [(4, .int v511), (6, .int r501), (5, .int r497), (0, .ref b), (1, .ref (bb G + 0)), (2, .ref (bb G + 244)), (3, .ref (bb G + 252))]) hx hb dL_law_1903 hl (k := 6) rfl (by rw [ev511]; rfl) (by decide) rfl (fun ls hl => ?_)
            refine lv_goto (tgt := 23) hx hb dL_law_1906 (by decide) ?_
            refine W.widen (k := 4000 + 3 * (k + 1)) (n := 40000 + 18 * (k + 1)) (by omega) (by omega) ?_
            exact it_back hF hk (k + 1) _ _ _ (law_k1 ek ev511) (law_k2 hL hk0 ek h4) hw hS (lv_sub hl [3, 4, 5, 6, 0] rfl)
          · have hF := it_f h510 hF
            refine lv_iconst (v := 0) hx hb dL_law_1898 (by decide) ?_
            cases hF
      · have hF := it_f h507 hF
        refine lv_iconst (v := 0) hx hb dL_law_1881 (by decide) ?_
        cases hF
    have hF := it_f h35 hF
    refine lv_tableOut (tgt := 1903) hx hb dL_law_39 (sw_out (fun k ka kb kc => by (have kd : k = 0 ∨ k = 1 ∨ k = 2 ∨ k = 3 ∨ k = 4 ∨ k = 5 ∨ k = 6 ∨ k = 7 ∨ k = 8 ∨ k = 9 ∨ k = 10 ∨ k = 11 ∨ k = 12 ∨ k = 13 ∨ k = 14 ∨ k = 15 ∨ k = 16 ∨ k = 17 ∨ k = 18 ∨ k = 19 ∨ k = 20 ∨ k = 21 ∨ k = 22 ∨ k = 23 ∨ k = 24 ∨ k = 25 ∨ k = 26 ∨ k = 27 ∨ k = 28 := by omega); exact kd.elim (fun kd => by subst kd; exact lv_neT h7 (by decide) kc) (fun kd => kd.elim (fun kd => by subst kd; exact lv_neT h8 (by decide) kc) (fun kd => kd.elim (fun kd => by subst kd; exact lv_neT h9 (by decide) kc) (fun kd => kd.elim (fun kd => by subst kd; exact lv_neT h10 (by decide) kc) (fun kd => kd.elim (fun kd => by subst kd; exact lv_neT h11 (by decide) kc) (fun kd => kd.elim (fun kd => by subst kd; exact lv_neT h12 (by decide) kc) (fun kd => kd.elim (fun kd => by subst kd; exact lv_neT h13 (by decide) kc) (fun kd => kd.elim (fun kd => by subst kd; exact lv_neT h14 (by decide) kc) (fun kd => kd.elim (fun kd => by subst kd; exact lv_neT h15 (by decide) kc) (fun kd => kd.elim (fun kd => by subst kd; exact lv_neT h16 (by decide) kc) (fun kd => kd.elim (fun kd => by subst kd; exact lv_neT h17 (by decide) kc) (fun kd => kd.elim (fun kd => by subst kd; exact lv_neT h18 (by decide) kc) (fun kd => kd.elim (fun kd => by subst kd; exact lv_neT h19 (by decide) kc) (fun kd => kd.elim (fun kd => by subst kd; exact lv_neT h20 (by decide) kc) (fun kd => kd.elim (fun kd => by subst kd; exact lv_neT h21 (by decide) kc) (fun kd => kd.elim (fun kd => by subst kd; exact lv_neT h22 (by decide) kc) (fun kd => kd.elim (fun kd => by subst kd; exact lv_neT h23 (by decide) kc) (fun kd => kd.elim (fun kd => by subst kd; exact lv_neT h24 (by decide) kc) (fun kd => kd.elim (fun kd => by subst kd; exact lv_neT h25 (by decide) kc) (fun kd => kd.elim (fun kd => by subst kd; exact lv_neT h26 (by decide) kc) (fun kd => kd.elim (fun kd => by subst kd; exact lv_neT h27 (by decide) kc) (fun kd => kd.elim (fun kd => by subst kd; exact lv_neT h28 (by decide) kc) (fun kd => kd.elim (fun kd => by subst kd; exact lv_neT h29 (by decide) kc) (fun kd => kd.elim (fun kd => by subst kd; exact lv_neT h30 (by decide) kc) (fun kd => kd.elim (fun kd => by subst kd; exact lv_neT h31 (by decide) kc) (fun kd => kd.elim (fun kd => by subst kd; exact lv_neT h32 (by decide) kc) (fun kd => kd.elim (fun kd => by subst kd; exact lv_neT h33 (by decide) kc) (fun kd => kd.elim (fun kd => by subst kd; exact lv_neT h34 (by decide) kc) (fun kd => (by subst kd; exact lv_neT h35 (by decide) kc))))))))))))))))))))))))))))))) (by decide) ?_
    obtain ⟨v512, ev512, hF⟩ := nm_t hF
    refine lv_iinc (v := v512) (lv' := [(4, .int v512), (0, .ref b), (1, .ref (bb G + 0)), (2, .ref (bb G + 244)), (3, .ref (bb G + 252))]) hx hb dL_law_1903 hl (k := 4) rfl (by rw [ev512]; rfl) (by decide) rfl (fun ls hl => ?_)
    refine lv_goto (tgt := 23) hx hb dL_law_1906 (by decide) ?_
    refine W.widen (k := 4000 + 3 * (k + 1)) (n := 40000 + 18 * (k + 1)) (by omega) (by omega) ?_
    exact it_back hF hk (k + 1) _ _ _ (law_k1 ek ev512) (law_k2 hL hk0 ek h4) hw hS (lv_sub hl [1, 2, 3, 4, 0] rfl)
