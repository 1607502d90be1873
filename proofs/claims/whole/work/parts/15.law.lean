/-! the methods of the law that call and catch, by program out of the bytecode -/
theorem wvL_7 : WV RL 7 yX8_append cX8_append 2 (some .int) 1 := ⟨(lg 440 (by decide +kernel) rfl), (lg 441 (by decide +kernel) rfl), (lg 442 (by decide +kernel) rfl), (lg 44 (by decide +kernel) rfl), (lg 443 (by decide +kernel) rfl), ⟨by decide +kernel, by decide +kernel⟩, by decide +kernel⟩
theorem wvL_17 : WV RL 17 yX8_load cX8_load 1 (some .int) 0 := ⟨(lg 538 (by decide +kernel) rfl), (lg 539 (by decide +kernel) rfl), (lg 540 (by decide +kernel) rfl), (lg 44 (by decide +kernel) rfl), (lg 541 (by decide +kernel) rfl), ⟨by decide +kernel, by decide +kernel⟩, by decide +kernel⟩
theorem wvL_21 : WV RL 21 yX8_about cX8_about 2 (some .int) 1 := ⟨(lg 550 (by decide +kernel) rfl), (lg 551 (by decide +kernel) rfl), (lg 552 (by decide +kernel) rfl), (lg 44 (by decide +kernel) rfl), (lg 553 (by decide +kernel) rfl), ⟨by decide +kernel, by decide +kernel⟩, by decide +kernel⟩
theorem wvL_24 : WV RL 24 yX8_boiler cX8_boiler 4 (some .int) 2 := ⟨(lg 566 (by decide +kernel) rfl), (lg 567 (by decide +kernel) rfl), (lg 568 (by decide +kernel) rfl), (lg 44 (by decide +kernel) rfl), (lg 569 (by decide +kernel) rfl), ⟨by decide +kernel, by decide +kernel⟩, by decide +kernel⟩
theorem wvL_30 : WV RL 30 yX8_flue cX8_flue 4 (some .int) 2 := ⟨(lg 598 (by decide +kernel) rfl), (lg 599 (by decide +kernel) rfl), (lg 600 (by decide +kernel) rfl), (lg 44 (by decide +kernel) rfl), (lg 601 (by decide +kernel) rfl), ⟨by decide +kernel, by decide +kernel⟩, by decide +kernel⟩
theorem wvL_33 : WV RL 33 yX8_layer cX8_layer 2 (some .int) 1 := ⟨(lg 615 (by decide +kernel) rfl), (lg 616 (by decide +kernel) rfl), (lg 617 (by decide +kernel) rfl), (lg 44 (by decide +kernel) rfl), (lg 618 (by decide +kernel) rfl), ⟨by decide +kernel, by decide +kernel⟩, by decide +kernel⟩
theorem wvL_36 : WV RL 36 yX8_account cX8_account 2 (some .int) 1 := ⟨(lg 623 (by decide +kernel) rfl), (lg 624 (by decide +kernel) rfl), (lg 625 (by decide +kernel) rfl), (lg 44 (by decide +kernel) rfl), (lg 626 (by decide +kernel) rfl), ⟨by decide +kernel, by decide +kernel⟩, by decide +kernel⟩
theorem wvL_39 : WV RL 39 yX8_tick cX8_tick 3 (some .int) 2 := ⟨(lg 634 (by decide +kernel) rfl), (lg 635 (by decide +kernel) rfl), (lg 636 (by decide +kernel) rfl), (lg 44 (by decide +kernel) rfl), (lg 637 (by decide +kernel) rfl), ⟨by decide +kernel, by decide +kernel⟩, by decide +kernel⟩
theorem wvL_42 : WV RL 42 yX8_draw cX8_draw 2 (some .int) 1 := ⟨(lg 730 (by decide +kernel) rfl), (lg 731 (by decide +kernel) rfl), (lg 732 (by decide +kernel) rfl), (lg 44 (by decide +kernel) rfl), (lg 733 (by decide +kernel) rfl), ⟨by decide +kernel, by decide +kernel⟩, by decide +kernel⟩
theorem wvL_45 : WV RL 45 yX8_set cX8_set 4 (some .int) 2 := ⟨(lg 738 (by decide +kernel) rfl), (lg 739 (by decide +kernel) rfl), (lg 740 (by decide +kernel) rfl), (lg 44 (by decide +kernel) rfl), (lg 741 (by decide +kernel) rfl), ⟨by decide +kernel, by decide +kernel⟩, by decide +kernel⟩
theorem wvL_48 : WV RL 48 yX8_setFlue cX8_setFlue 3 (some .int) 2 := ⟨(lg 753 (by decide +kernel) rfl), (lg 754 (by decide +kernel) rfl), (lg 755 (by decide +kernel) rfl), (lg 44 (by decide +kernel) rfl), (lg 756 (by decide +kernel) rfl), ⟨by decide +kernel, by decide +kernel⟩, by decide +kernel⟩
theorem wvL_52 : WV RL 52 yX8_setDraft cX8_setDraft 5 (some .int) 2 := ⟨(lg 764 (by decide +kernel) rfl), (lg 765 (by decide +kernel) rfl), (lg 766 (by decide +kernel) rfl), (lg 44 (by decide +kernel) rfl), (lg 767 (by decide +kernel) rfl), ⟨by decide +kernel, by decide +kernel⟩, by decide +kernel⟩
theorem wvL_55 : WV RL 55 yX8_lock cX8_lock 3 (some .int) 1 := ⟨(lg 771 (by decide +kernel) rfl), (lg 772 (by decide +kernel) rfl), (lg 773 (by decide +kernel) rfl), (lg 44 (by decide +kernel) rfl), (lg 774 (by decide +kernel) rfl), ⟨by decide +kernel, by decide +kernel⟩, by decide +kernel⟩
theorem wvL_58 : WV RL 58 yX8_unlock cX8_unlock 2 (some .int) 1 := ⟨(lg 780 (by decide +kernel) rfl), (lg 781 (by decide +kernel) rfl), (lg 782 (by decide +kernel) rfl), (lg 44 (by decide +kernel) rfl), (lg 783 (by decide +kernel) rfl), ⟨by decide +kernel, by decide +kernel⟩, by decide +kernel⟩
theorem wvL_61 : WV RL 61 yX8_putOff cX8_putOff 2 (some .int) 1 := ⟨(lg 788 (by decide +kernel) rfl), (lg 789 (by decide +kernel) rfl), (lg 790 (by decide +kernel) rfl), (lg 44 (by decide +kernel) rfl), (lg 791 (by decide +kernel) rfl), ⟨by decide +kernel, by decide +kernel⟩, by decide +kernel⟩
theorem wvL_64 : WV RL 64 yX8_undo cX8_undo 1 (some .int) 0 := ⟨(lg 796 (by decide +kernel) rfl), (lg 797 (by decide +kernel) rfl), (lg 798 (by decide +kernel) rfl), (lg 44 (by decide +kernel) rfl), (lg 799 (by decide +kernel) rfl), ⟨by decide +kernel, by decide +kernel⟩, by decide +kernel⟩
theorem wvL_67 : WV RL 67 yX8_whyNot cX8_whyNot 3 (some .int) 1 := ⟨(lg 808 (by decide +kernel) rfl), (lg 809 (by decide +kernel) rfl), (lg 810 (by decide +kernel) rfl), (lg 44 (by decide +kernel) rfl), (lg 811 (by decide +kernel) rfl), ⟨by decide +kernel, by decide +kernel⟩, by decide +kernel⟩
theorem wvL_70 : WV RL 70 yX8_smallestSet cX8_smallestSet 6 (some .int) 2 := ⟨(lg 816 (by decide +kernel) rfl), (lg 817 (by decide +kernel) rfl), (lg 818 (by decide +kernel) rfl), (lg 44 (by decide +kernel) rfl), (lg 819 (by decide +kernel) rfl), ⟨by decide +kernel, by decide +kernel⟩, by decide +kernel⟩
theorem wvL_73 : WV RL 73 yX8_ahead cX8_ahead 6 (some .int) 3 := ⟨(lg 846 (by decide +kernel) rfl), (lg 847 (by decide +kernel) rfl), (lg 848 (by decide +kernel) rfl), (lg 44 (by decide +kernel) rfl), (lg 849 (by decide +kernel) rfl), ⟨by decide +kernel, by decide +kernel⟩, by decide +kernel⟩
theorem wvL_77 : WV RL 77 yX8_warmAfter cX8_warmAfter 4 (some .int) 2 := ⟨(lg 860 (by decide +kernel) rfl), (lg 861 (by decide +kernel) rfl), (lg 862 (by decide +kernel) rfl), (lg 44 (by decide +kernel) rfl), (lg 863 (by decide +kernel) rfl), ⟨by decide +kernel, by decide +kernel⟩, by decide +kernel⟩
theorem wvL_80 : WV RL 80 yX8_bearable cX8_bearable 4 (some .int) 2 := ⟨(lg 867 (by decide +kernel) rfl), (lg 868 (by decide +kernel) rfl), (lg 869 (by decide +kernel) rfl), (lg 44 (by decide +kernel) rfl), (lg 870 (by decide +kernel) rfl), ⟨by decide +kernel, by decide +kernel⟩, by decide +kernel⟩
theorem wvL_83 : WV RL 83 yX8_cheapestPurge cX8_cheapestPurge 7 (some .int) 2 := ⟨(lg 878 (by decide +kernel) rfl), (lg 879 (by decide +kernel) rfl), (lg 880 (by decide +kernel) rfl), (lg 44 (by decide +kernel) rfl), (lg 881 (by decide +kernel) rfl), ⟨by decide +kernel, by decide +kernel⟩, by decide +kernel⟩
theorem wvL_86 : WV RL 86 yX8_runScript cX8_runScript 11 (some .int) 2 := ⟨(lg 885 (by decide +kernel) rfl), (lg 886 (by decide +kernel) rfl), (lg 887 (by decide +kernel) rfl), (lg 44 (by decide +kernel) rfl), (lg 888 (by decide +kernel) rfl), ⟨by decide +kernel, by decide +kernel⟩, by decide +kernel⟩
theorem wvL_90 : WV RL 90 yX8_simulate cX8_simulate 9 (some .int) 2 := ⟨(lg 902 (by decide +kernel) rfl), (lg 903 (by decide +kernel) rfl), (lg 904 (by decide +kernel) rfl), (lg 44 (by decide +kernel) rfl), (lg 905 (by decide +kernel) rfl), ⟨by decide +kernel, by decide +kernel⟩, by decide +kernel⟩
theorem wvL_94 : WV RL 94 yX8_save cX8_save 3 (some .int) 1 := ⟨(lg 911 (by decide +kernel) rfl), (lg 912 (by decide +kernel) rfl), (lg 913 (by decide +kernel) rfl), (lg 44 (by decide +kernel) rfl), (lg 914 (by decide +kernel) rfl), ⟨by decide +kernel, by decide +kernel⟩, by decide +kernel⟩
theorem wvL_97 : WV RL 97 yX8_restore cX8_restore 3 (some .int) 1 := ⟨(lg 922 (by decide +kernel) rfl), (lg 923 (by decide +kernel) rfl), (lg 924 (by decide +kernel) rfl), (lg 44 (by decide +kernel) rfl), (lg 925 (by decide +kernel) rfl), ⟨by decide +kernel, by decide +kernel⟩, by decide +kernel⟩
def F_L_append (x1 : Int32) (C : Mem) : Option (Int32 × Mem) :=
  b2 (F_X8_append x1 C) fun r1 C2 => Sum.elim (fun v4 =>
  nm (mu C2 40 0 v4) fun C6 =>
  some ((0 : Int32), C6)) (fun k => (if k = 1 then (
  some ((1 : Int32), C2)) else ((if k = 2 then (
  some ((2 : Int32), C2)) else (none))))) r1
def F_L_load  (C : Mem) : Option (Int32 × Mem) :=
  b2 (F_X8_load  C) fun r1 C2 => Sum.elim (fun v4 =>
  nm (mu C2 40 0 v4) fun C6 =>
  some ((0 : Int32), C6)) (fun k => (if k = 2 then (
  some ((1 : Int32), C2)) else (none))) r1
def F_L_about (x1 : Int32) (C : Mem) : Option (Int32 × Mem) :=
  b2 (F_X8_about x1 C) fun r1 C2 => Sum.elim (fun v4 =>
  nm (mu C2 40 0 v4) fun C6 =>
  some ((0 : Int32), C6)) (fun k => (if k = 1 then (
  some ((1 : Int32), C2)) else (none))) r1
def F_L_boiler (x1 : Int32) (x2 : Int32) (C : Mem) : Option (Int32 × Mem) :=
  b2 (F_X8_boiler x1 x2 C) fun r1 C2 => Sum.elim (fun v4 =>
  nm (mu C2 40 0 v4) fun C6 =>
  some ((0 : Int32), C6)) (fun k => (if k = 3 then (
  some ((1 : Int32), C2)) else ((if k = 1 then (
  some ((2 : Int32), C2)) else (none))))) r1
def F_L_flue (x1 : Int32) (x2 : Int32) (C : Mem) : Option (Int32 × Mem) :=
  b2 (F_X8_flue x1 x2 C) fun r1 C2 => Sum.elim (fun v4 =>
  nm (mu C2 40 0 v4) fun C6 =>
  some ((0 : Int32), C6)) (fun k => (if k = 3 then (
  some ((1 : Int32), C2)) else ((if k = 1 then (
  some ((2 : Int32), C2)) else (none))))) r1
def F_L_layer (x1 : Int32) (C : Mem) : Option (Int32 × Mem) :=
  b2 (F_X8_layer x1 C) fun r1 C2 => Sum.elim (fun v4 =>
  nm (mu C2 40 0 v4) fun C6 =>
  some ((0 : Int32), C6)) (fun k => (if k = 3 then (
  some ((1 : Int32), C2)) else (none))) r1
def F_L_account (x1 : Int32) (C : Mem) : Option (Int32 × Mem) :=
  b2 (F_X8_account x1 C) fun r1 C2 => Sum.elim (fun v4 =>
  nm (mu C2 40 0 v4) fun C6 =>
  some ((0 : Int32), C6)) (fun k => (if k = 1 then (
  some ((1 : Int32), C2)) else (none))) r1
def F_L_tick (x1 : Int32) (x2 : Int32) (C : Mem) : Option (Int32 × Mem) :=
  b2 (F_X8_tick x1 x2 C) fun r1 C2 => Sum.elim (fun v4 =>
  nm (mu C2 40 0 v4) fun C6 =>
  some ((0 : Int32), C6)) (fun k => (if k = 1 then (
  some ((1 : Int32), C2)) else (none))) r1
def F_L_draw (x1 : Int32) (C : Mem) : Option (Int32 × Mem) :=
  b2 (F_X8_draw x1 C) fun r1 C2 => Sum.elim (fun v4 =>
  nm (mu C2 40 0 v4) fun C6 =>
  some ((0 : Int32), C6)) (fun k => (if k = 1 then (
  some ((1 : Int32), C2)) else (none))) r1
def F_L_set (x1 : Int32) (x2 : Int32) (C : Mem) : Option (Int32 × Mem) :=
  b2 (F_X8_set x1 x2 C) fun r1 C2 => Sum.elim (fun v4 =>
  nm (mu C2 40 0 v4) fun C6 =>
  some ((0 : Int32), C6)) (fun k => (if k = 1 then (
  some ((1 : Int32), C2)) else (none))) r1
def F_L_setFlue (x1 : Int32) (x2 : Int32) (C : Mem) : Option (Int32 × Mem) :=
  b2 (F_X8_setFlue x1 x2 C) fun r1 C2 => Sum.elim (fun v4 =>
  nm (mu C2 40 0 v4) fun C6 =>
  some ((0 : Int32), C6)) (fun k => (if k = 3 then (
  some ((1 : Int32), C2)) else (none))) r1
def F_L_setDraft (x1 : Int32) (x2 : Int32) (C : Mem) : Option (Int32 × Mem) :=
  b2 (F_X8_setDraft x1 x2 C) fun r1 C2 => Sum.elim (fun v4 =>
  nm (mu C2 40 0 v4) fun C6 =>
  some ((0 : Int32), C6)) (fun k => (if k = 3 then (
  some ((1 : Int32), C2)) else ((if k = 1 then (
  some ((2 : Int32), C2)) else (none))))) r1
def F_L_lock (x1 : Int32) (C : Mem) : Option (Int32 × Mem) :=
  b2 (F_X8_lock x1 C) fun r1 C2 => Sum.elim (fun v4 =>
  nm (mu C2 40 0 v4) fun C6 =>
  some ((0 : Int32), C6)) (fun k => (if k = 3 then (
  some ((1 : Int32), C2)) else ((if k = 2 then (
  some ((2 : Int32), C2)) else (none))))) r1
def F_L_unlock (x1 : Int32) (C : Mem) : Option (Int32 × Mem) :=
  b2 (F_X8_unlock x1 C) fun r1 C2 => Sum.elim (fun v4 =>
  nm (mu C2 40 0 v4) fun C6 =>
  some ((0 : Int32), C6)) (fun k => (if k = 3 then (
  some ((1 : Int32), C2)) else ((if k = 2 then (
  some ((2 : Int32), C2)) else (none))))) r1
def F_L_putOff (x1 : Int32) (C : Mem) : Option (Int32 × Mem) :=
  b2 (F_X8_putOff x1 C) fun r1 C2 => Sum.elim (fun v4 =>
  nm (mu C2 40 0 v4) fun C6 =>
  some ((0 : Int32), C6)) (fun k => (if k = 3 then (
  some ((1 : Int32), C2)) else ((if k = 2 then (
  some ((2 : Int32), C2)) else (none))))) r1
def F_L_undo  (C : Mem) : Option (Int32 × Mem) :=
  b2 (F_X8_undo  C) fun r1 C2 => Sum.elim (fun v4 =>
  nm (mu C2 40 0 v4) fun C6 =>
  some ((0 : Int32), C6)) (fun k => (if k = 2 then (
  some ((1 : Int32), C2)) else (none))) r1
def F_L_whyNot (x1 : Int32) (C : Mem) : Option (Int32 × Mem) :=
  b2 (F_X8_whyNot x1 C) fun r1 C2 => Sum.elim (fun v4 =>
  nm (mu C2 40 0 v4) fun C6 =>
  some ((0 : Int32), C6)) (fun k => (if k = 3 then (
  some ((1 : Int32), C2)) else (none))) r1
def F_L_smallestSet (x1 : Int32) (x2 : Int32) (C : Mem) : Option (Int32 × Mem) :=
  b2 (F_X8_smallestSet x1 x2 C) fun r1 C2 => Sum.elim (fun v4 =>
  nm (mu C2 40 0 v4) fun C6 =>
  some ((0 : Int32), C6)) (fun k => (if k = 1 then (
  some ((1 : Int32), C2)) else (none))) r1
def F_L_ahead (x1 : Int32) (x2 : Int32) (x3 : Int32) (C : Mem) : Option (Int32 × Mem) :=
  b2 (F_X8_ahead x1 x2 x3 C) fun r1 C2 => Sum.elim (fun v4 =>
  nm (mu C2 40 0 v4) fun C6 =>
  some ((0 : Int32), C6)) (fun k => (if k = 1 then (
  some ((1 : Int32), C2)) else (none))) r1
def F_L_warmAfter (x1 : Int32) (x2 : Int32) (C : Mem) : Option (Int32 × Mem) :=
  b2 (F_X8_warmAfter x1 x2 C) fun r1 C2 => Sum.elim (fun v4 =>
  nm (mu C2 40 0 v4) fun C6 =>
  some ((0 : Int32), C6)) (fun k => (if k = 1 then (
  some ((1 : Int32), C2)) else (none))) r1
def F_L_bearable (x1 : Int32) (x2 : Int32) (C : Mem) : Option (Int32 × Mem) :=
  b2 (F_X8_bearable x1 x2 C) fun r1 C2 => Sum.elim (fun v4 =>
  nm (mu C2 40 0 v4) fun C6 =>
  some ((0 : Int32), C6)) (fun k => (if k = 1 then (
  some ((1 : Int32), C2)) else (none))) r1
def F_L_cheapestPurge (x1 : Int32) (x2 : Int32) (C : Mem) : Option (Int32 × Mem) :=
  b2 (F_X8_cheapestPurge x1 x2 C) fun r1 C2 => Sum.elim (fun v4 =>
  nm (mu C2 40 0 v4) fun C6 =>
  some ((0 : Int32), C6)) (fun k => (if k = 1 then (
  some ((1 : Int32), C2)) else (none))) r1
def F_L_runScript (x1 : Int32) (x2 : Int64) (C : Mem) : Option (Int32 × Mem) :=
  b2 (F_X8_runScript x1 x2 C) fun r1 C2 => Sum.elim (fun v4 =>
  nm (mu C2 40 0 v4) fun C6 =>
  some ((0 : Int32), C6)) (fun k => (if k = 1 then (
  some ((1 : Int32), C2)) else (none))) r1
def F_L_simulate (x1 : Int64) (x2 : Int32) (C : Mem) : Option (Int32 × Mem) :=
  b2 (F_X8_simulate x1 x2 C) fun r1 C2 => Sum.elim (fun v4 =>
  nm (mu C2 40 0 v4) fun C6 =>
  some ((0 : Int32), C6)) (fun k => (if k = 1 then (
  some ((1 : Int32), C2)) else (none))) r1
def F_L_save (x1 : Int32) (C : Mem) : Option (Int32 × Mem) :=
  b2 (F_X8_save x1 C) fun r1 C2 => Sum.elim (fun v4 =>
  nm (mu C2 40 0 v4) fun C6 =>
  some ((0 : Int32), C6)) (fun k => (if k = 3 then (
  some ((1 : Int32), C2)) else (none))) r1
def F_L_restore (x1 : Int32) (C : Mem) : Option (Int32 × Mem) :=
  b2 (F_X8_restore x1 C) fun r1 C2 => Sum.elim (fun v4 =>
  nm (mu C2 40 0 v4) fun C6 =>
  some ((0 : Int32), C6)) (fun k => (if k = 3 then (
  some ((1 : Int32), C2)) else ((if k = 2 then (
  some ((2 : Int32), C2)) else (none))))) r1
set_option maxHeartbeats 4000000 in
set_option maxRecDepth 100000 in
theorem c_L_append (l : Launch) (G : GG) (n : Nat) (hn : n = 253) (hn2 : n ≤ 253) (hfl : l.stackTraces = false) (x1 : Int32) (C : Mem) (rR : Int32) (CR : Mem) (hF : F_L_append x1 C = some (rR, CR)) : CtW l yL_append cL_append 4 (some .int) [(0, 9, 12, 13), (0, 9, 15, 15)] (rmX 8 129 2 12) 2 12 G n C [.ref (bb G + 0), .int x1, .ref (bb G + 252)] rR CR := by
  refine CtW.of (by decide) (Nat.le_of_ble_eq_true rfl) ?_
  intro p e s m below meth c ls hC hr hlk ht hw hl
  have hx := hC.1
  have hb := hC.2.1
  have hS : LW G s s.heap [] := va_S.rf
  have hl : lv_has ls 4 [(0, .ref (bb G + 0)), (1, .int x1), (2, .ref (bb G + 252))] := hl
  unfold F_L_append at hF
  refine lv_aload_n hx hb dL_append_0 rfl (lv_at hl 2 rfl) ?_
  refine lv_iconst (v := 0) hx hb dL_append_1 (by decide) ?_
  refine lv_aload_n hx hb dL_append_2 rfl (lv_at hl 0 rfl) ?_
  refine lv_iload_n hx hb dL_append_3 rfl (lv_at hl 1 rfl) ?_
  obtain ⟨r1, C2, hc3, hF⟩ := b2_t hF
  refine call_VXi hC (c_X8_append l G n (by omega) hn2 hfl x1 _ _ _ hc3) wvL_7 ⟨rfl, rfl, by decide, by decide⟩ hw hS (by omega) ca_casc rfl hl.1 rfl (rest := [.int (0 : Int32), .ref (bb G + 252)]) rfl (Nat.le_of_ble_eq_true rfl) dL_append_4 ⟨by decide, by decide⟩ (fun k ce q9 H locs h5 b1 b2 hw hS hce hcv hcl => ?_) (fun v4 H locs h5 hw hS => ?_)
  · have hF := se_r h5 hF
    by_cases k0 : k = 1
    · have hF := it_t k0 hF
      subst k0
      refine m_ct1 hC ht rfl (by decide) kl_13 hce hcv hcl ?_
      refine lv_astore_n (lv' := [(3, .ref q9), (0, .ref (bb G + 0)), (1, .int x1), (2, .ref (bb G + 252))]) hx hb dL_append_12 rfl hl (by decide) rfl (fun ls hl => ?_)
      refine lv_iconst (v := 1) hx hb dL_append_13 (by decide) ?_
      exact m_iretW hC hr hlk hw hS (by decide) (by decide) dL_append_14 hF
    · have hF := it_f k0 hF
      by_cases k1 : k = 2
      · have hF := it_t k1 hF
        subst k1
        refine m_ct2 hC ht rfl (by decide) (by decide) kl_15 kl_13 (by decide) hce hcv hcl ?_
        refine lv_astore_n (lv' := [(3, .ref q9), (0, .ref (bb G + 0)), (1, .int x1), (2, .ref (bb G + 252))]) hx hb dL_append_15 rfl hl (by decide) rfl (fun ls hl => ?_)
        refine lv_iconst (v := 2) hx hb dL_append_16 (by decide) ?_
        exact m_iretW hC hr hlk hw hS (by decide) (by decide) dL_append_17 hF
      · have hF := it_f k1 hF
        cases hF
  · have hF := se_l h5 hF
    refine lv_i2l (v := (v4).toInt64) hx hb dL_append_7 rfl ?_
    refine st_out (x := v4) hC hw hS hn dL_append_8 (fun H locs hw hS _ => ?_)
    obtain ⟨C6, eC6, hF⟩ := nm_t hF
    have hw := Wd.cast eC6 hw
    refine lv_goto (tgt := 18) hx hb dL_append_9 (by decide) ?_
    refine lv_iconst (v := 0) hx hb dL_append_18 (by decide) ?_
    exact m_iretW hC hr hlk hw hS (by decide) (by decide) dL_append_19 hF
set_option maxHeartbeats 4000000 in
set_option maxRecDepth 100000 in
theorem c_L_load (l : Launch) (G : GG) (n : Nat) (hn : n = 253) (hn2 : n ≤ 253) (hfl : l.stackTraces = false)  (C : Mem) (rR : Int32) (CR : Mem) (hF : F_L_load  C = some (rR, CR)) : CtW l yL_load cL_load 3 (some .int) [(0, 8, 11, 15)] (rmX 7 130 1 6) 1 6 G n C [.ref (bb G + 0), .ref (bb G + 252)] rR CR := by
  refine CtW.of (by decide) (Nat.le_of_ble_eq_true rfl) ?_
  intro p e s m below meth c ls hC hr hlk ht hw hl
  have hx := hC.1
  have hb := hC.2.1
  have hS : LW G s s.heap [] := va_S.rf
  have hl : lv_has ls 3 [(0, .ref (bb G + 0)), (1, .ref (bb G + 252))] := hl
  unfold F_L_load at hF
  refine lv_aload_n hx hb dL_load_0 rfl (lv_at hl 1 rfl) ?_
  refine lv_iconst (v := 0) hx hb dL_load_1 (by decide) ?_
  refine lv_aload_n hx hb dL_load_2 rfl (lv_at hl 0 rfl) ?_
  obtain ⟨r1, C2, hc3, hF⟩ := b2_t hF
  refine call_VXi hC (c_X8_load l G n (by omega) hn2 hfl  _ _ _ hc3) wvL_17 ⟨rfl, rfl, by decide, by decide⟩ hw hS (by omega) ca_casc rfl hl.1 rfl (rest := [.int (0 : Int32), .ref (bb G + 252)]) rfl (Nat.le_of_ble_eq_true rfl) dL_load_3 ⟨by decide, by decide⟩ (fun k ce q9 H locs h5 b1 b2 hw hS hce hcv hcl => ?_) (fun v4 H locs h5 hw hS => ?_)
  · have hF := se_r h5 hF
    by_cases k0 : k = 2
    · have hF := it_t k0 hF
      subst k0
      refine m_ct1 hC ht rfl (by decide) kl_15 hce hcv hcl ?_
      refine lv_astore_n (lv' := [(2, .ref q9), (0, .ref (bb G + 0)), (1, .ref (bb G + 252))]) hx hb dL_load_11 rfl hl (by decide) rfl (fun ls hl => ?_)
      refine lv_iconst (v := 1) hx hb dL_load_12 (by decide) ?_
      exact m_iretW hC hr hlk hw hS (by decide) (by decide) dL_load_13 hF
    · have hF := it_f k0 hF
      cases hF
  · have hF := se_l h5 hF
    refine lv_i2l (v := (v4).toInt64) hx hb dL_load_6 rfl ?_
    refine st_out (x := v4) hC hw hS hn dL_load_7 (fun H locs hw hS _ => ?_)
    obtain ⟨C6, eC6, hF⟩ := nm_t hF
    have hw := Wd.cast eC6 hw
    refine lv_goto (tgt := 14) hx hb dL_load_8 (by decide) ?_
    refine lv_iconst (v := 0) hx hb dL_load_14 (by decide) ?_
    exact m_iretW hC hr hlk hw hS (by decide) (by decide) dL_load_15 hF
set_option maxHeartbeats 4000000 in
set_option maxRecDepth 100000 in
theorem c_L_about (l : Launch) (G : GG) (n : Nat) (hn : n = 253) (hn2 : n ≤ 253) (hfl : l.stackTraces = false) (x1 : Int32) (C : Mem) (rR : Int32) (CR : Mem) (hF : F_L_about x1 C = some (rR, CR)) : CtW l yL_about cL_about 4 (some .int) [(0, 9, 12, 13)] (rmX 8 129 1 6) 1 6 G n C [.ref (bb G + 0), .int x1, .ref (bb G + 252)] rR CR := by
  refine CtW.of (by decide) (Nat.le_of_ble_eq_true rfl) ?_
  intro p e s m below meth c ls hC hr hlk ht hw hl
  have hx := hC.1
  have hb := hC.2.1
  have hS : LW G s s.heap [] := va_S.rf
  have hl : lv_has ls 4 [(0, .ref (bb G + 0)), (1, .int x1), (2, .ref (bb G + 252))] := hl
  unfold F_L_about at hF
  refine lv_aload_n hx hb dL_about_0 rfl (lv_at hl 2 rfl) ?_
  refine lv_iconst (v := 0) hx hb dL_about_1 (by decide) ?_
  refine lv_aload_n hx hb dL_about_2 rfl (lv_at hl 0 rfl) ?_
  refine lv_iload_n hx hb dL_about_3 rfl (lv_at hl 1 rfl) ?_
  obtain ⟨r1, C2, hc3, hF⟩ := b2_t hF
  refine call_VXi hC (c_X8_about l G n (by omega) hn2 hfl x1 _ _ _ hc3) wvL_21 ⟨rfl, rfl, by decide, by decide⟩ hw hS (by omega) ca_casc rfl hl.1 rfl (rest := [.int (0 : Int32), .ref (bb G + 252)]) rfl (Nat.le_of_ble_eq_true rfl) dL_about_4 ⟨by decide, by decide⟩ (fun k ce q9 H locs h5 b1 b2 hw hS hce hcv hcl => ?_) (fun v4 H locs h5 hw hS => ?_)
  · have hF := se_r h5 hF
    by_cases k0 : k = 1
    · have hF := it_t k0 hF
      subst k0
      refine m_ct1 hC ht rfl (by decide) kl_13 hce hcv hcl ?_
      refine lv_astore_n (lv' := [(3, .ref q9), (0, .ref (bb G + 0)), (1, .int x1), (2, .ref (bb G + 252))]) hx hb dL_about_12 rfl hl (by decide) rfl (fun ls hl => ?_)
      refine lv_iconst (v := 1) hx hb dL_about_13 (by decide) ?_
      exact m_iretW hC hr hlk hw hS (by decide) (by decide) dL_about_14 hF
    · have hF := it_f k0 hF
      cases hF
  · have hF := se_l h5 hF
    refine lv_i2l (v := (v4).toInt64) hx hb dL_about_7 rfl ?_
    refine st_out (x := v4) hC hw hS hn dL_about_8 (fun H locs hw hS _ => ?_)
    obtain ⟨C6, eC6, hF⟩ := nm_t hF
    have hw := Wd.cast eC6 hw
    refine lv_goto (tgt := 15) hx hb dL_about_9 (by decide) ?_
    refine lv_iconst (v := 0) hx hb dL_about_15 (by decide) ?_
    exact m_iretW hC hr hlk hw hS (by decide) (by decide) dL_about_16 hF
set_option maxHeartbeats 4000000 in
set_option maxRecDepth 100000 in
theorem c_L_boiler (l : Launch) (G : GG) (n : Nat) (hn : n = 253) (hn2 : n ≤ 253) (hfl : l.stackTraces = false) (x1 : Int32) (x2 : Int32) (C : Mem) (rR : Int32) (CR : Mem) (hF : F_L_boiler x1 x2 C = some (rR, CR)) : CtW l yL_boiler cL_boiler 5 (some .int) [(0, 10, 13, 28), (0, 10, 17, 13)] (rmX 8 131 2 12) 2 12 G n C [.ref (bb G + 0), .int x1, .int x2, .ref (bb G + 252)] rR CR := by
  refine CtW.of (by decide) (Nat.le_of_ble_eq_true rfl) ?_
  intro p e s m below meth c ls hC hr hlk ht hw hl
  have hx := hC.1
  have hb := hC.2.1
  have hS : LW G s s.heap [] := va_S.rf
  have hl : lv_has ls 5 [(0, .ref (bb G + 0)), (1, .int x1), (2, .int x2), (3, .ref (bb G + 252))] := hl
  unfold F_L_boiler at hF
  refine lv_aload_n hx hb dL_boiler_0 rfl (lv_at hl 3 rfl) ?_
  refine lv_iconst (v := 0) hx hb dL_boiler_1 (by decide) ?_
  refine lv_aload_n hx hb dL_boiler_2 rfl (lv_at hl 0 rfl) ?_
  refine lv_iload_n hx hb dL_boiler_3 rfl (lv_at hl 1 rfl) ?_
  refine lv_iload_n hx hb dL_boiler_4 rfl (lv_at hl 2 rfl) ?_
  obtain ⟨r1, C2, hc3, hF⟩ := b2_t hF
  refine call_VXi hC (c_X8_boiler l G n (by omega) hn2 hfl x1 x2 _ _ _ hc3) wvL_24 ⟨rfl, rfl, by decide, by decide⟩ hw hS (by omega) ca_casc rfl hl.1 rfl (rest := [.int (0 : Int32), .ref (bb G + 252)]) rfl (Nat.le_of_ble_eq_true rfl) dL_boiler_5 ⟨by decide, by decide⟩ (fun k ce q9 H locs h5 b1 b2 hw hS hce hcv hcl => ?_) (fun v4 H locs h5 hw hS => ?_)
  · have hF := se_r h5 hF
    by_cases k0 : k = 3
    · have hF := it_t k0 hF
      subst k0
      refine m_ct1 hC ht rfl (by decide) kl_28 hce hcv hcl ?_
      refine lv_astore (lv' := [(4, .ref q9), (0, .ref (bb G + 0)), (1, .int x1), (2, .int x2), (3, .ref (bb G + 252))]) hx hb dL_boiler_13 hl (by decide) rfl (fun ls hl => ?_)
      refine lv_iconst (v := 1) hx hb dL_boiler_15 (by decide) ?_
      exact m_iretW hC hr hlk hw hS (by decide) (by decide) dL_boiler_16 hF
    · have hF := it_f k0 hF
      by_cases k1 : k = 1
      · have hF := it_t k1 hF
        subst k1
        refine m_ct2 hC ht rfl (by decide) (by decide) kl_13 kl_28 (by decide) hce hcv hcl ?_
        refine lv_astore (lv' := [(4, .ref q9), (0, .ref (bb G + 0)), (1, .int x1), (2, .int x2), (3, .ref (bb G + 252))]) hx hb dL_boiler_17 hl (by decide) rfl (fun ls hl => ?_)
        refine lv_iconst (v := 2) hx hb dL_boiler_19 (by decide) ?_
        exact m_iretW hC hr hlk hw hS (by decide) (by decide) dL_boiler_20 hF
      · have hF := it_f k1 hF
        cases hF
  · have hF := se_l h5 hF
    refine lv_i2l (v := (v4).toInt64) hx hb dL_boiler_8 rfl ?_
    refine st_out (x := v4) hC hw hS hn dL_boiler_9 (fun H locs hw hS _ => ?_)
    obtain ⟨C6, eC6, hF⟩ := nm_t hF
    have hw := Wd.cast eC6 hw
    refine lv_goto (tgt := 21) hx hb dL_boiler_10 (by decide) ?_
    refine lv_iconst (v := 0) hx hb dL_boiler_21 (by decide) ?_
    exact m_iretW hC hr hlk hw hS (by decide) (by decide) dL_boiler_22 hF
set_option maxHeartbeats 4000000 in
set_option maxRecDepth 100000 in
theorem c_L_flue (l : Launch) (G : GG) (n : Nat) (hn : n = 253) (hn2 : n ≤ 253) (hfl : l.stackTraces = false) (x1 : Int32) (x2 : Int32) (C : Mem) (rR : Int32) (CR : Mem) (hF : F_L_flue x1 x2 C = some (rR, CR)) : CtW l yL_flue cL_flue 5 (some .int) [(0, 10, 13, 28), (0, 10, 17, 13)] (rmX 8 131 2 12) 2 12 G n C [.ref (bb G + 0), .int x1, .int x2, .ref (bb G + 252)] rR CR := by
  refine CtW.of (by decide) (Nat.le_of_ble_eq_true rfl) ?_
  intro p e s m below meth c ls hC hr hlk ht hw hl
  have hx := hC.1
  have hb := hC.2.1
  have hS : LW G s s.heap [] := va_S.rf
  have hl : lv_has ls 5 [(0, .ref (bb G + 0)), (1, .int x1), (2, .int x2), (3, .ref (bb G + 252))] := hl
  unfold F_L_flue at hF
  refine lv_aload_n hx hb dL_flue_0 rfl (lv_at hl 3 rfl) ?_
  refine lv_iconst (v := 0) hx hb dL_flue_1 (by decide) ?_
  refine lv_aload_n hx hb dL_flue_2 rfl (lv_at hl 0 rfl) ?_
  refine lv_iload_n hx hb dL_flue_3 rfl (lv_at hl 1 rfl) ?_
  refine lv_iload_n hx hb dL_flue_4 rfl (lv_at hl 2 rfl) ?_
  obtain ⟨r1, C2, hc3, hF⟩ := b2_t hF
  refine call_VXi hC (c_X8_flue l G n (by omega) hn2 hfl x1 x2 _ _ _ hc3) wvL_30 ⟨rfl, rfl, by decide, by decide⟩ hw hS (by omega) ca_casc rfl hl.1 rfl (rest := [.int (0 : Int32), .ref (bb G + 252)]) rfl (Nat.le_of_ble_eq_true rfl) dL_flue_5 ⟨by decide, by decide⟩ (fun k ce q9 H locs h5 b1 b2 hw hS hce hcv hcl => ?_) (fun v4 H locs h5 hw hS => ?_)
  · have hF := se_r h5 hF
    by_cases k0 : k = 3
    · have hF := it_t k0 hF
      subst k0
      refine m_ct1 hC ht rfl (by decide) kl_28 hce hcv hcl ?_
      refine lv_astore (lv' := [(4, .ref q9), (0, .ref (bb G + 0)), (1, .int x1), (2, .int x2), (3, .ref (bb G + 252))]) hx hb dL_flue_13 hl (by decide) rfl (fun ls hl => ?_)
      refine lv_iconst (v := 1) hx hb dL_flue_15 (by decide) ?_
      exact m_iretW hC hr hlk hw hS (by decide) (by decide) dL_flue_16 hF
    · have hF := it_f k0 hF
      by_cases k1 : k = 1
      · have hF := it_t k1 hF
        subst k1
        refine m_ct2 hC ht rfl (by decide) (by decide) kl_13 kl_28 (by decide) hce hcv hcl ?_
        refine lv_astore (lv' := [(4, .ref q9), (0, .ref (bb G + 0)), (1, .int x1), (2, .int x2), (3, .ref (bb G + 252))]) hx hb dL_flue_17 hl (by decide) rfl (fun ls hl => ?_)
        refine lv_iconst (v := 2) hx hb dL_flue_19 (by decide) ?_
        exact m_iretW hC hr hlk hw hS (by decide) (by decide) dL_flue_20 hF
      · have hF := it_f k1 hF
        cases hF
  · have hF := se_l h5 hF
    refine lv_i2l (v := (v4).toInt64) hx hb dL_flue_8 rfl ?_
    refine st_out (x := v4) hC hw hS hn dL_flue_9 (fun H locs hw hS _ => ?_)
    obtain ⟨C6, eC6, hF⟩ := nm_t hF
    have hw := Wd.cast eC6 hw
    refine lv_goto (tgt := 21) hx hb dL_flue_10 (by decide) ?_
    refine lv_iconst (v := 0) hx hb dL_flue_21 (by decide) ?_
    exact m_iretW hC hr hlk hw hS (by decide) (by decide) dL_flue_22 hF
set_option maxHeartbeats 4000000 in
set_option maxRecDepth 100000 in
theorem c_L_layer (l : Launch) (G : GG) (n : Nat) (hn : n = 253) (hn2 : n ≤ 253) (hfl : l.stackTraces = false) (x1 : Int32) (C : Mem) (rR : Int32) (CR : Mem) (hF : F_L_layer x1 C = some (rR, CR)) : CtW l yL_layer cL_layer 4 (some .int) [(0, 9, 12, 28)] (rmX 7 107 1 6) 1 6 G n C [.ref (bb G + 0), .int x1, .ref (bb G + 252)] rR CR := by
  refine CtW.of (by decide) (Nat.le_of_ble_eq_true rfl) ?_
  intro p e s m below meth c ls hC hr hlk ht hw hl
  have hx := hC.1
  have hb := hC.2.1
  have hS : LW G s s.heap [] := va_S.rf
  have hl : lv_has ls 4 [(0, .ref (bb G + 0)), (1, .int x1), (2, .ref (bb G + 252))] := hl
  unfold F_L_layer at hF
  refine lv_aload_n hx hb dL_layer_0 rfl (lv_at hl 2 rfl) ?_
  refine lv_iconst (v := 0) hx hb dL_layer_1 (by decide) ?_
  refine lv_aload_n hx hb dL_layer_2 rfl (lv_at hl 0 rfl) ?_
  refine lv_iload_n hx hb dL_layer_3 rfl (lv_at hl 1 rfl) ?_
  obtain ⟨r1, C2, hc3, hF⟩ := b2_t hF
  refine call_VXi hC (c_X8_layer l G n (by omega) hn2 hfl x1 _ _ _ hc3) wvL_33 ⟨rfl, rfl, by decide, by decide⟩ hw hS (by omega) ca_casc rfl hl.1 rfl (rest := [.int (0 : Int32), .ref (bb G + 252)]) rfl (Nat.le_of_ble_eq_true rfl) dL_layer_4 ⟨by decide, by decide⟩ (fun k ce q9 H locs h5 b1 b2 hw hS hce hcv hcl => ?_) (fun v4 H locs h5 hw hS => ?_)
  · have hF := se_r h5 hF
    by_cases k0 : k = 3
    · have hF := it_t k0 hF
      subst k0
      refine m_ct1 hC ht rfl (by decide) kl_28 hce hcv hcl ?_
      refine lv_astore_n (lv' := [(3, .ref q9), (0, .ref (bb G + 0)), (1, .int x1), (2, .ref (bb G + 252))]) hx hb dL_layer_12 rfl hl (by decide) rfl (fun ls hl => ?_)
      refine lv_iconst (v := 1) hx hb dL_layer_13 (by decide) ?_
      exact m_iretW hC hr hlk hw hS (by decide) (by decide) dL_layer_14 hF
    · have hF := it_f k0 hF
      cases hF
  · have hF := se_l h5 hF
    refine lv_i2l (v := (v4).toInt64) hx hb dL_layer_7 rfl ?_
    refine st_out (x := v4) hC hw hS hn dL_layer_8 (fun H locs hw hS _ => ?_)
    obtain ⟨C6, eC6, hF⟩ := nm_t hF
    have hw := Wd.cast eC6 hw
    refine lv_goto (tgt := 15) hx hb dL_layer_9 (by decide) ?_
    refine lv_iconst (v := 0) hx hb dL_layer_15 (by decide) ?_
    exact m_iretW hC hr hlk hw hS (by decide) (by decide) dL_layer_16 hF
set_option maxHeartbeats 4000000 in
set_option maxRecDepth 100000 in
theorem c_L_account (l : Launch) (G : GG) (n : Nat) (hn : n = 253) (hn2 : n ≤ 253) (hfl : l.stackTraces = false) (x1 : Int32) (C : Mem) (rR : Int32) (CR : Mem) (hF : F_L_account x1 C = some (rR, CR)) : CtW l yL_account cL_account 4 (some .int) [(0, 9, 12, 13)] (rmX 8 129 1 6) 1 6 G n C [.ref (bb G + 0), .int x1, .ref (bb G + 252)] rR CR := by
  refine CtW.of (by decide) (Nat.le_of_ble_eq_true rfl) ?_
  intro p e s m below meth c ls hC hr hlk ht hw hl
  have hx := hC.1
  have hb := hC.2.1
  have hS : LW G s s.heap [] := va_S.rf
  have hl : lv_has ls 4 [(0, .ref (bb G + 0)), (1, .int x1), (2, .ref (bb G + 252))] := hl
  unfold F_L_account at hF
  refine lv_aload_n hx hb dL_account_0 rfl (lv_at hl 2 rfl) ?_
  refine lv_iconst (v := 0) hx hb dL_account_1 (by decide) ?_
  refine lv_aload_n hx hb dL_account_2 rfl (lv_at hl 0 rfl) ?_
  refine lv_iload_n hx hb dL_account_3 rfl (lv_at hl 1 rfl) ?_
  obtain ⟨r1, C2, hc3, hF⟩ := b2_t hF
  refine call_VXi hC (c_X8_account l G n (by omega) hn2 hfl x1 _ _ _ hc3) wvL_36 ⟨rfl, rfl, by decide, by decide⟩ hw hS (by omega) ca_casc rfl hl.1 rfl (rest := [.int (0 : Int32), .ref (bb G + 252)]) rfl (Nat.le_of_ble_eq_true rfl) dL_account_4 ⟨by decide, by decide⟩ (fun k ce q9 H locs h5 b1 b2 hw hS hce hcv hcl => ?_) (fun v4 H locs h5 hw hS => ?_)
  · have hF := se_r h5 hF
    by_cases k0 : k = 1
    · have hF := it_t k0 hF
      subst k0
      refine m_ct1 hC ht rfl (by decide) kl_13 hce hcv hcl ?_
      refine lv_astore_n (lv' := [(3, .ref q9), (0, .ref (bb G + 0)), (1, .int x1), (2, .ref (bb G + 252))]) hx hb dL_account_12 rfl hl (by decide) rfl (fun ls hl => ?_)
      refine lv_iconst (v := 1) hx hb dL_account_13 (by decide) ?_
      exact m_iretW hC hr hlk hw hS (by decide) (by decide) dL_account_14 hF
    · have hF := it_f k0 hF
      cases hF
  · have hF := se_l h5 hF
    refine lv_i2l (v := (v4).toInt64) hx hb dL_account_7 rfl ?_
    refine st_out (x := v4) hC hw hS hn dL_account_8 (fun H locs hw hS _ => ?_)
    obtain ⟨C6, eC6, hF⟩ := nm_t hF
    have hw := Wd.cast eC6 hw
    refine lv_goto (tgt := 15) hx hb dL_account_9 (by decide) ?_
    refine lv_iconst (v := 0) hx hb dL_account_15 (by decide) ?_
    exact m_iretW hC hr hlk hw hS (by decide) (by decide) dL_account_16 hF
set_option maxHeartbeats 4000000 in
set_option maxRecDepth 100000 in
theorem c_L_tick (l : Launch) (G : GG) (n : Nat) (hn : n = 253) (hn2 : n ≤ 253) (hfl : l.stackTraces = false) (x1 : Int32) (x2 : Int32) (C : Mem) (rR : Int32) (CR : Mem) (hF : F_L_tick x1 x2 C = some (rR, CR)) : CtW l yL_tick cL_tick 5 (some .int) [(0, 10, 13, 13)] (rmX 9 151 2 12) 2 12 G n C [.ref (bb G + 0), .int x1, .int x2, .ref (bb G + 252)] rR CR := by
  refine CtW.of (by decide) (Nat.le_of_ble_eq_true rfl) ?_
  intro p e s m below meth c ls hC hr hlk ht hw hl
  have hx := hC.1
  have hb := hC.2.1
  have hS : LW G s s.heap [] := va_S.rf
  have hl : lv_has ls 5 [(0, .ref (bb G + 0)), (1, .int x1), (2, .int x2), (3, .ref (bb G + 252))] := hl
  unfold F_L_tick at hF
  refine lv_aload_n hx hb dL_tick_0 rfl (lv_at hl 3 rfl) ?_
  refine lv_iconst (v := 0) hx hb dL_tick_1 (by decide) ?_
  refine lv_aload_n hx hb dL_tick_2 rfl (lv_at hl 0 rfl) ?_
  refine lv_iload_n hx hb dL_tick_3 rfl (lv_at hl 1 rfl) ?_
  refine lv_iload_n hx hb dL_tick_4 rfl (lv_at hl 2 rfl) ?_
  obtain ⟨r1, C2, hc3, hF⟩ := b2_t hF
  refine call_VXi hC (c_X8_tick l G n (by omega) hn2 hfl x1 x2 _ _ _ hc3) wvL_39 ⟨rfl, rfl, by decide, by decide⟩ hw hS (by omega) ca_casc rfl hl.1 rfl (rest := [.int (0 : Int32), .ref (bb G + 252)]) rfl (Nat.le_of_ble_eq_true rfl) dL_tick_5 ⟨by decide, by decide⟩ (fun k ce q9 H locs h5 b1 b2 hw hS hce hcv hcl => ?_) (fun v4 H locs h5 hw hS => ?_)
  · have hF := se_r h5 hF
    by_cases k0 : k = 1
    · have hF := it_t k0 hF
      subst k0
      refine m_ct1 hC ht rfl (by decide) kl_13 hce hcv hcl ?_
      refine lv_astore (lv' := [(4, .ref q9), (0, .ref (bb G + 0)), (1, .int x1), (2, .int x2), (3, .ref (bb G + 252))]) hx hb dL_tick_13 hl (by decide) rfl (fun ls hl => ?_)
      refine lv_iconst (v := 1) hx hb dL_tick_15 (by decide) ?_
      exact m_iretW hC hr hlk hw hS (by decide) (by decide) dL_tick_16 hF
    · have hF := it_f k0 hF
      cases hF
  · have hF := se_l h5 hF
    refine lv_i2l (v := (v4).toInt64) hx hb dL_tick_8 rfl ?_
    refine st_out (x := v4) hC hw hS hn dL_tick_9 (fun H locs hw hS _ => ?_)
    obtain ⟨C6, eC6, hF⟩ := nm_t hF
    have hw := Wd.cast eC6 hw
    refine lv_goto (tgt := 17) hx hb dL_tick_10 (by decide) ?_
    refine lv_iconst (v := 0) hx hb dL_tick_17 (by decide) ?_
    exact m_iretW hC hr hlk hw hS (by decide) (by decide) dL_tick_18 hF
set_option maxHeartbeats 4000000 in
set_option maxRecDepth 100000 in
theorem c_L_draw (l : Launch) (G : GG) (n : Nat) (hn : n = 253) (hn2 : n ≤ 253) (hfl : l.stackTraces = false) (x1 : Int32) (C : Mem) (rR : Int32) (CR : Mem) (hF : F_L_draw x1 C = some (rR, CR)) : CtW l yL_draw cL_draw 4 (some .int) [(0, 9, 12, 13)] (rmX 8 129 1 6) 1 6 G n C [.ref (bb G + 0), .int x1, .ref (bb G + 252)] rR CR := by
  refine CtW.of (by decide) (Nat.le_of_ble_eq_true rfl) ?_
  intro p e s m below meth c ls hC hr hlk ht hw hl
  have hx := hC.1
  have hb := hC.2.1
  have hS : LW G s s.heap [] := va_S.rf
  have hl : lv_has ls 4 [(0, .ref (bb G + 0)), (1, .int x1), (2, .ref (bb G + 252))] := hl
  unfold F_L_draw at hF
  refine lv_aload_n hx hb dL_draw_0 rfl (lv_at hl 2 rfl) ?_
  refine lv_iconst (v := 0) hx hb dL_draw_1 (by decide) ?_
  refine lv_aload_n hx hb dL_draw_2 rfl (lv_at hl 0 rfl) ?_
  refine lv_iload_n hx hb dL_draw_3 rfl (lv_at hl 1 rfl) ?_
  obtain ⟨r1, C2, hc3, hF⟩ := b2_t hF
  refine call_VXi hC (c_X8_draw l G n (by omega) hn2 hfl x1 _ _ _ hc3) wvL_42 ⟨rfl, rfl, by decide, by decide⟩ hw hS (by omega) ca_casc rfl hl.1 rfl (rest := [.int (0 : Int32), .ref (bb G + 252)]) rfl (Nat.le_of_ble_eq_true rfl) dL_draw_4 ⟨by decide, by decide⟩ (fun k ce q9 H locs h5 b1 b2 hw hS hce hcv hcl => ?_) (fun v4 H locs h5 hw hS => ?_)
  · have hF := se_r h5 hF
    by_cases k0 : k = 1
    · have hF := it_t k0 hF
      subst k0
      refine m_ct1 hC ht rfl (by decide) kl_13 hce hcv hcl ?_
      refine lv_astore_n (lv' := [(3, .ref q9), (0, .ref (bb G + 0)), (1, .int x1), (2, .ref (bb G + 252))]) hx hb dL_draw_12 rfl hl (by decide) rfl (fun ls hl => ?_)
      refine lv_iconst (v := 1) hx hb dL_draw_13 (by decide) ?_
      exact m_iretW hC hr hlk hw hS (by decide) (by decide) dL_draw_14 hF
    · have hF := it_f k0 hF
      cases hF
  · have hF := se_l h5 hF
    refine lv_i2l (v := (v4).toInt64) hx hb dL_draw_7 rfl ?_
    refine st_out (x := v4) hC hw hS hn dL_draw_8 (fun H locs hw hS _ => ?_)
    obtain ⟨C6, eC6, hF⟩ := nm_t hF
    have hw := Wd.cast eC6 hw
    refine lv_goto (tgt := 15) hx hb dL_draw_9 (by decide) ?_
    refine lv_iconst (v := 0) hx hb dL_draw_15 (by decide) ?_
    exact m_iretW hC hr hlk hw hS (by decide) (by decide) dL_draw_16 hF
set_option maxHeartbeats 4000000 in
set_option maxRecDepth 100000 in
theorem c_L_set (l : Launch) (G : GG) (n : Nat) (hn : n = 253) (hn2 : n ≤ 253) (hfl : l.stackTraces = false) (x1 : Int32) (x2 : Int32) (C : Mem) (rR : Int32) (CR : Mem) (hF : F_L_set x1 x2 C = some (rR, CR)) : CtW l yL_set cL_set 5 (some .int) [(0, 10, 13, 13)] (rmX 7 109 1 6) 1 6 G n C [.ref (bb G + 0), .int x1, .int x2, .ref (bb G + 252)] rR CR := by
  refine CtW.of (by decide) (Nat.le_of_ble_eq_true rfl) ?_
  intro p e s m below meth c ls hC hr hlk ht hw hl
  have hx := hC.1
  have hb := hC.2.1
  have hS : LW G s s.heap [] := va_S.rf
  have hl : lv_has ls 5 [(0, .ref (bb G + 0)), (1, .int x1), (2, .int x2), (3, .ref (bb G + 252))] := hl
  unfold F_L_set at hF
  refine lv_aload_n hx hb dL_set_0 rfl (lv_at hl 3 rfl) ?_
  refine lv_iconst (v := 0) hx hb dL_set_1 (by decide) ?_
  refine lv_aload_n hx hb dL_set_2 rfl (lv_at hl 0 rfl) ?_
  refine lv_iload_n hx hb dL_set_3 rfl (lv_at hl 1 rfl) ?_
  refine lv_iload_n hx hb dL_set_4 rfl (lv_at hl 2 rfl) ?_
  obtain ⟨r1, C2, hc3, hF⟩ := b2_t hF
  refine call_VXi hC (c_X8_set l G n (by omega) hn2 hfl x1 x2 _ _ _ hc3) wvL_45 ⟨rfl, rfl, by decide, by decide⟩ hw hS (by omega) ca_casc rfl hl.1 rfl (rest := [.int (0 : Int32), .ref (bb G + 252)]) rfl (Nat.le_of_ble_eq_true rfl) dL_set_5 ⟨by decide, by decide⟩ (fun k ce q9 H locs h5 b1 b2 hw hS hce hcv hcl => ?_) (fun v4 H locs h5 hw hS => ?_)
  · have hF := se_r h5 hF
    by_cases k0 : k = 1
    · have hF := it_t k0 hF
      subst k0
      refine m_ct1 hC ht rfl (by decide) kl_13 hce hcv hcl ?_
      refine lv_astore (lv' := [(4, .ref q9), (0, .ref (bb G + 0)), (1, .int x1), (2, .int x2), (3, .ref (bb G + 252))]) hx hb dL_set_13 hl (by decide) rfl (fun ls hl => ?_)
      refine lv_iconst (v := 1) hx hb dL_set_15 (by decide) ?_
      exact m_iretW hC hr hlk hw hS (by decide) (by decide) dL_set_16 hF
    · have hF := it_f k0 hF
      cases hF
  · have hF := se_l h5 hF
    refine lv_i2l (v := (v4).toInt64) hx hb dL_set_8 rfl ?_
    refine st_out (x := v4) hC hw hS hn dL_set_9 (fun H locs hw hS _ => ?_)
    obtain ⟨C6, eC6, hF⟩ := nm_t hF
    have hw := Wd.cast eC6 hw
    refine lv_goto (tgt := 17) hx hb dL_set_10 (by decide) ?_
    refine lv_iconst (v := 0) hx hb dL_set_17 (by decide) ?_
    exact m_iretW hC hr hlk hw hS (by decide) (by decide) dL_set_18 hF
set_option maxHeartbeats 4000000 in
set_option maxRecDepth 100000 in
theorem c_L_setFlue (l : Launch) (G : GG) (n : Nat) (hn : n = 253) (hn2 : n ≤ 253) (hfl : l.stackTraces = false) (x1 : Int32) (x2 : Int32) (C : Mem) (rR : Int32) (CR : Mem) (hF : F_L_setFlue x1 x2 C = some (rR, CR)) : CtW l yL_setFlue cL_setFlue 5 (some .int) [(0, 10, 13, 28)] (rmX 8 128 1 6) 1 6 G n C [.ref (bb G + 0), .int x1, .int x2, .ref (bb G + 252)] rR CR := by
  refine CtW.of (by decide) (Nat.le_of_ble_eq_true rfl) ?_
  intro p e s m below meth c ls hC hr hlk ht hw hl
  have hx := hC.1
  have hb := hC.2.1
  have hS : LW G s s.heap [] := va_S.rf
  have hl : lv_has ls 5 [(0, .ref (bb G + 0)), (1, .int x1), (2, .int x2), (3, .ref (bb G + 252))] := hl
  unfold F_L_setFlue at hF
  refine lv_aload_n hx hb dL_setFlue_0 rfl (lv_at hl 3 rfl) ?_
  refine lv_iconst (v := 0) hx hb dL_setFlue_1 (by decide) ?_
  refine lv_aload_n hx hb dL_setFlue_2 rfl (lv_at hl 0 rfl) ?_
  refine lv_iload_n hx hb dL_setFlue_3 rfl (lv_at hl 1 rfl) ?_
  refine lv_iload_n hx hb dL_setFlue_4 rfl (lv_at hl 2 rfl) ?_
  obtain ⟨r1, C2, hc3, hF⟩ := b2_t hF
  refine call_VXi hC (c_X8_setFlue l G n (by omega) hn2 hfl x1 x2 _ _ _ hc3) wvL_48 ⟨rfl, rfl, by decide, by decide⟩ hw hS (by omega) ca_casc rfl hl.1 rfl (rest := [.int (0 : Int32), .ref (bb G + 252)]) rfl (Nat.le_of_ble_eq_true rfl) dL_setFlue_5 ⟨by decide, by decide⟩ (fun k ce q9 H locs h5 b1 b2 hw hS hce hcv hcl => ?_) (fun v4 H locs h5 hw hS => ?_)
  · have hF := se_r h5 hF
    by_cases k0 : k = 3
    · have hF := it_t k0 hF
      subst k0
      refine m_ct1 hC ht rfl (by decide) kl_28 hce hcv hcl ?_
      refine lv_astore (lv' := [(4, .ref q9), (0, .ref (bb G + 0)), (1, .int x1), (2, .int x2), (3, .ref (bb G + 252))]) hx hb dL_setFlue_13 hl (by decide) rfl (fun ls hl => ?_)
      refine lv_iconst (v := 1) hx hb dL_setFlue_15 (by decide) ?_
      exact m_iretW hC hr hlk hw hS (by decide) (by decide) dL_setFlue_16 hF
    · have hF := it_f k0 hF
      cases hF
  · have hF := se_l h5 hF
    refine lv_i2l (v := (v4).toInt64) hx hb dL_setFlue_8 rfl ?_
    refine st_out (x := v4) hC hw hS hn dL_setFlue_9 (fun H locs hw hS _ => ?_)
    obtain ⟨C6, eC6, hF⟩ := nm_t hF
    have hw := Wd.cast eC6 hw
    refine lv_goto (tgt := 17) hx hb dL_setFlue_10 (by decide) ?_
    refine lv_iconst (v := 0) hx hb dL_setFlue_17 (by decide) ?_
    exact m_iretW hC hr hlk hw hS (by decide) (by decide) dL_setFlue_18 hF
set_option maxHeartbeats 4000000 in
set_option maxRecDepth 100000 in
theorem c_L_setDraft (l : Launch) (G : GG) (n : Nat) (hn : n = 253) (hn2 : n ≤ 253) (hfl : l.stackTraces = false) (x1 : Int32) (x2 : Int32) (C : Mem) (rR : Int32) (CR : Mem) (hF : F_L_setDraft x1 x2 C = some (rR, CR)) : CtW l yL_setDraft cL_setDraft 5 (some .int) [(0, 10, 13, 28), (0, 10, 17, 13)] (rmX 8 132 2 12) 2 12 G n C [.ref (bb G + 0), .int x1, .int x2, .ref (bb G + 252)] rR CR := by
  refine CtW.of (by decide) (Nat.le_of_ble_eq_true rfl) ?_
  intro p e s m below meth c ls hC hr hlk ht hw hl
  have hx := hC.1
  have hb := hC.2.1
  have hS : LW G s s.heap [] := va_S.rf
  have hl : lv_has ls 5 [(0, .ref (bb G + 0)), (1, .int x1), (2, .int x2), (3, .ref (bb G + 252))] := hl
  unfold F_L_setDraft at hF
  refine lv_aload_n hx hb dL_setDraft_0 rfl (lv_at hl 3 rfl) ?_
  refine lv_iconst (v := 0) hx hb dL_setDraft_1 (by decide) ?_
  refine lv_aload_n hx hb dL_setDraft_2 rfl (lv_at hl 0 rfl) ?_
  refine lv_iload_n hx hb dL_setDraft_3 rfl (lv_at hl 1 rfl) ?_
  refine lv_iload_n hx hb dL_setDraft_4 rfl (lv_at hl 2 rfl) ?_
  obtain ⟨r1, C2, hc3, hF⟩ := b2_t hF
  refine call_VXi hC (c_X8_setDraft l G n (by omega) hn2 hfl x1 x2 _ _ _ hc3) wvL_52 ⟨rfl, rfl, by decide, by decide⟩ hw hS (by omega) ca_casc rfl hl.1 rfl (rest := [.int (0 : Int32), .ref (bb G + 252)]) rfl (Nat.le_of_ble_eq_true rfl) dL_setDraft_5 ⟨by decide, by decide⟩ (fun k ce q9 H locs h5 b1 b2 hw hS hce hcv hcl => ?_) (fun v4 H locs h5 hw hS => ?_)
  · have hF := se_r h5 hF
    by_cases k0 : k = 3
    · have hF := it_t k0 hF
      subst k0
      refine m_ct1 hC ht rfl (by decide) kl_28 hce hcv hcl ?_
      refine lv_astore (lv' := [(4, .ref q9), (0, .ref (bb G + 0)), (1, .int x1), (2, .int x2), (3, .ref (bb G + 252))]) hx hb dL_setDraft_13 hl (by decide) rfl (fun ls hl => ?_)
      refine lv_iconst (v := 1) hx hb dL_setDraft_15 (by decide) ?_
      exact m_iretW hC hr hlk hw hS (by decide) (by decide) dL_setDraft_16 hF
    · have hF := it_f k0 hF
      by_cases k1 : k = 1
      · have hF := it_t k1 hF
        subst k1
        refine m_ct2 hC ht rfl (by decide) (by decide) kl_13 kl_28 (by decide) hce hcv hcl ?_
        refine lv_astore (lv' := [(4, .ref q9), (0, .ref (bb G + 0)), (1, .int x1), (2, .int x2), (3, .ref (bb G + 252))]) hx hb dL_setDraft_17 hl (by decide) rfl (fun ls hl => ?_)
        refine lv_iconst (v := 2) hx hb dL_setDraft_19 (by decide) ?_
        exact m_iretW hC hr hlk hw hS (by decide) (by decide) dL_setDraft_20 hF
      · have hF := it_f k1 hF
        cases hF
  · have hF := se_l h5 hF
    refine lv_i2l (v := (v4).toInt64) hx hb dL_setDraft_8 rfl ?_
    refine st_out (x := v4) hC hw hS hn dL_setDraft_9 (fun H locs hw hS _ => ?_)
    obtain ⟨C6, eC6, hF⟩ := nm_t hF
    have hw := Wd.cast eC6 hw
    refine lv_goto (tgt := 21) hx hb dL_setDraft_10 (by decide) ?_
    refine lv_iconst (v := 0) hx hb dL_setDraft_21 (by decide) ?_
    exact m_iretW hC hr hlk hw hS (by decide) (by decide) dL_setDraft_22 hF
set_option maxHeartbeats 4000000 in
set_option maxRecDepth 100000 in
theorem c_L_lock (l : Launch) (G : GG) (n : Nat) (hn : n = 253) (hn2 : n ≤ 253) (hfl : l.stackTraces = false) (x1 : Int32) (C : Mem) (rR : Int32) (CR : Mem) (hF : F_L_lock x1 C = some (rR, CR)) : CtW l yL_lock cL_lock 4 (some .int) [(0, 9, 12, 28), (0, 9, 15, 15)] (rmX 8 129 2 12) 2 12 G n C [.ref (bb G + 0), .int x1, .ref (bb G + 252)] rR CR := by
  refine CtW.of (by decide) (Nat.le_of_ble_eq_true rfl) ?_
  intro p e s m below meth c ls hC hr hlk ht hw hl
  have hx := hC.1
  have hb := hC.2.1
  have hS : LW G s s.heap [] := va_S.rf
  have hl : lv_has ls 4 [(0, .ref (bb G + 0)), (1, .int x1), (2, .ref (bb G + 252))] := hl
  unfold F_L_lock at hF
  refine lv_aload_n hx hb dL_lock_0 rfl (lv_at hl 2 rfl) ?_
  refine lv_iconst (v := 0) hx hb dL_lock_1 (by decide) ?_
  refine lv_aload_n hx hb dL_lock_2 rfl (lv_at hl 0 rfl) ?_
  refine lv_iload_n hx hb dL_lock_3 rfl (lv_at hl 1 rfl) ?_
  obtain ⟨r1, C2, hc3, hF⟩ := b2_t hF
  refine call_VXi hC (c_X8_lock l G n (by omega) hn2 hfl x1 _ _ _ hc3) wvL_55 ⟨rfl, rfl, by decide, by decide⟩ hw hS (by omega) ca_casc rfl hl.1 rfl (rest := [.int (0 : Int32), .ref (bb G + 252)]) rfl (Nat.le_of_ble_eq_true rfl) dL_lock_4 ⟨by decide, by decide⟩ (fun k ce q9 H locs h5 b1 b2 hw hS hce hcv hcl => ?_) (fun v4 H locs h5 hw hS => ?_)
  · have hF := se_r h5 hF
    by_cases k0 : k = 3
    · have hF := it_t k0 hF
      subst k0
      refine m_ct1 hC ht rfl (by decide) kl_28 hce hcv hcl ?_
      refine lv_astore_n (lv' := [(3, .ref q9), (0, .ref (bb G + 0)), (1, .int x1), (2, .ref (bb G + 252))]) hx hb dL_lock_12 rfl hl (by decide) rfl (fun ls hl => ?_)
      refine lv_iconst (v := 1) hx hb dL_lock_13 (by decide) ?_
      exact m_iretW hC hr hlk hw hS (by decide) (by decide) dL_lock_14 hF
    · have hF := it_f k0 hF
      by_cases k1 : k = 2
      · have hF := it_t k1 hF
        subst k1
        refine m_ct2 hC ht rfl (by decide) (by decide) kl_15 kl_28 (by decide) hce hcv hcl ?_
        refine lv_astore_n (lv' := [(3, .ref q9), (0, .ref (bb G + 0)), (1, .int x1), (2, .ref (bb G + 252))]) hx hb dL_lock_15 rfl hl (by decide) rfl (fun ls hl => ?_)
        refine lv_iconst (v := 2) hx hb dL_lock_16 (by decide) ?_
        exact m_iretW hC hr hlk hw hS (by decide) (by decide) dL_lock_17 hF
      · have hF := it_f k1 hF
        cases hF
  · have hF := se_l h5 hF
    refine lv_i2l (v := (v4).toInt64) hx hb dL_lock_7 rfl ?_
    refine st_out (x := v4) hC hw hS hn dL_lock_8 (fun H locs hw hS _ => ?_)
    obtain ⟨C6, eC6, hF⟩ := nm_t hF
    have hw := Wd.cast eC6 hw
    refine lv_goto (tgt := 18) hx hb dL_lock_9 (by decide) ?_
    refine lv_iconst (v := 0) hx hb dL_lock_18 (by decide) ?_
    exact m_iretW hC hr hlk hw hS (by decide) (by decide) dL_lock_19 hF
set_option maxHeartbeats 4000000 in
set_option maxRecDepth 100000 in
theorem c_L_unlock (l : Launch) (G : GG) (n : Nat) (hn : n = 253) (hn2 : n ≤ 253) (hfl : l.stackTraces = false) (x1 : Int32) (C : Mem) (rR : Int32) (CR : Mem) (hF : F_L_unlock x1 C = some (rR, CR)) : CtW l yL_unlock cL_unlock 4 (some .int) [(0, 9, 12, 28), (0, 9, 15, 15)] (rmX 8 128 2 12) 2 12 G n C [.ref (bb G + 0), .int x1, .ref (bb G + 252)] rR CR := by
  refine CtW.of (by decide) (Nat.le_of_ble_eq_true rfl) ?_
  intro p e s m below meth c ls hC hr hlk ht hw hl
  have hx := hC.1
  have hb := hC.2.1
  have hS : LW G s s.heap [] := va_S.rf
  have hl : lv_has ls 4 [(0, .ref (bb G + 0)), (1, .int x1), (2, .ref (bb G + 252))] := hl
  unfold F_L_unlock at hF
  refine lv_aload_n hx hb dL_unlock_0 rfl (lv_at hl 2 rfl) ?_
  refine lv_iconst (v := 0) hx hb dL_unlock_1 (by decide) ?_
  refine lv_aload_n hx hb dL_unlock_2 rfl (lv_at hl 0 rfl) ?_
  refine lv_iload_n hx hb dL_unlock_3 rfl (lv_at hl 1 rfl) ?_
  obtain ⟨r1, C2, hc3, hF⟩ := b2_t hF
  refine call_VXi hC (c_X8_unlock l G n (by omega) hn2 hfl x1 _ _ _ hc3) wvL_58 ⟨rfl, rfl, by decide, by decide⟩ hw hS (by omega) ca_casc rfl hl.1 rfl (rest := [.int (0 : Int32), .ref (bb G + 252)]) rfl (Nat.le_of_ble_eq_true rfl) dL_unlock_4 ⟨by decide, by decide⟩ (fun k ce q9 H locs h5 b1 b2 hw hS hce hcv hcl => ?_) (fun v4 H locs h5 hw hS => ?_)
  · have hF := se_r h5 hF
    by_cases k0 : k = 3
    · have hF := it_t k0 hF
      subst k0
      refine m_ct1 hC ht rfl (by decide) kl_28 hce hcv hcl ?_
      refine lv_astore_n (lv' := [(3, .ref q9), (0, .ref (bb G + 0)), (1, .int x1), (2, .ref (bb G + 252))]) hx hb dL_unlock_12 rfl hl (by decide) rfl (fun ls hl => ?_)
      refine lv_iconst (v := 1) hx hb dL_unlock_13 (by decide) ?_
      exact m_iretW hC hr hlk hw hS (by decide) (by decide) dL_unlock_14 hF
    · have hF := it_f k0 hF
      by_cases k1 : k = 2
      · have hF := it_t k1 hF
        subst k1
        refine m_ct2 hC ht rfl (by decide) (by decide) kl_15 kl_28 (by decide) hce hcv hcl ?_
        refine lv_astore_n (lv' := [(3, .ref q9), (0, .ref (bb G + 0)), (1, .int x1), (2, .ref (bb G + 252))]) hx hb dL_unlock_15 rfl hl (by decide) rfl (fun ls hl => ?_)
        refine lv_iconst (v := 2) hx hb dL_unlock_16 (by decide) ?_
        exact m_iretW hC hr hlk hw hS (by decide) (by decide) dL_unlock_17 hF
      · have hF := it_f k1 hF
        cases hF
  · have hF := se_l h5 hF
    refine lv_i2l (v := (v4).toInt64) hx hb dL_unlock_7 rfl ?_
    refine st_out (x := v4) hC hw hS hn dL_unlock_8 (fun H locs hw hS _ => ?_)
    obtain ⟨C6, eC6, hF⟩ := nm_t hF
    have hw := Wd.cast eC6 hw
    refine lv_goto (tgt := 18) hx hb dL_unlock_9 (by decide) ?_
    refine lv_iconst (v := 0) hx hb dL_unlock_18 (by decide) ?_
    exact m_iretW hC hr hlk hw hS (by decide) (by decide) dL_unlock_19 hF
set_option maxHeartbeats 4000000 in
set_option maxRecDepth 100000 in
theorem c_L_putOff (l : Launch) (G : GG) (n : Nat) (hn : n = 253) (hn2 : n ≤ 253) (hfl : l.stackTraces = false) (x1 : Int32) (C : Mem) (rR : Int32) (CR : Mem) (hF : F_L_putOff x1 C = some (rR, CR)) : CtW l yL_putOff cL_putOff 4 (some .int) [(0, 9, 12, 28), (0, 9, 15, 15)] (rmX 8 128 2 12) 2 12 G n C [.ref (bb G + 0), .int x1, .ref (bb G + 252)] rR CR := by
  refine CtW.of (by decide) (Nat.le_of_ble_eq_true rfl) ?_
  intro p e s m below meth c ls hC hr hlk ht hw hl
  have hx := hC.1
  have hb := hC.2.1
  have hS : LW G s s.heap [] := va_S.rf
  have hl : lv_has ls 4 [(0, .ref (bb G + 0)), (1, .int x1), (2, .ref (bb G + 252))] := hl
  unfold F_L_putOff at hF
  refine lv_aload_n hx hb dL_putOff_0 rfl (lv_at hl 2 rfl) ?_
  refine lv_iconst (v := 0) hx hb dL_putOff_1 (by decide) ?_
  refine lv_aload_n hx hb dL_putOff_2 rfl (lv_at hl 0 rfl) ?_
  refine lv_iload_n hx hb dL_putOff_3 rfl (lv_at hl 1 rfl) ?_
  obtain ⟨r1, C2, hc3, hF⟩ := b2_t hF
  refine call_VXi hC (c_X8_putOff l G n (by omega) hn2 hfl x1 _ _ _ hc3) wvL_61 ⟨rfl, rfl, by decide, by decide⟩ hw hS (by omega) ca_casc rfl hl.1 rfl (rest := [.int (0 : Int32), .ref (bb G + 252)]) rfl (Nat.le_of_ble_eq_true rfl) dL_putOff_4 ⟨by decide, by decide⟩ (fun k ce q9 H locs h5 b1 b2 hw hS hce hcv hcl => ?_) (fun v4 H locs h5 hw hS => ?_)
  · have hF := se_r h5 hF
    by_cases k0 : k = 3
    · have hF := it_t k0 hF
      subst k0
      refine m_ct1 hC ht rfl (by decide) kl_28 hce hcv hcl ?_
      refine lv_astore_n (lv' := [(3, .ref q9), (0, .ref (bb G + 0)), (1, .int x1), (2, .ref (bb G + 252))]) hx hb dL_putOff_12 rfl hl (by decide) rfl (fun ls hl => ?_)
      refine lv_iconst (v := 1) hx hb dL_putOff_13 (by decide) ?_
      exact m_iretW hC hr hlk hw hS (by decide) (by decide) dL_putOff_14 hF
    · have hF := it_f k0 hF
      by_cases k1 : k = 2
      · have hF := it_t k1 hF
        subst k1
        refine m_ct2 hC ht rfl (by decide) (by decide) kl_15 kl_28 (by decide) hce hcv hcl ?_
        refine lv_astore_n (lv' := [(3, .ref q9), (0, .ref (bb G + 0)), (1, .int x1), (2, .ref (bb G + 252))]) hx hb dL_putOff_15 rfl hl (by decide) rfl (fun ls hl => ?_)
        refine lv_iconst (v := 2) hx hb dL_putOff_16 (by decide) ?_
        exact m_iretW hC hr hlk hw hS (by decide) (by decide) dL_putOff_17 hF
      · have hF := it_f k1 hF
        cases hF
  · have hF := se_l h5 hF
    refine lv_i2l (v := (v4).toInt64) hx hb dL_putOff_7 rfl ?_
    refine st_out (x := v4) hC hw hS hn dL_putOff_8 (fun H locs hw hS _ => ?_)
    obtain ⟨C6, eC6, hF⟩ := nm_t hF
    have hw := Wd.cast eC6 hw
    refine lv_goto (tgt := 18) hx hb dL_putOff_9 (by decide) ?_
    refine lv_iconst (v := 0) hx hb dL_putOff_18 (by decide) ?_
    exact m_iretW hC hr hlk hw hS (by decide) (by decide) dL_putOff_19 hF
set_option maxHeartbeats 4000000 in
set_option maxRecDepth 100000 in
theorem c_L_undo (l : Launch) (G : GG) (n : Nat) (hn : n = 253) (hn2 : n ≤ 253) (hfl : l.stackTraces = false)  (C : Mem) (rR : Int32) (CR : Mem) (hF : F_L_undo  C = some (rR, CR)) : CtW l yL_undo cL_undo 3 (some .int) [(0, 8, 11, 15)] (rmX 7 106 1 6) 1 6 G n C [.ref (bb G + 0), .ref (bb G + 252)] rR CR := by
  refine CtW.of (by decide) (Nat.le_of_ble_eq_true rfl) ?_
  intro p e s m below meth c ls hC hr hlk ht hw hl
  have hx := hC.1
  have hb := hC.2.1
  have hS : LW G s s.heap [] := va_S.rf
  have hl : lv_has ls 3 [(0, .ref (bb G + 0)), (1, .ref (bb G + 252))] := hl
  unfold F_L_undo at hF
  refine lv_aload_n hx hb dL_undo_0 rfl (lv_at hl 1 rfl) ?_
  refine lv_iconst (v := 0) hx hb dL_undo_1 (by decide) ?_
  refine lv_aload_n hx hb dL_undo_2 rfl (lv_at hl 0 rfl) ?_
  obtain ⟨r1, C2, hc3, hF⟩ := b2_t hF
  refine call_VXi hC (c_X8_undo l G n (by omega) hn2 hfl  _ _ _ hc3) wvL_64 ⟨rfl, rfl, by decide, by decide⟩ hw hS (by omega) ca_casc rfl hl.1 rfl (rest := [.int (0 : Int32), .ref (bb G + 252)]) rfl (Nat.le_of_ble_eq_true rfl) dL_undo_3 ⟨by decide, by decide⟩ (fun k ce q9 H locs h5 b1 b2 hw hS hce hcv hcl => ?_) (fun v4 H locs h5 hw hS => ?_)
  · have hF := se_r h5 hF
    by_cases k0 : k = 2
    · have hF := it_t k0 hF
      subst k0
      refine m_ct1 hC ht rfl (by decide) kl_15 hce hcv hcl ?_
      refine lv_astore_n (lv' := [(2, .ref q9), (0, .ref (bb G + 0)), (1, .ref (bb G + 252))]) hx hb dL_undo_11 rfl hl (by decide) rfl (fun ls hl => ?_)
      refine lv_iconst (v := 1) hx hb dL_undo_12 (by decide) ?_
      exact m_iretW hC hr hlk hw hS (by decide) (by decide) dL_undo_13 hF
    · have hF := it_f k0 hF
      cases hF
  · have hF := se_l h5 hF
    refine lv_i2l (v := (v4).toInt64) hx hb dL_undo_6 rfl ?_
    refine st_out (x := v4) hC hw hS hn dL_undo_7 (fun H locs hw hS _ => ?_)
    obtain ⟨C6, eC6, hF⟩ := nm_t hF
    have hw := Wd.cast eC6 hw
    refine lv_goto (tgt := 14) hx hb dL_undo_8 (by decide) ?_
    refine lv_iconst (v := 0) hx hb dL_undo_14 (by decide) ?_
    exact m_iretW hC hr hlk hw hS (by decide) (by decide) dL_undo_15 hF
set_option maxHeartbeats 4000000 in
set_option maxRecDepth 100000 in
theorem c_L_whyNot (l : Launch) (G : GG) (n : Nat) (hn : n = 253) (hn2 : n ≤ 253) (hfl : l.stackTraces = false) (x1 : Int32) (C : Mem) (rR : Int32) (CR : Mem) (hF : F_L_whyNot x1 C = some (rR, CR)) : CtW l yL_whyNot cL_whyNot 4 (some .int) [(0, 9, 12, 28)] (rmX 8 129 1 6) 1 6 G n C [.ref (bb G + 0), .int x1, .ref (bb G + 252)] rR CR := by
  refine CtW.of (by decide) (Nat.le_of_ble_eq_true rfl) ?_
  intro p e s m below meth c ls hC hr hlk ht hw hl
  have hx := hC.1
  have hb := hC.2.1
  have hS : LW G s s.heap [] := va_S.rf
  have hl : lv_has ls 4 [(0, .ref (bb G + 0)), (1, .int x1), (2, .ref (bb G + 252))] := hl
  unfold F_L_whyNot at hF
  refine lv_aload_n hx hb dL_whyNot_0 rfl (lv_at hl 2 rfl) ?_
  refine lv_iconst (v := 0) hx hb dL_whyNot_1 (by decide) ?_
  refine lv_aload_n hx hb dL_whyNot_2 rfl (lv_at hl 0 rfl) ?_
  refine lv_iload_n hx hb dL_whyNot_3 rfl (lv_at hl 1 rfl) ?_
  obtain ⟨r1, C2, hc3, hF⟩ := b2_t hF
  refine call_VXi hC (c_X8_whyNot l G n (by omega) hn2 hfl x1 _ _ _ hc3) wvL_67 ⟨rfl, rfl, by decide, by decide⟩ hw hS (by omega) ca_casc rfl hl.1 rfl (rest := [.int (0 : Int32), .ref (bb G + 252)]) rfl (Nat.le_of_ble_eq_true rfl) dL_whyNot_4 ⟨by decide, by decide⟩ (fun k ce q9 H locs h5 b1 b2 hw hS hce hcv hcl => ?_) (fun v4 H locs h5 hw hS => ?_)
  · have hF := se_r h5 hF
    by_cases k0 : k = 3
    · have hF := it_t k0 hF
      subst k0
      refine m_ct1 hC ht rfl (by decide) kl_28 hce hcv hcl ?_
      refine lv_astore_n (lv' := [(3, .ref q9), (0, .ref (bb G + 0)), (1, .int x1), (2, .ref (bb G + 252))]) hx hb dL_whyNot_12 rfl hl (by decide) rfl (fun ls hl => ?_)
      refine lv_iconst (v := 1) hx hb dL_whyNot_13 (by decide) ?_
      exact m_iretW hC hr hlk hw hS (by decide) (by decide) dL_whyNot_14 hF
    · have hF := it_f k0 hF
      cases hF
  · have hF := se_l h5 hF
    refine lv_i2l (v := (v4).toInt64) hx hb dL_whyNot_7 rfl ?_
    refine st_out (x := v4) hC hw hS hn dL_whyNot_8 (fun H locs hw hS _ => ?_)
    obtain ⟨C6, eC6, hF⟩ := nm_t hF
    have hw := Wd.cast eC6 hw
    refine lv_goto (tgt := 15) hx hb dL_whyNot_9 (by decide) ?_
    refine lv_iconst (v := 0) hx hb dL_whyNot_15 (by decide) ?_
    exact m_iretW hC hr hlk hw hS (by decide) (by decide) dL_whyNot_16 hF
set_option maxHeartbeats 4000000 in
set_option maxRecDepth 100000 in
theorem c_L_smallestSet (l : Launch) (G : GG) (n : Nat) (hn : n = 253) (hn2 : n ≤ 253) (hfl : l.stackTraces = false) (x1 : Int32) (x2 : Int32) (C : Mem) (rR : Int32) (CR : Mem) (hF : F_L_smallestSet x1 x2 C = some (rR, CR)) : CtW l yL_smallestSet cL_smallestSet 5 (some .int) [(0, 10, 13, 13)] (rmX 8 133 1 6) 1 6 G n C [.ref (bb G + 0), .int x1, .int x2, .ref (bb G + 252)] rR CR := by
  refine CtW.of (by decide) (Nat.le_of_ble_eq_true rfl) ?_
  intro p e s m below meth c ls hC hr hlk ht hw hl
  have hx := hC.1
  have hb := hC.2.1
  have hS : LW G s s.heap [] := va_S.rf
  have hl : lv_has ls 5 [(0, .ref (bb G + 0)), (1, .int x1), (2, .int x2), (3, .ref (bb G + 252))] := hl
  unfold F_L_smallestSet at hF
  refine lv_aload_n hx hb dL_smallestSet_0 rfl (lv_at hl 3 rfl) ?_
  refine lv_iconst (v := 0) hx hb dL_smallestSet_1 (by decide) ?_
  refine lv_aload_n hx hb dL_smallestSet_2 rfl (lv_at hl 0 rfl) ?_
  refine lv_iload_n hx hb dL_smallestSet_3 rfl (lv_at hl 1 rfl) ?_
  refine lv_iload_n hx hb dL_smallestSet_4 rfl (lv_at hl 2 rfl) ?_
  obtain ⟨r1, C2, hc3, hF⟩ := b2_t hF
  refine call_VXi hC (c_X8_smallestSet l G n (by omega) hn2 hfl x1 x2 _ _ _ hc3) wvL_70 ⟨rfl, rfl, by decide, by decide⟩ hw hS (by omega) ca_casc rfl hl.1 rfl (rest := [.int (0 : Int32), .ref (bb G + 252)]) rfl (Nat.le_of_ble_eq_true rfl) dL_smallestSet_5 ⟨by decide, by decide⟩ (fun k ce q9 H locs h5 b1 b2 hw hS hce hcv hcl => ?_) (fun v4 H locs h5 hw hS => ?_)
  · have hF := se_r h5 hF
    by_cases k0 : k = 1
    · have hF := it_t k0 hF
      subst k0
      refine m_ct1 hC ht rfl (by decide) kl_13 hce hcv hcl ?_
      refine lv_astore (lv' := [(4, .ref q9), (0, .ref (bb G + 0)), (1, .int x1), (2, .int x2), (3, .ref (bb G + 252))]) hx hb dL_smallestSet_13 hl (by decide) rfl (fun ls hl => ?_)
      refine lv_iconst (v := 1) hx hb dL_smallestSet_15 (by decide) ?_
      exact m_iretW hC hr hlk hw hS (by decide) (by decide) dL_smallestSet_16 hF
    · have hF := it_f k0 hF
      cases hF
  · have hF := se_l h5 hF
    refine lv_i2l (v := (v4).toInt64) hx hb dL_smallestSet_8 rfl ?_
    refine st_out (x := v4) hC hw hS hn dL_smallestSet_9 (fun H locs hw hS _ => ?_)
    obtain ⟨C6, eC6, hF⟩ := nm_t hF
    have hw := Wd.cast eC6 hw
    refine lv_goto (tgt := 17) hx hb dL_smallestSet_10 (by decide) ?_
    refine lv_iconst (v := 0) hx hb dL_smallestSet_17 (by decide) ?_
    exact m_iretW hC hr hlk hw hS (by decide) (by decide) dL_smallestSet_18 hF
set_option maxHeartbeats 4000000 in
set_option maxRecDepth 100000 in
theorem c_L_ahead (l : Launch) (G : GG) (n : Nat) (hn : n = 253) (hn2 : n ≤ 253) (hfl : l.stackTraces = false) (x1 : Int32) (x2 : Int32) (x3 : Int32) (C : Mem) (rR : Int32) (CR : Mem) (hF : F_L_ahead x1 x2 x3 C = some (rR, CR)) : CtW l yL_ahead cL_ahead 6 (some .int) [(0, 12, 15, 13)] (rmX 9 154 3 18) 3 18 G n C [.ref (bb G + 0), .int x1, .int x2, .int x3, .ref (bb G + 252)] rR CR := by
  refine CtW.of (by decide) (Nat.le_of_ble_eq_true rfl) ?_
  intro p e s m below meth c ls hC hr hlk ht hw hl
  have hx := hC.1
  have hb := hC.2.1
  have hS : LW G s s.heap [] := va_S.rf
  have hl : lv_has ls 6 [(0, .ref (bb G + 0)), (1, .int x1), (2, .int x2), (3, .int x3), (4, .ref (bb G + 252))] := hl
  unfold F_L_ahead at hF
  refine lv_aload hx hb dL_ahead_0 (lv_at hl 4 rfl) ?_
  refine lv_iconst (v := 0) hx hb dL_ahead_2 (by decide) ?_
  refine lv_aload_n hx hb dL_ahead_3 rfl (lv_at hl 0 rfl) ?_
  refine lv_iload_n hx hb dL_ahead_4 rfl (lv_at hl 1 rfl) ?_
  refine lv_iload_n hx hb dL_ahead_5 rfl (lv_at hl 2 rfl) ?_
  refine lv_iload_n hx hb dL_ahead_6 rfl (lv_at hl 3 rfl) ?_
  obtain ⟨r1, C2, hc3, hF⟩ := b2_t hF
  refine call_VXi hC (c_X8_ahead l G n (by omega) hn2 hfl x1 x2 x3 _ _ _ hc3) wvL_73 ⟨rfl, rfl, by decide, by decide⟩ hw hS (by omega) ca_casc rfl hl.1 rfl (rest := [.int (0 : Int32), .ref (bb G + 252)]) rfl (Nat.le_of_ble_eq_true rfl) dL_ahead_7 ⟨by decide, by decide⟩ (fun k ce q9 H locs h5 b1 b2 hw hS hce hcv hcl => ?_) (fun v4 H locs h5 hw hS => ?_)
  · have hF := se_r h5 hF
    by_cases k0 : k = 1
    · have hF := it_t k0 hF
      subst k0
      refine m_ct1 hC ht rfl (by decide) kl_13 hce hcv hcl ?_
      refine lv_astore (lv' := [(5, .ref q9), (0, .ref (bb G + 0)), (1, .int x1), (2, .int x2), (3, .int x3), (4, .ref (bb G + 252))]) hx hb dL_ahead_15 hl (by decide) rfl (fun ls hl => ?_)
      refine lv_iconst (v := 1) hx hb dL_ahead_17 (by decide) ?_
      exact m_iretW hC hr hlk hw hS (by decide) (by decide) dL_ahead_18 hF
    · have hF := it_f k0 hF
      cases hF
  · have hF := se_l h5 hF
    refine lv_i2l (v := (v4).toInt64) hx hb dL_ahead_10 rfl ?_
    refine st_out (x := v4) hC hw hS hn dL_ahead_11 (fun H locs hw hS _ => ?_)
    obtain ⟨C6, eC6, hF⟩ := nm_t hF
    have hw := Wd.cast eC6 hw
    refine lv_goto (tgt := 19) hx hb dL_ahead_12 (by decide) ?_
    refine lv_iconst (v := 0) hx hb dL_ahead_19 (by decide) ?_
    exact m_iretW hC hr hlk hw hS (by decide) (by decide) dL_ahead_20 hF
set_option maxHeartbeats 4000000 in
set_option maxRecDepth 100000 in
theorem c_L_warmAfter (l : Launch) (G : GG) (n : Nat) (hn : n = 253) (hn2 : n ≤ 253) (hfl : l.stackTraces = false) (x1 : Int32) (x2 : Int32) (C : Mem) (rR : Int32) (CR : Mem) (hF : F_L_warmAfter x1 x2 C = some (rR, CR)) : CtW l yL_warmAfter cL_warmAfter 5 (some .int) [(0, 10, 13, 13)] (rmX 8 140 2 12) 2 12 G n C [.ref (bb G + 0), .int x1, .int x2, .ref (bb G + 252)] rR CR := by
  refine CtW.of (by decide) (Nat.le_of_ble_eq_true rfl) ?_
  intro p e s m below meth c ls hC hr hlk ht hw hl
  have hx := hC.1
  have hb := hC.2.1
  have hS : LW G s s.heap [] := va_S.rf
  have hl : lv_has ls 5 [(0, .ref (bb G + 0)), (1, .int x1), (2, .int x2), (3, .ref (bb G + 252))] := hl
  unfold F_L_warmAfter at hF
  refine lv_aload_n hx hb dL_warmAfter_0 rfl (lv_at hl 3 rfl) ?_
  refine lv_iconst (v := 0) hx hb dL_warmAfter_1 (by decide) ?_
  refine lv_aload_n hx hb dL_warmAfter_2 rfl (lv_at hl 0 rfl) ?_
  refine lv_iload_n hx hb dL_warmAfter_3 rfl (lv_at hl 1 rfl) ?_
  refine lv_iload_n hx hb dL_warmAfter_4 rfl (lv_at hl 2 rfl) ?_
  obtain ⟨r1, C2, hc3, hF⟩ := b2_t hF
  refine call_VXi hC (c_X8_warmAfter l G n (by omega) hn2 hfl x1 x2 _ _ _ hc3) wvL_77 ⟨rfl, rfl, by decide, by decide⟩ hw hS (by omega) ca_casc rfl hl.1 rfl (rest := [.int (0 : Int32), .ref (bb G + 252)]) rfl (Nat.le_of_ble_eq_true rfl) dL_warmAfter_5 ⟨by decide, by decide⟩ (fun k ce q9 H locs h5 b1 b2 hw hS hce hcv hcl => ?_) (fun v4 H locs h5 hw hS => ?_)
  · have hF := se_r h5 hF
    by_cases k0 : k = 1
    · have hF := it_t k0 hF
      subst k0
      refine m_ct1 hC ht rfl (by decide) kl_13 hce hcv hcl ?_
      refine lv_astore (lv' := [(4, .ref q9), (0, .ref (bb G + 0)), (1, .int x1), (2, .int x2), (3, .ref (bb G + 252))]) hx hb dL_warmAfter_13 hl (by decide) rfl (fun ls hl => ?_)
      refine lv_iconst (v := 1) hx hb dL_warmAfter_15 (by decide) ?_
      exact m_iretW hC hr hlk hw hS (by decide) (by decide) dL_warmAfter_16 hF
    · have hF := it_f k0 hF
      cases hF
  · have hF := se_l h5 hF
    refine lv_i2l (v := (v4).toInt64) hx hb dL_warmAfter_8 rfl ?_
    refine st_out (x := v4) hC hw hS hn dL_warmAfter_9 (fun H locs hw hS _ => ?_)
    obtain ⟨C6, eC6, hF⟩ := nm_t hF
    have hw := Wd.cast eC6 hw
    refine lv_goto (tgt := 17) hx hb dL_warmAfter_10 (by decide) ?_
    refine lv_iconst (v := 0) hx hb dL_warmAfter_17 (by decide) ?_
    exact m_iretW hC hr hlk hw hS (by decide) (by decide) dL_warmAfter_18 hF
set_option maxHeartbeats 4000000 in
set_option maxRecDepth 100000 in
theorem c_L_bearable (l : Launch) (G : GG) (n : Nat) (hn : n = 253) (hn2 : n ≤ 253) (hfl : l.stackTraces = false) (x1 : Int32) (x2 : Int32) (C : Mem) (rR : Int32) (CR : Mem) (hF : F_L_bearable x1 x2 C = some (rR, CR)) : CtW l yL_bearable cL_bearable 5 (some .int) [(0, 10, 13, 13)] (rmX 8 164 2 12) 2 12 G n C [.ref (bb G + 0), .int x1, .int x2, .ref (bb G + 252)] rR CR := by
  refine CtW.of (by decide) (Nat.le_of_ble_eq_true rfl) ?_
  intro p e s m below meth c ls hC hr hlk ht hw hl
  have hx := hC.1
  have hb := hC.2.1
  have hS : LW G s s.heap [] := va_S.rf
  have hl : lv_has ls 5 [(0, .ref (bb G + 0)), (1, .int x1), (2, .int x2), (3, .ref (bb G + 252))] := hl
  unfold F_L_bearable at hF
  refine lv_aload_n hx hb dL_bearable_0 rfl (lv_at hl 3 rfl) ?_
  refine lv_iconst (v := 0) hx hb dL_bearable_1 (by decide) ?_
  refine lv_aload_n hx hb dL_bearable_2 rfl (lv_at hl 0 rfl) ?_
  refine lv_iload_n hx hb dL_bearable_3 rfl (lv_at hl 1 rfl) ?_
  refine lv_iload_n hx hb dL_bearable_4 rfl (lv_at hl 2 rfl) ?_
  obtain ⟨r1, C2, hc3, hF⟩ := b2_t hF
  refine call_VXi hC (c_X8_bearable l G n (by omega) hn2 hfl x1 x2 _ _ _ hc3) wvL_80 ⟨rfl, rfl, by decide, by decide⟩ hw hS (by omega) ca_casc rfl hl.1 rfl (rest := [.int (0 : Int32), .ref (bb G + 252)]) rfl (Nat.le_of_ble_eq_true rfl) dL_bearable_5 ⟨by decide, by decide⟩ (fun k ce q9 H locs h5 b1 b2 hw hS hce hcv hcl => ?_) (fun v4 H locs h5 hw hS => ?_)
  · have hF := se_r h5 hF
    by_cases k0 : k = 1
    · have hF := it_t k0 hF
      subst k0
      refine m_ct1 hC ht rfl (by decide) kl_13 hce hcv hcl ?_
      refine lv_astore (lv' := [(4, .ref q9), (0, .ref (bb G + 0)), (1, .int x1), (2, .int x2), (3, .ref (bb G + 252))]) hx hb dL_bearable_13 hl (by decide) rfl (fun ls hl => ?_)
      refine lv_iconst (v := 1) hx hb dL_bearable_15 (by decide) ?_
      exact m_iretW hC hr hlk hw hS (by decide) (by decide) dL_bearable_16 hF
    · have hF := it_f k0 hF
      cases hF
  · have hF := se_l h5 hF
    refine lv_i2l (v := (v4).toInt64) hx hb dL_bearable_8 rfl ?_
    refine st_out (x := v4) hC hw hS hn dL_bearable_9 (fun H locs hw hS _ => ?_)
    obtain ⟨C6, eC6, hF⟩ := nm_t hF
    have hw := Wd.cast eC6 hw
    refine lv_goto (tgt := 17) hx hb dL_bearable_10 (by decide) ?_
    refine lv_iconst (v := 0) hx hb dL_bearable_17 (by decide) ?_
    exact m_iretW hC hr hlk hw hS (by decide) (by decide) dL_bearable_18 hF
set_option maxHeartbeats 4000000 in
set_option maxRecDepth 100000 in
theorem c_L_cheapestPurge (l : Launch) (G : GG) (n : Nat) (hn : n = 253) (hn2 : n ≤ 253) (hfl : l.stackTraces = false) (x1 : Int32) (x2 : Int32) (C : Mem) (rR : Int32) (CR : Mem) (hF : F_L_cheapestPurge x1 x2 C = some (rR, CR)) : CtW l yL_cheapestPurge cL_cheapestPurge 5 (some .int) [(0, 10, 13, 13)] (rmX 9 155 2 12) 2 12 G n C [.ref (bb G + 0), .int x1, .int x2, .ref (bb G + 252)] rR CR := by
  refine CtW.of (by decide) (Nat.le_of_ble_eq_true rfl) ?_
  intro p e s m below meth c ls hC hr hlk ht hw hl
  have hx := hC.1
  have hb := hC.2.1
  have hS : LW G s s.heap [] := va_S.rf
  have hl : lv_has ls 5 [(0, .ref (bb G + 0)), (1, .int x1), (2, .int x2), (3, .ref (bb G + 252))] := hl
  unfold F_L_cheapestPurge at hF
  refine lv_aload_n hx hb dL_cheapestPurge_0 rfl (lv_at hl 3 rfl) ?_
  refine lv_iconst (v := 0) hx hb dL_cheapestPurge_1 (by decide) ?_
  refine lv_aload_n hx hb dL_cheapestPurge_2 rfl (lv_at hl 0 rfl) ?_
  refine lv_iload_n hx hb dL_cheapestPurge_3 rfl (lv_at hl 1 rfl) ?_
  refine lv_iload_n hx hb dL_cheapestPurge_4 rfl (lv_at hl 2 rfl) ?_
  obtain ⟨r1, C2, hc3, hF⟩ := b2_t hF
  refine call_VXi hC (c_X8_cheapestPurge l G n (by omega) hn2 hfl x1 x2 _ _ _ hc3) wvL_83 ⟨rfl, rfl, by decide, by decide⟩ hw hS (by omega) ca_casc rfl hl.1 rfl (rest := [.int (0 : Int32), .ref (bb G + 252)]) rfl (Nat.le_of_ble_eq_true rfl) dL_cheapestPurge_5 ⟨by decide, by decide⟩ (fun k ce q9 H locs h5 b1 b2 hw hS hce hcv hcl => ?_) (fun v4 H locs h5 hw hS => ?_)
  · have hF := se_r h5 hF
    by_cases k0 : k = 1
    · have hF := it_t k0 hF
      subst k0
      refine m_ct1 hC ht rfl (by decide) kl_13 hce hcv hcl ?_
      refine lv_astore (lv' := [(4, .ref q9), (0, .ref (bb G + 0)), (1, .int x1), (2, .int x2), (3, .ref (bb G + 252))]) hx hb dL_cheapestPurge_13 hl (by decide) rfl (fun ls hl => ?_)
      refine lv_iconst (v := 1) hx hb dL_cheapestPurge_15 (by decide) ?_
      exact m_iretW hC hr hlk hw hS (by decide) (by decide) dL_cheapestPurge_16 hF
    · have hF := it_f k0 hF
      cases hF
  · have hF := se_l h5 hF
    refine lv_i2l (v := (v4).toInt64) hx hb dL_cheapestPurge_8 rfl ?_
    refine st_out (x := v4) hC hw hS hn dL_cheapestPurge_9 (fun H locs hw hS _ => ?_)
    obtain ⟨C6, eC6, hF⟩ := nm_t hF
    have hw := Wd.cast eC6 hw
    refine lv_goto (tgt := 17) hx hb dL_cheapestPurge_10 (by decide) ?_
    refine lv_iconst (v := 0) hx hb dL_cheapestPurge_17 (by decide) ?_
    exact m_iretW hC hr hlk hw hS (by decide) (by decide) dL_cheapestPurge_18 hF
set_option maxHeartbeats 4000000 in
set_option maxRecDepth 100000 in
theorem c_L_runScript (l : Launch) (G : GG) (n : Nat) (hn : n = 253) (hn2 : n ≤ 253) (hfl : l.stackTraces = false) (x1 : Int32) (x2 : Int64) (C : Mem) (rR : Int32) (CR : Mem) (hF : F_L_runScript x1 x2 C = some (rR, CR)) : CtW l yL_runScript cL_runScript 6 (some .int) [(0, 11, 14, 13)] (rmX 8 170 2 12) 2 12 G n C [.ref (bb G + 0), .int x1, .long x2, .ref (bb G + 252)] rR CR := by
  refine CtW.of (by decide) (Nat.le_of_ble_eq_true rfl) ?_
  intro p e s m below meth c ls hC hr hlk ht hw hl
  have hx := hC.1
  have hb := hC.2.1
  have hS : LW G s s.heap [] := va_S.rf
  have hl : lv_has ls 6 [(0, .ref (bb G + 0)), (1, .int x1), (2, .long x2), (4, .ref (bb G + 252))] := hl
  unfold F_L_runScript at hF
  refine lv_aload hx hb dL_runScript_0 (lv_at hl 3 rfl) ?_
  refine lv_iconst (v := 0) hx hb dL_runScript_2 (by decide) ?_
  refine lv_aload_n hx hb dL_runScript_3 rfl (lv_at hl 0 rfl) ?_
  refine lv_iload_n hx hb dL_runScript_4 rfl (lv_at hl 1 rfl) ?_
  refine lv_lload_n hx hb dL_runScript_5 rfl (lv_at hl 2 rfl) ?_
  obtain ⟨r1, C2, hc3, hF⟩ := b2_t hF
  refine call_VXi hC (c_X8_runScript l G n (by omega) hn2 hfl x1 x2 _ _ _ hc3) wvL_86 ⟨rfl, rfl, by decide, by decide⟩ hw hS (by omega) ca_casc rfl hl.1 rfl (rest := [.int (0 : Int32), .ref (bb G + 252)]) rfl (Nat.le_of_ble_eq_true rfl) dL_runScript_6 ⟨by decide, by decide⟩ (fun k ce q9 H locs h5 b1 b2 hw hS hce hcv hcl => ?_) (fun v4 H locs h5 hw hS => ?_)
  · have hF := se_r h5 hF
    by_cases k0 : k = 1
    · have hF := it_t k0 hF
      subst k0
      refine m_ct1 hC ht rfl (by decide) kl_13 hce hcv hcl ?_
      refine lv_astore (lv' := [(5, .ref q9), (0, .ref (bb G + 0)), (1, .int x1), (2, .long x2), (4, .ref (bb G + 252))]) hx hb dL_runScript_14 hl (by decide) rfl (fun ls hl => ?_)
      refine lv_iconst (v := 1) hx hb dL_runScript_16 (by decide) ?_
      exact m_iretW hC hr hlk hw hS (by decide) (by decide) dL_runScript_17 hF
    · have hF := it_f k0 hF
      cases hF
  · have hF := se_l h5 hF
    refine lv_i2l (v := (v4).toInt64) hx hb dL_runScript_9 rfl ?_
    refine st_out (x := v4) hC hw hS hn dL_runScript_10 (fun H locs hw hS _ => ?_)
    obtain ⟨C6, eC6, hF⟩ := nm_t hF
    have hw := Wd.cast eC6 hw
    refine lv_goto (tgt := 18) hx hb dL_runScript_11 (by decide) ?_
    refine lv_iconst (v := 0) hx hb dL_runScript_18 (by decide) ?_
    exact m_iretW hC hr hlk hw hS (by decide) (by decide) dL_runScript_19 hF
set_option maxHeartbeats 4000000 in
set_option maxRecDepth 100000 in
theorem c_L_simulate (l : Launch) (G : GG) (n : Nat) (hn : n = 253) (hn2 : n ≤ 253) (hfl : l.stackTraces = false) (x1 : Int64) (x2 : Int32) (C : Mem) (rR : Int32) (CR : Mem) (hF : F_L_simulate x1 x2 C = some (rR, CR)) : CtW l yL_simulate cL_simulate 6 (some .int) [(0, 11, 14, 13)] (rmX 8 145 1 6) 1 6 G n C [.ref (bb G + 0), .long x1, .int x2, .ref (bb G + 252)] rR CR := by
  refine CtW.of (by decide) (Nat.le_of_ble_eq_true rfl) ?_
  intro p e s m below meth c ls hC hr hlk ht hw hl
  have hx := hC.1
  have hb := hC.2.1
  have hS : LW G s s.heap [] := va_S.rf
  have hl : lv_has ls 6 [(0, .ref (bb G + 0)), (1, .long x1), (3, .int x2), (4, .ref (bb G + 252))] := hl
  unfold F_L_simulate at hF
  refine lv_aload hx hb dL_simulate_0 (lv_at hl 3 rfl) ?_
  refine lv_iconst (v := 0) hx hb dL_simulate_2 (by decide) ?_
  refine lv_aload_n hx hb dL_simulate_3 rfl (lv_at hl 0 rfl) ?_
  refine lv_lload_n hx hb dL_simulate_4 rfl (lv_at hl 1 rfl) ?_
  refine lv_iload_n hx hb dL_simulate_5 rfl (lv_at hl 2 rfl) ?_
  obtain ⟨r1, C2, hc3, hF⟩ := b2_t hF
  refine call_VXi hC (c_X8_simulate l G n (by omega) hn2 hfl x1 x2 _ _ _ hc3) wvL_90 ⟨rfl, rfl, by decide, by decide⟩ hw hS (by omega) ca_casc rfl hl.1 rfl (rest := [.int (0 : Int32), .ref (bb G + 252)]) rfl (Nat.le_of_ble_eq_true rfl) dL_simulate_6 ⟨by decide, by decide⟩ (fun k ce q9 H locs h5 b1 b2 hw hS hce hcv hcl => ?_) (fun v4 H locs h5 hw hS => ?_)
  · have hF := se_r h5 hF
    by_cases k0 : k = 1
    · have hF := it_t k0 hF
      subst k0
      refine m_ct1 hC ht rfl (by decide) kl_13 hce hcv hcl ?_
      refine lv_astore (lv' := [(5, .ref q9), (0, .ref (bb G + 0)), (1, .long x1), (3, .int x2), (4, .ref (bb G + 252))]) hx hb dL_simulate_14 hl (by decide) rfl (fun ls hl => ?_)
      refine lv_iconst (v := 1) hx hb dL_simulate_16 (by decide) ?_
      exact m_iretW hC hr hlk hw hS (by decide) (by decide) dL_simulate_17 hF
    · have hF := it_f k0 hF
      cases hF
  · have hF := se_l h5 hF
    refine lv_i2l (v := (v4).toInt64) hx hb dL_simulate_9 rfl ?_
    refine st_out (x := v4) hC hw hS hn dL_simulate_10 (fun H locs hw hS _ => ?_)
    obtain ⟨C6, eC6, hF⟩ := nm_t hF
    have hw := Wd.cast eC6 hw
    refine lv_goto (tgt := 18) hx hb dL_simulate_11 (by decide) ?_
    refine lv_iconst (v := 0) hx hb dL_simulate_18 (by decide) ?_
    exact m_iretW hC hr hlk hw hS (by decide) (by decide) dL_simulate_19 hF
set_option maxHeartbeats 4000000 in
set_option maxRecDepth 100000 in
theorem c_L_save (l : Launch) (G : GG) (n : Nat) (hn : n = 253) (hn2 : n ≤ 253) (hfl : l.stackTraces = false) (x1 : Int32) (C : Mem) (rR : Int32) (CR : Mem) (hF : F_L_save x1 C = some (rR, CR)) : CtW l yL_save cL_save 4 (some .int) [(0, 9, 12, 28)] (rmX 8 128 1 6) 1 6 G n C [.ref (bb G + 0), .int x1, .ref (bb G + 252)] rR CR := by
  refine CtW.of (by decide) (Nat.le_of_ble_eq_true rfl) ?_
  intro p e s m below meth c ls hC hr hlk ht hw hl
  have hx := hC.1
  have hb := hC.2.1
  have hS : LW G s s.heap [] := va_S.rf
  have hl : lv_has ls 4 [(0, .ref (bb G + 0)), (1, .int x1), (2, .ref (bb G + 252))] := hl
  unfold F_L_save at hF
  refine lv_aload_n hx hb dL_save_0 rfl (lv_at hl 2 rfl) ?_
  refine lv_iconst (v := 0) hx hb dL_save_1 (by decide) ?_
  refine lv_aload_n hx hb dL_save_2 rfl (lv_at hl 0 rfl) ?_
  refine lv_iload_n hx hb dL_save_3 rfl (lv_at hl 1 rfl) ?_
  obtain ⟨r1, C2, hc3, hF⟩ := b2_t hF
  refine call_VXi hC (c_X8_save l G n (by omega) hn2 hfl x1 _ _ _ hc3) wvL_94 ⟨rfl, rfl, by decide, by decide⟩ hw hS (by omega) ca_casc rfl hl.1 rfl (rest := [.int (0 : Int32), .ref (bb G + 252)]) rfl (Nat.le_of_ble_eq_true rfl) dL_save_4 ⟨by decide, by decide⟩ (fun k ce q9 H locs h5 b1 b2 hw hS hce hcv hcl => ?_) (fun v4 H locs h5 hw hS => ?_)
  · have hF := se_r h5 hF
    by_cases k0 : k = 3
    · have hF := it_t k0 hF
      subst k0
      refine m_ct1 hC ht rfl (by decide) kl_28 hce hcv hcl ?_
      refine lv_astore_n (lv' := [(3, .ref q9), (0, .ref (bb G + 0)), (1, .int x1), (2, .ref (bb G + 252))]) hx hb dL_save_12 rfl hl (by decide) rfl (fun ls hl => ?_)
      refine lv_iconst (v := 1) hx hb dL_save_13 (by decide) ?_
      exact m_iretW hC hr hlk hw hS (by decide) (by decide) dL_save_14 hF
    · have hF := it_f k0 hF
      cases hF
  · have hF := se_l h5 hF
    refine lv_i2l (v := (v4).toInt64) hx hb dL_save_7 rfl ?_
    refine st_out (x := v4) hC hw hS hn dL_save_8 (fun H locs hw hS _ => ?_)
    obtain ⟨C6, eC6, hF⟩ := nm_t hF
    have hw := Wd.cast eC6 hw
    refine lv_goto (tgt := 15) hx hb dL_save_9 (by decide) ?_
    refine lv_iconst (v := 0) hx hb dL_save_15 (by decide) ?_
    exact m_iretW hC hr hlk hw hS (by decide) (by decide) dL_save_16 hF
set_option maxHeartbeats 4000000 in
set_option maxRecDepth 100000 in
theorem c_L_restore (l : Launch) (G : GG) (n : Nat) (hn : n = 253) (hn2 : n ≤ 253) (hfl : l.stackTraces = false) (x1 : Int32) (C : Mem) (rR : Int32) (CR : Mem) (hF : F_L_restore x1 C = some (rR, CR)) : CtW l yL_restore cL_restore 4 (some .int) [(0, 9, 12, 28), (0, 9, 15, 15)] (rmX 8 128 2 12) 2 12 G n C [.ref (bb G + 0), .int x1, .ref (bb G + 252)] rR CR := by
  refine CtW.of (by decide) (Nat.le_of_ble_eq_true rfl) ?_
  intro p e s m below meth c ls hC hr hlk ht hw hl
  have hx := hC.1
  have hb := hC.2.1
  have hS : LW G s s.heap [] := va_S.rf
  have hl : lv_has ls 4 [(0, .ref (bb G + 0)), (1, .int x1), (2, .ref (bb G + 252))] := hl
  unfold F_L_restore at hF
  refine lv_aload_n hx hb dL_restore_0 rfl (lv_at hl 2 rfl) ?_
  refine lv_iconst (v := 0) hx hb dL_restore_1 (by decide) ?_
  refine lv_aload_n hx hb dL_restore_2 rfl (lv_at hl 0 rfl) ?_
  refine lv_iload_n hx hb dL_restore_3 rfl (lv_at hl 1 rfl) ?_
  obtain ⟨r1, C2, hc3, hF⟩ := b2_t hF
  refine call_VXi hC (c_X8_restore l G n (by omega) hn2 hfl x1 _ _ _ hc3) wvL_97 ⟨rfl, rfl, by decide, by decide⟩ hw hS (by omega) ca_casc rfl hl.1 rfl (rest := [.int (0 : Int32), .ref (bb G + 252)]) rfl (Nat.le_of_ble_eq_true rfl) dL_restore_4 ⟨by decide, by decide⟩ (fun k ce q9 H locs h5 b1 b2 hw hS hce hcv hcl => ?_) (fun v4 H locs h5 hw hS => ?_)
  · have hF := se_r h5 hF
    by_cases k0 : k = 3
    · have hF := it_t k0 hF
      subst k0
      refine m_ct1 hC ht rfl (by decide) kl_28 hce hcv hcl ?_
      refine lv_astore_n (lv' := [(3, .ref q9), (0, .ref (bb G + 0)), (1, .int x1), (2, .ref (bb G + 252))]) hx hb dL_restore_12 rfl hl (by decide) rfl (fun ls hl => ?_)
      refine lv_iconst (v := 1) hx hb dL_restore_13 (by decide) ?_
      exact m_iretW hC hr hlk hw hS (by decide) (by decide) dL_restore_14 hF
    · have hF := it_f k0 hF
      by_cases k1 : k = 2
      · have hF := it_t k1 hF
        subst k1
        refine m_ct2 hC ht rfl (by decide) (by decide) kl_15 kl_28 (by decide) hce hcv hcl ?_
        refine lv_astore_n (lv' := [(3, .ref q9), (0, .ref (bb G + 0)), (1, .int x1), (2, .ref (bb G + 252))]) hx hb dL_restore_15 rfl hl (by decide) rfl (fun ls hl => ?_)
        refine lv_iconst (v := 2) hx hb dL_restore_16 (by decide) ?_
        exact m_iretW hC hr hlk hw hS (by decide) (by decide) dL_restore_17 hF
      · have hF := it_f k1 hF
        cases hF
  · have hF := se_l h5 hF
    refine lv_i2l (v := (v4).toInt64) hx hb dL_restore_7 rfl ?_
    refine st_out (x := v4) hC hw hS hn dL_restore_8 (fun H locs hw hS _ => ?_)
    obtain ⟨C6, eC6, hF⟩ := nm_t hF
    have hw := Wd.cast eC6 hw
    refine lv_goto (tgt := 18) hx hb dL_restore_9 (by decide) ?_
    refine lv_iconst (v := 0) hx hb dL_restore_18 (by decide) ?_
    exact m_iretW hC hr hlk hw hS (by decide) (by decide) dL_restore_19 hF
