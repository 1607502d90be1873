/-! the methods of the law that call and catch, by program out of the bytecode -/
theorem wvL_7 : WV RL 7 yX8_append cX8_append 2 (some .int) 1 := ⟨(lg 572 (by decide +kernel) rfl), (lg 573 (by decide +kernel) rfl), (lg 574 (by decide +kernel) rfl), (lg 17 (by decide +kernel) rfl), (lg 575 (by decide +kernel) rfl), ⟨by decide +kernel, by decide +kernel⟩, by decide +kernel⟩
theorem wvL_17 : WV RL 17 yX8_load cX8_load 1 (some .int) 0 := ⟨(lg 587 (by decide +kernel) rfl), (lg 588 (by decide +kernel) rfl), (lg 589 (by decide +kernel) rfl), (lg 17 (by decide +kernel) rfl), (lg 590 (by decide +kernel) rfl), ⟨by decide +kernel, by decide +kernel⟩, by decide +kernel⟩
theorem wvL_21 : WV RL 21 yX8_about cX8_about 2 (some .int) 1 := ⟨(lg 383 (by decide +kernel) rfl), (lg 384 (by decide +kernel) rfl), (lg 385 (by decide +kernel) rfl), (lg 17 (by decide +kernel) rfl), (lg 386 (by decide +kernel) rfl), ⟨by decide +kernel, by decide +kernel⟩, by decide +kernel⟩
theorem wvL_24 : WV RL 24 yX8_boiler cX8_boiler 4 (some .int) 2 := ⟨(lg 658 (by decide +kernel) rfl), (lg 659 (by decide +kernel) rfl), (lg 660 (by decide +kernel) rfl), (lg 17 (by decide +kernel) rfl), (lg 661 (by decide +kernel) rfl), ⟨by decide +kernel, by decide +kernel⟩, by decide +kernel⟩
theorem wvL_30 : WV RL 30 yX8_flue cX8_flue 4 (some .int) 2 := ⟨(lg 603 (by decide +kernel) rfl), (lg 604 (by decide +kernel) rfl), (lg 605 (by decide +kernel) rfl), (lg 17 (by decide +kernel) rfl), (lg 606 (by decide +kernel) rfl), ⟨by decide +kernel, by decide +kernel⟩, by decide +kernel⟩
theorem wvL_33 : WV RL 33 yX8_layer cX8_layer 2 (some .int) 1 := ⟨(lg 595 (by decide +kernel) rfl), (lg 596 (by decide +kernel) rfl), (lg 597 (by decide +kernel) rfl), (lg 17 (by decide +kernel) rfl), (lg 598 (by decide +kernel) rfl), ⟨by decide +kernel, by decide +kernel⟩, by decide +kernel⟩
theorem wvL_36 : WV RL 36 yX8_account cX8_account 2 (some .int) 1 := ⟨(lg 647 (by decide +kernel) rfl), (lg 648 (by decide +kernel) rfl), (lg 649 (by decide +kernel) rfl), (lg 17 (by decide +kernel) rfl), (lg 650 (by decide +kernel) rfl), ⟨by decide +kernel, by decide +kernel⟩, by decide +kernel⟩
theorem wvL_39 : WV RL 39 yX8_tick cX8_tick 3 (some .int) 2 := ⟨(lg 678 (by decide +kernel) rfl), (lg 679 (by decide +kernel) rfl), (lg 680 (by decide +kernel) rfl), (lg 17 (by decide +kernel) rfl), (lg 681 (by decide +kernel) rfl), ⟨by decide +kernel, by decide +kernel⟩, by decide +kernel⟩
theorem wvL_42 : WV RL 42 yX8_draw cX8_draw 2 (some .int) 1 := ⟨(lg 754 (by decide +kernel) rfl), (lg 755 (by decide +kernel) rfl), (lg 756 (by decide +kernel) rfl), (lg 17 (by decide +kernel) rfl), (lg 757 (by decide +kernel) rfl), ⟨by decide +kernel, by decide +kernel⟩, by decide +kernel⟩
theorem wvL_45 : WV RL 45 yX8_set cX8_set 4 (some .int) 2 := ⟨(lg 762 (by decide +kernel) rfl), (lg 763 (by decide +kernel) rfl), (lg 764 (by decide +kernel) rfl), (lg 17 (by decide +kernel) rfl), (lg 765 (by decide +kernel) rfl), ⟨by decide +kernel, by decide +kernel⟩, by decide +kernel⟩
theorem wvL_48 : WV RL 48 yX8_setFlue cX8_setFlue 3 (some .int) 2 := ⟨(lg 777 (by decide +kernel) rfl), (lg 778 (by decide +kernel) rfl), (lg 779 (by decide +kernel) rfl), (lg 17 (by decide +kernel) rfl), (lg 780 (by decide +kernel) rfl), ⟨by decide +kernel, by decide +kernel⟩, by decide +kernel⟩
theorem wvL_52 : WV RL 52 yX8_setDraft cX8_setDraft 5 (some .int) 2 := ⟨(lg 788 (by decide +kernel) rfl), (lg 789 (by decide +kernel) rfl), (lg 790 (by decide +kernel) rfl), (lg 17 (by decide +kernel) rfl), (lg 791 (by decide +kernel) rfl), ⟨by decide +kernel, by decide +kernel⟩, by decide +kernel⟩
theorem wvL_55 : WV RL 55 yX8_lock cX8_lock 3 (some .int) 1 := ⟨(lg 795 (by decide +kernel) rfl), (lg 796 (by decide +kernel) rfl), (lg 797 (by decide +kernel) rfl), (lg 17 (by decide +kernel) rfl), (lg 798 (by decide +kernel) rfl), ⟨by decide +kernel, by decide +kernel⟩, by decide +kernel⟩
theorem wvL_58 : WV RL 58 yX8_unlock cX8_unlock 2 (some .int) 1 := ⟨(lg 804 (by decide +kernel) rfl), (lg 805 (by decide +kernel) rfl), (lg 806 (by decide +kernel) rfl), (lg 17 (by decide +kernel) rfl), (lg 807 (by decide +kernel) rfl), ⟨by decide +kernel, by decide +kernel⟩, by decide +kernel⟩
theorem wvL_61 : WV RL 61 yX8_putOff cX8_putOff 2 (some .int) 1 := ⟨(lg 812 (by decide +kernel) rfl), (lg 813 (by decide +kernel) rfl), (lg 814 (by decide +kernel) rfl), (lg 17 (by decide +kernel) rfl), (lg 815 (by decide +kernel) rfl), ⟨by decide +kernel, by decide +kernel⟩, by decide +kernel⟩
theorem wvL_64 : WV RL 64 yX8_undo cX8_undo 1 (some .int) 0 := ⟨(lg 470 (by decide +kernel) rfl), (lg 471 (by decide +kernel) rfl), (lg 472 (by decide +kernel) rfl), (lg 17 (by decide +kernel) rfl), (lg 473 (by decide +kernel) rfl), ⟨by decide +kernel, by decide +kernel⟩, by decide +kernel⟩
theorem wvL_67 : WV RL 67 yX8_whyNot cX8_whyNot 3 (some .int) 1 := ⟨(lg 820 (by decide +kernel) rfl), (lg 821 (by decide +kernel) rfl), (lg 822 (by decide +kernel) rfl), (lg 17 (by decide +kernel) rfl), (lg 823 (by decide +kernel) rfl), ⟨by decide +kernel, by decide +kernel⟩, by decide +kernel⟩
theorem wvL_70 : WV RL 70 yX8_smallestSet cX8_smallestSet 6 (some .int) 2 := ⟨(lg 828 (by decide +kernel) rfl), (lg 829 (by decide +kernel) rfl), (lg 830 (by decide +kernel) rfl), (lg 17 (by decide +kernel) rfl), (lg 831 (by decide +kernel) rfl), ⟨by decide +kernel, by decide +kernel⟩, by decide +kernel⟩
theorem wvL_73 : WV RL 73 yX8_ahead cX8_ahead 6 (some .int) 3 := ⟨(lg 858 (by decide +kernel) rfl), (lg 859 (by decide +kernel) rfl), (lg 860 (by decide +kernel) rfl), (lg 17 (by decide +kernel) rfl), (lg 861 (by decide +kernel) rfl), ⟨by decide +kernel, by decide +kernel⟩, by decide +kernel⟩
theorem wvL_77 : WV RL 77 yX8_warmAfter cX8_warmAfter 4 (some .int) 2 := ⟨(lg 871 (by decide +kernel) rfl), (lg 872 (by decide +kernel) rfl), (lg 873 (by decide +kernel) rfl), (lg 17 (by decide +kernel) rfl), (lg 874 (by decide +kernel) rfl), ⟨by decide +kernel, by decide +kernel⟩, by decide +kernel⟩
theorem wvL_80 : WV RL 80 yX8_bearable cX8_bearable 4 (some .int) 2 := ⟨(lg 878 (by decide +kernel) rfl), (lg 879 (by decide +kernel) rfl), (lg 880 (by decide +kernel) rfl), (lg 17 (by decide +kernel) rfl), (lg 881 (by decide +kernel) rfl), ⟨by decide +kernel, by decide +kernel⟩, by decide +kernel⟩
theorem wvL_83 : WV RL 83 yX8_cheapestPurge cX8_cheapestPurge 7 (some .int) 2 := ⟨(lg 889 (by decide +kernel) rfl), (lg 890 (by decide +kernel) rfl), (lg 891 (by decide +kernel) rfl), (lg 17 (by decide +kernel) rfl), (lg 892 (by decide +kernel) rfl), ⟨by decide +kernel, by decide +kernel⟩, by decide +kernel⟩
theorem wvL_86 : WV RL 86 yX8_runScript cX8_runScript 11 (some .int) 2 := ⟨(lg 896 (by decide +kernel) rfl), (lg 897 (by decide +kernel) rfl), (lg 898 (by decide +kernel) rfl), (lg 17 (by decide +kernel) rfl), (lg 899 (by decide +kernel) rfl), ⟨by decide +kernel, by decide +kernel⟩, by decide +kernel⟩
theorem wvL_90 : WV RL 90 yX8_simulate cX8_simulate 9 (some .int) 2 := ⟨(lg 914 (by decide +kernel) rfl), (lg 915 (by decide +kernel) rfl), (lg 916 (by decide +kernel) rfl), (lg 17 (by decide +kernel) rfl), (lg 917 (by decide +kernel) rfl), ⟨by decide +kernel, by decide +kernel⟩, by decide +kernel⟩
theorem wvL_94 : WV RL 94 yX8_save cX8_save 3 (some .int) 1 := ⟨(lg 518 (by decide +kernel) rfl), (lg 519 (by decide +kernel) rfl), (lg 520 (by decide +kernel) rfl), (lg 17 (by decide +kernel) rfl), (lg 521 (by decide +kernel) rfl), ⟨by decide +kernel, by decide +kernel⟩, by decide +kernel⟩
theorem wvL_97 : WV RL 97 yX8_restore cX8_restore 3 (some .int) 1 := ⟨(lg 545 (by decide +kernel) rfl), (lg 546 (by decide +kernel) rfl), (lg 547 (by decide +kernel) rfl), (lg 17 (by decide +kernel) rfl), (lg 548 (by decide +kernel) rfl), ⟨by decide +kernel, by decide +kernel⟩, by decide +kernel⟩
def F_L_tryAppend (x1 : Int32) (C : Mem) : Option (Int32 × Mem) :=
  b2 (F_X8_append x1 C) fun r1 C2 => Sum.elim (fun v4 =>
  some (v4, C2)) (fun k => (if k = 1 then (
  some ((-1002 : Int32), C2)) else ((if k = 2 then (
  some ((-1003 : Int32), C2)) else (none))))) r1
def F_L_tryLoad  (C : Mem) : Option (Int32 × Mem) :=
  b2 (F_X8_load  C) fun r1 C2 => Sum.elim (fun v4 =>
  some (v4, C2)) (fun k => (if k = 2 then (
  some ((-1003 : Int32), C2)) else (none))) r1
def F_L_tryAbout (x1 : Int32) (C : Mem) : Option (Int32 × Mem) :=
  b2 (F_X8_about x1 C) fun r1 C2 => Sum.elim (fun v4 =>
  some (v4, C2)) (fun k => (if k = 1 then (
  some ((-1002 : Int32), C2)) else (none))) r1
def F_L_tryBoiler (x1 : Int32) (x2 : Int32) (C : Mem) : Option (Int32 × Mem) :=
  b2 (F_X8_boiler x1 x2 C) fun r1 C2 => Sum.elim (fun v4 =>
  some (v4, C2)) (fun k => (if k = 3 then (
  some ((-1001 : Int32), C2)) else ((if k = 1 then (
  some ((-1002 : Int32), C2)) else (none))))) r1
def F_L_tryFlue (x1 : Int32) (x2 : Int32) (C : Mem) : Option (Int32 × Mem) :=
  b2 (F_X8_flue x1 x2 C) fun r1 C2 => Sum.elim (fun v4 =>
  some (v4, C2)) (fun k => (if k = 3 then (
  some ((-1001 : Int32), C2)) else ((if k = 1 then (
  some ((-1002 : Int32), C2)) else (none))))) r1
def F_L_tryLayer (x1 : Int32) (C : Mem) : Option (Int32 × Mem) :=
  b2 (F_X8_layer x1 C) fun r1 C2 => Sum.elim (fun v4 =>
  some (v4, C2)) (fun k => (if k = 3 then (
  some ((-1001 : Int32), C2)) else (none))) r1
def F_L_tryAccount (x1 : Int32) (C : Mem) : Option (Int32 × Mem) :=
  b2 (F_X8_account x1 C) fun r1 C2 => Sum.elim (fun v4 =>
  some (v4, C2)) (fun k => (if k = 1 then (
  some ((-1002 : Int32), C2)) else (none))) r1
def F_L_tryTick (x1 : Int32) (x2 : Int32) (C : Mem) : Option (Int32 × Mem) :=
  b2 (F_X8_tick x1 x2 C) fun r1 C2 => Sum.elim (fun v4 =>
  some (v4, C2)) (fun k => (if k = 1 then (
  some ((-1002 : Int32), C2)) else (none))) r1
def F_L_tryDraw (x1 : Int32) (C : Mem) : Option (Int32 × Mem) :=
  b2 (F_X8_draw x1 C) fun r1 C2 => Sum.elim (fun v4 =>
  some (v4, C2)) (fun k => (if k = 1 then (
  some ((-1002 : Int32), C2)) else (none))) r1
def F_L_trySet (x1 : Int32) (x2 : Int32) (C : Mem) : Option (Int32 × Mem) :=
  b2 (F_X8_set x1 x2 C) fun r1 C2 => Sum.elim (fun v4 =>
  some (v4, C2)) (fun k => (if k = 1 then (
  some ((-1002 : Int32), C2)) else (none))) r1
def F_L_trySetFlue (x1 : Int32) (x2 : Int32) (C : Mem) : Option (Int32 × Mem) :=
  b2 (F_X8_setFlue x1 x2 C) fun r1 C2 => Sum.elim (fun v4 =>
  some (v4, C2)) (fun k => (if k = 3 then (
  some ((-1001 : Int32), C2)) else (none))) r1
def F_L_trySetDraft (x1 : Int32) (x2 : Int32) (C : Mem) : Option (Int32 × Mem) :=
  b2 (F_X8_setDraft x1 x2 C) fun r1 C2 => Sum.elim (fun v4 =>
  some (v4, C2)) (fun k => (if k = 3 then (
  some ((-1001 : Int32), C2)) else ((if k = 1 then (
  some ((-1002 : Int32), C2)) else (none))))) r1
def F_L_tryLock (x1 : Int32) (C : Mem) : Option (Int32 × Mem) :=
  b2 (F_X8_lock x1 C) fun r1 C2 => Sum.elim (fun v4 =>
  some (v4, C2)) (fun k => (if k = 3 then (
  some ((-1001 : Int32), C2)) else ((if k = 2 then (
  some ((-1003 : Int32), C2)) else (none))))) r1
def F_L_tryUnlock (x1 : Int32) (C : Mem) : Option (Int32 × Mem) :=
  b2 (F_X8_unlock x1 C) fun r1 C2 => Sum.elim (fun v4 =>
  some (v4, C2)) (fun k => (if k = 3 then (
  some ((-1001 : Int32), C2)) else ((if k = 2 then (
  some ((-1003 : Int32), C2)) else (none))))) r1
def F_L_tryPutOff (x1 : Int32) (C : Mem) : Option (Int32 × Mem) :=
  b2 (F_X8_putOff x1 C) fun r1 C2 => Sum.elim (fun v4 =>
  some (v4, C2)) (fun k => (if k = 3 then (
  some ((-1001 : Int32), C2)) else ((if k = 2 then (
  some ((-1003 : Int32), C2)) else (none))))) r1
def F_L_tryUndo  (C : Mem) : Option (Int32 × Mem) :=
  b2 (F_X8_undo  C) fun r1 C2 => Sum.elim (fun v4 =>
  some (v4, C2)) (fun k => (if k = 2 then (
  some ((-1003 : Int32), C2)) else (none))) r1
def F_L_tryWhyNot (x1 : Int32) (C : Mem) : Option (Int32 × Mem) :=
  b2 (F_X8_whyNot x1 C) fun r1 C2 => Sum.elim (fun v4 =>
  some (v4, C2)) (fun k => (if k = 3 then (
  some ((-1001 : Int32), C2)) else (none))) r1
def F_L_trySmallestSet (x1 : Int32) (x2 : Int32) (C : Mem) : Option (Int32 × Mem) :=
  b2 (F_X8_smallestSet x1 x2 C) fun r1 C2 => Sum.elim (fun v4 =>
  some (v4, C2)) (fun k => (if k = 1 then (
  some ((-1002 : Int32), C2)) else (none))) r1
def F_L_tryAhead (x1 : Int32) (x2 : Int32) (x3 : Int32) (C : Mem) : Option (Int32 × Mem) :=
  b2 (F_X8_ahead x1 x2 x3 C) fun r1 C2 => Sum.elim (fun v4 =>
  some (v4, C2)) (fun k => (if k = 1 then (
  some ((-1002 : Int32), C2)) else (none))) r1
def F_L_tryWarmAfter (x1 : Int32) (x2 : Int32) (C : Mem) : Option (Int32 × Mem) :=
  b2 (F_X8_warmAfter x1 x2 C) fun r1 C2 => Sum.elim (fun v4 =>
  some (v4, C2)) (fun k => (if k = 1 then (
  some ((-1002 : Int32), C2)) else (none))) r1
def F_L_tryBearable (x1 : Int32) (x2 : Int32) (C : Mem) : Option (Int32 × Mem) :=
  b2 (F_X8_bearable x1 x2 C) fun r1 C2 => Sum.elim (fun v4 =>
  some (v4, C2)) (fun k => (if k = 1 then (
  some ((-1002 : Int32), C2)) else (none))) r1
def F_L_tryCheapestPurge (x1 : Int32) (x2 : Int32) (C : Mem) : Option (Int32 × Mem) :=
  b2 (F_X8_cheapestPurge x1 x2 C) fun r1 C2 => Sum.elim (fun v4 =>
  some (v4, C2)) (fun k => (if k = 1 then (
  some ((-1002 : Int32), C2)) else (none))) r1
def F_L_tryScript (x1 : Int32) (x2 : Int64) (C : Mem) : Option (Int32 × Mem) :=
  b2 (F_X8_runScript x1 x2 C) fun r1 C2 => Sum.elim (fun v4 =>
  some (v4, C2)) (fun k => (if k = 1 then (
  some ((-1002 : Int32), C2)) else (none))) r1
def F_L_trySimulate (x1 : Int64) (x2 : Int32) (C : Mem) : Option (Int32 × Mem) :=
  b2 (F_X8_simulate x1 x2 C) fun r1 C2 => Sum.elim (fun v4 =>
  some (v4, C2)) (fun k => (if k = 1 then (
  some ((-1002 : Int32), C2)) else (none))) r1
def F_L_trySave (x1 : Int32) (C : Mem) : Option (Int32 × Mem) :=
  b2 (F_X8_save x1 C) fun r1 C2 => Sum.elim (fun v4 =>
  some (v4, C2)) (fun k => (if k = 3 then (
  some ((-1001 : Int32), C2)) else (none))) r1
def F_L_tryRestore (x1 : Int32) (C : Mem) : Option (Int32 × Mem) :=
  b2 (F_X8_restore x1 C) fun r1 C2 => Sum.elim (fun v4 =>
  some (v4, C2)) (fun k => (if k = 3 then (
  some ((-1001 : Int32), C2)) else ((if k = 2 then (
  some ((-1003 : Int32), C2)) else (none))))) r1
set_option maxHeartbeats 4000000 in
set_option maxRecDepth 100000 in
theorem c_L_tryAppend (l : Launch) (G : GG) (n : Nat) (hn : 244 ≤ n) (hn2 : 0 ≤ n) (hfl : l.stackTraces = false) (x1 : Int32) (C : Mem) (rR : Int32) (CR : Mem) (hF : F_L_tryAppend x1 C = some (rR, CR)) : CtW l yL_tryAppend cL_tryAppend 3 (some .int) [(0, 5, 6, 13), (0, 5, 11, 15)] (rmX 8 129 2 12) 2 12 G n C [.ref (bb G + 0), .int x1] rR CR := by
  refine CtW.of (by decide) (Nat.le_of_ble_eq_true rfl) ?_
  intro p e s m below meth c ls hC hr hlk ht hw hl
  have hx := hC.1
  have hb := hC.2.1
  have hS : LW G s s.heap [] := va_S.rf
  have hl : lv_has ls 3 [(0, .ref (bb G + 0)), (1, .int x1)] := hl
  unfold F_L_tryAppend at hF
  refine lv_aload_n hx hb dL_tryAppend_0 rfl (lv_at hl 0 rfl) ?_
  refine lv_iload_n hx hb dL_tryAppend_1 rfl (lv_at hl 1 rfl) ?_
  obtain ⟨r1, C2, hc3, hF⟩ := b2_t hF
  refine call_VXi hC (c_X8_append l G n (by omega) hn2 hfl x1 _ _ _ hc3) wvL_7 ⟨rfl, rfl, by decide, by decide⟩ hw hS (by omega) ca_casc rfl hl.1 rfl (rest := []) rfl (Nat.le_of_ble_eq_true rfl) dL_tryAppend_2 ⟨by decide, by decide⟩ (fun k ce q9 H locs h5 b1 b2 hw hS hce hcv hcl => ?_) (fun v4 H locs h5 hw hS => ?_)
  · have hF := se_r h5 hF
    by_cases k0 : k = 1
    · have hF := it_t k0 hF
      subst k0
      refine m_ct1 hC ht rfl (by decide) kl_13 hce hcv hcl ?_
      refine lv_astore_n (lv' := [(2, .ref q9), (0, .ref (bb G + 0)), (1, .int x1)]) hx hb dL_tryAppend_6 rfl hl (by decide) rfl (fun ls hl => ?_)
      refine lv_sipush (v := -1002) hx hb dL_tryAppend_7 (by decide) ?_
      exact m_iretW hC hr hlk hw hS (by decide) (by decide) dL_tryAppend_10 hF
    · have hF := it_f k0 hF
      by_cases k1 : k = 2
      · have hF := it_t k1 hF
        subst k1
        refine m_ct2 hC ht rfl (by decide) (by decide) kl_15 kl_13 (by decide) hce hcv hcl ?_
        refine lv_astore_n (lv' := [(2, .ref q9), (0, .ref (bb G + 0)), (1, .int x1)]) hx hb dL_tryAppend_11 rfl hl (by decide) rfl (fun ls hl => ?_)
        refine lv_sipush (v := -1003) hx hb dL_tryAppend_12 (by decide) ?_
        exact m_iretW hC hr hlk hw hS (by decide) (by decide) dL_tryAppend_15 hF
      · have hF := it_f k1 hF
        cases hF
  · have hF := se_l h5 hF
    exact m_iretW hC hr hlk hw hS (by decide) (by decide) dL_tryAppend_5 hF
set_option maxHeartbeats 4000000 in
set_option maxRecDepth 100000 in
theorem c_L_tryLoad (l : Launch) (G : GG) (n : Nat) (hn : 244 ≤ n) (hn2 : 0 ≤ n) (hfl : l.stackTraces = false)  (C : Mem) (rR : Int32) (CR : Mem) (hF : F_L_tryLoad  C = some (rR, CR)) : CtW l yL_tryLoad cL_tryLoad 2 (some .int) [(0, 4, 5, 15)] (rmX 7 130 1 6) 1 6 G n C [.ref (bb G + 0)] rR CR := by
  refine CtW.of (by decide) (Nat.le_of_ble_eq_true rfl) ?_
  intro p e s m below meth c ls hC hr hlk ht hw hl
  have hx := hC.1
  have hb := hC.2.1
  have hS : LW G s s.heap [] := va_S.rf
  have hl : lv_has ls 2 [(0, .ref (bb G + 0))] := hl
  unfold F_L_tryLoad at hF
  refine lv_aload_n hx hb dL_tryLoad_0 rfl (lv_at hl 0 rfl) ?_
  obtain ⟨r1, C2, hc3, hF⟩ := b2_t hF
  refine call_VXi hC (c_X8_load l G n (by omega) hn2 hfl  _ _ _ hc3) wvL_17 ⟨rfl, rfl, by decide, by decide⟩ hw hS (by omega) ca_casc rfl hl.1 rfl (rest := []) rfl (Nat.le_of_ble_eq_true rfl) dL_tryLoad_1 ⟨by decide, by decide⟩ (fun k ce q9 H locs h5 b1 b2 hw hS hce hcv hcl => ?_) (fun v4 H locs h5 hw hS => ?_)
  · have hF := se_r h5 hF
    by_cases k0 : k = 2
    · have hF := it_t k0 hF
      subst k0
      refine m_ct1 hC ht rfl (by decide) kl_15 hce hcv hcl ?_
      refine lv_astore_n (lv' := [(1, .ref q9), (0, .ref (bb G + 0))]) hx hb dL_tryLoad_5 rfl hl (by decide) rfl (fun ls hl => ?_)
      refine lv_sipush (v := -1003) hx hb dL_tryLoad_6 (by decide) ?_
      exact m_iretW hC hr hlk hw hS (by decide) (by decide) dL_tryLoad_9 hF
    · have hF := it_f k0 hF
      cases hF
  · have hF := se_l h5 hF
    exact m_iretW hC hr hlk hw hS (by decide) (by decide) dL_tryLoad_4 hF
set_option maxHeartbeats 4000000 in
set_option maxRecDepth 100000 in
theorem c_L_tryAbout (l : Launch) (G : GG) (n : Nat) (hn : 244 ≤ n) (hn2 : 0 ≤ n) (hfl : l.stackTraces = false) (x1 : Int32) (C : Mem) (rR : Int32) (CR : Mem) (hF : F_L_tryAbout x1 C = some (rR, CR)) : CtW l yL_tryAbout cL_tryAbout 3 (some .int) [(0, 5, 6, 13)] (rmX 8 129 1 6) 1 6 G n C [.ref (bb G + 0), .int x1] rR CR := by
  refine CtW.of (by decide) (Nat.le_of_ble_eq_true rfl) ?_
  intro p e s m below meth c ls hC hr hlk ht hw hl
  have hx := hC.1
  have hb := hC.2.1
  have hS : LW G s s.heap [] := va_S.rf
  have hl : lv_has ls 3 [(0, .ref (bb G + 0)), (1, .int x1)] := hl
  unfold F_L_tryAbout at hF
  refine lv_aload_n hx hb dL_tryAbout_0 rfl (lv_at hl 0 rfl) ?_
  refine lv_iload_n hx hb dL_tryAbout_1 rfl (lv_at hl 1 rfl) ?_
  obtain ⟨r1, C2, hc3, hF⟩ := b2_t hF
  refine call_VXi hC (c_X8_about l G n (by omega) hn2 hfl x1 _ _ _ hc3) wvL_21 ⟨rfl, rfl, by decide, by decide⟩ hw hS (by omega) ca_casc rfl hl.1 rfl (rest := []) rfl (Nat.le_of_ble_eq_true rfl) dL_tryAbout_2 ⟨by decide, by decide⟩ (fun k ce q9 H locs h5 b1 b2 hw hS hce hcv hcl => ?_) (fun v4 H locs h5 hw hS => ?_)
  · have hF := se_r h5 hF
    by_cases k0 : k = 1
    · have hF := it_t k0 hF
      subst k0
      refine m_ct1 hC ht rfl (by decide) kl_13 hce hcv hcl ?_
      refine lv_astore_n (lv' := [(2, .ref q9), (0, .ref (bb G + 0)), (1, .int x1)]) hx hb dL_tryAbout_6 rfl hl (by decide) rfl (fun ls hl => ?_)
      refine lv_sipush (v := -1002) hx hb dL_tryAbout_7 (by decide) ?_
      exact m_iretW hC hr hlk hw hS (by decide) (by decide) dL_tryAbout_10 hF
    · have hF := it_f k0 hF
      cases hF
  · have hF := se_l h5 hF
    exact m_iretW hC hr hlk hw hS (by decide) (by decide) dL_tryAbout_5 hF
set_option maxHeartbeats 4000000 in
set_option maxRecDepth 100000 in
theorem c_L_tryBoiler (l : Launch) (G : GG) (n : Nat) (hn : 244 ≤ n) (hn2 : 0 ≤ n) (hfl : l.stackTraces = false) (x1 : Int32) (x2 : Int32) (C : Mem) (rR : Int32) (CR : Mem) (hF : F_L_tryBoiler x1 x2 C = some (rR, CR)) : CtW l yL_tryBoiler cL_tryBoiler 4 (some .int) [(0, 6, 7, 28), (0, 6, 12, 13)] (rmX 8 131 2 12) 2 12 G n C [.ref (bb G + 0), .int x1, .int x2] rR CR := by
  refine CtW.of (by decide) (Nat.le_of_ble_eq_true rfl) ?_
  intro p e s m below meth c ls hC hr hlk ht hw hl
  have hx := hC.1
  have hb := hC.2.1
  have hS : LW G s s.heap [] := va_S.rf
  have hl : lv_has ls 4 [(0, .ref (bb G + 0)), (1, .int x1), (2, .int x2)] := hl
  unfold F_L_tryBoiler at hF
  refine lv_aload_n hx hb dL_tryBoiler_0 rfl (lv_at hl 0 rfl) ?_
  refine lv_iload_n hx hb dL_tryBoiler_1 rfl (lv_at hl 1 rfl) ?_
  refine lv_iload_n hx hb dL_tryBoiler_2 rfl (lv_at hl 2 rfl) ?_
  obtain ⟨r1, C2, hc3, hF⟩ := b2_t hF
  refine call_VXi hC (c_X8_boiler l G n (by omega) hn2 hfl x1 x2 _ _ _ hc3) wvL_24 ⟨rfl, rfl, by decide, by decide⟩ hw hS (by omega) ca_casc rfl hl.1 rfl (rest := []) rfl (Nat.le_of_ble_eq_true rfl) dL_tryBoiler_3 ⟨by decide, by decide⟩ (fun k ce q9 H locs h5 b1 b2 hw hS hce hcv hcl => ?_) (fun v4 H locs h5 hw hS => ?_)
  · have hF := se_r h5 hF
    by_cases k0 : k = 3
    · have hF := it_t k0 hF
      subst k0
      refine m_ct1 hC ht rfl (by decide) kl_28 hce hcv hcl ?_
      refine lv_astore_n (lv' := [(3, .ref q9), (0, .ref (bb G + 0)), (1, .int x1), (2, .int x2)]) hx hb dL_tryBoiler_7 rfl hl (by decide) rfl (fun ls hl => ?_)
      refine lv_sipush (v := -1001) hx hb dL_tryBoiler_8 (by decide) ?_
      exact m_iretW hC hr hlk hw hS (by decide) (by decide) dL_tryBoiler_11 hF
    · have hF := it_f k0 hF
      by_cases k1 : k = 1
      · have hF := it_t k1 hF
        subst k1
        refine m_ct2 hC ht rfl (by decide) (by decide) kl_13 kl_28 (by decide) hce hcv hcl ?_
        refine lv_astore_n (lv' := [(3, .ref q9), (0, .ref (bb G + 0)), (1, .int x1), (2, .int x2)]) hx hb dL_tryBoiler_12 rfl hl (by decide) rfl (fun ls hl => ?_)
        refine lv_sipush (v := -1002) hx hb dL_tryBoiler_13 (by decide) ?_
        exact m_iretW hC hr hlk hw hS (by decide) (by decide) dL_tryBoiler_16 hF
      · have hF := it_f k1 hF
        cases hF
  · have hF := se_l h5 hF
    exact m_iretW hC hr hlk hw hS (by decide) (by decide) dL_tryBoiler_6 hF
set_option maxHeartbeats 4000000 in
set_option maxRecDepth 100000 in
theorem c_L_tryFlue (l : Launch) (G : GG) (n : Nat) (hn : 244 ≤ n) (hn2 : 0 ≤ n) (hfl : l.stackTraces = false) (x1 : Int32) (x2 : Int32) (C : Mem) (rR : Int32) (CR : Mem) (hF : F_L_tryFlue x1 x2 C = some (rR, CR)) : CtW l yL_tryFlue cL_tryFlue 4 (some .int) [(0, 6, 7, 28), (0, 6, 12, 13)] (rmX 8 131 2 12) 2 12 G n C [.ref (bb G + 0), .int x1, .int x2] rR CR := by
  refine CtW.of (by decide) (Nat.le_of_ble_eq_true rfl) ?_
  intro p e s m below meth c ls hC hr hlk ht hw hl
  have hx := hC.1
  have hb := hC.2.1
  have hS : LW G s s.heap [] := va_S.rf
  have hl : lv_has ls 4 [(0, .ref (bb G + 0)), (1, .int x1), (2, .int x2)] := hl
  unfold F_L_tryFlue at hF
  refine lv_aload_n hx hb dL_tryFlue_0 rfl (lv_at hl 0 rfl) ?_
  refine lv_iload_n hx hb dL_tryFlue_1 rfl (lv_at hl 1 rfl) ?_
  refine lv_iload_n hx hb dL_tryFlue_2 rfl (lv_at hl 2 rfl) ?_
  obtain ⟨r1, C2, hc3, hF⟩ := b2_t hF
  refine call_VXi hC (c_X8_flue l G n (by omega) hn2 hfl x1 x2 _ _ _ hc3) wvL_30 ⟨rfl, rfl, by decide, by decide⟩ hw hS (by omega) ca_casc rfl hl.1 rfl (rest := []) rfl (Nat.le_of_ble_eq_true rfl) dL_tryFlue_3 ⟨by decide, by decide⟩ (fun k ce q9 H locs h5 b1 b2 hw hS hce hcv hcl => ?_) (fun v4 H locs h5 hw hS => ?_)
  · have hF := se_r h5 hF
    by_cases k0 : k = 3
    · have hF := it_t k0 hF
      subst k0
      refine m_ct1 hC ht rfl (by decide) kl_28 hce hcv hcl ?_
      refine lv_astore_n (lv' := [(3, .ref q9), (0, .ref (bb G + 0)), (1, .int x1), (2, .int x2)]) hx hb dL_tryFlue_7 rfl hl (by decide) rfl (fun ls hl => ?_)
      refine lv_sipush (v := -1001) hx hb dL_tryFlue_8 (by decide) ?_
      exact m_iretW hC hr hlk hw hS (by decide) (by decide) dL_tryFlue_11 hF
    · have hF := it_f k0 hF
      by_cases k1 : k = 1
      · have hF := it_t k1 hF
        subst k1
        refine m_ct2 hC ht rfl (by decide) (by decide) kl_13 kl_28 (by decide) hce hcv hcl ?_
        refine lv_astore_n (lv' := [(3, .ref q9), (0, .ref (bb G + 0)), (1, .int x1), (2, .int x2)]) hx hb dL_tryFlue_12 rfl hl (by decide) rfl (fun ls hl => ?_)
        refine lv_sipush (v := -1002) hx hb dL_tryFlue_13 (by decide) ?_
        exact m_iretW hC hr hlk hw hS (by decide) (by decide) dL_tryFlue_16 hF
      · have hF := it_f k1 hF
        cases hF
  · have hF := se_l h5 hF
    exact m_iretW hC hr hlk hw hS (by decide) (by decide) dL_tryFlue_6 hF
set_option maxHeartbeats 4000000 in
set_option maxRecDepth 100000 in
theorem c_L_tryLayer (l : Launch) (G : GG) (n : Nat) (hn : 244 ≤ n) (hn2 : 0 ≤ n) (hfl : l.stackTraces = false) (x1 : Int32) (C : Mem) (rR : Int32) (CR : Mem) (hF : F_L_tryLayer x1 C = some (rR, CR)) : CtW l yL_tryLayer cL_tryLayer 3 (some .int) [(0, 5, 6, 28)] (rmX 7 107 1 6) 1 6 G n C [.ref (bb G + 0), .int x1] rR CR := by
  refine CtW.of (by decide) (Nat.le_of_ble_eq_true rfl) ?_
  intro p e s m below meth c ls hC hr hlk ht hw hl
  have hx := hC.1
  have hb := hC.2.1
  have hS : LW G s s.heap [] := va_S.rf
  have hl : lv_has ls 3 [(0, .ref (bb G + 0)), (1, .int x1)] := hl
  unfold F_L_tryLayer at hF
  refine lv_aload_n hx hb dL_tryLayer_0 rfl (lv_at hl 0 rfl) ?_
  refine lv_iload_n hx hb dL_tryLayer_1 rfl (lv_at hl 1 rfl) ?_
  obtain ⟨r1, C2, hc3, hF⟩ := b2_t hF
  refine call_VXi hC (c_X8_layer l G n (by omega) hn2 hfl x1 _ _ _ hc3) wvL_33 ⟨rfl, rfl, by decide, by decide⟩ hw hS (by omega) ca_casc rfl hl.1 rfl (rest := []) rfl (Nat.le_of_ble_eq_true rfl) dL_tryLayer_2 ⟨by decide, by decide⟩ (fun k ce q9 H locs h5 b1 b2 hw hS hce hcv hcl => ?_) (fun v4 H locs h5 hw hS => ?_)
  · have hF := se_r h5 hF
    by_cases k0 : k = 3
    · have hF := it_t k0 hF
      subst k0
      refine m_ct1 hC ht rfl (by decide) kl_28 hce hcv hcl ?_
      refine lv_astore_n (lv' := [(2, .ref q9), (0, .ref (bb G + 0)), (1, .int x1)]) hx hb dL_tryLayer_6 rfl hl (by decide) rfl (fun ls hl => ?_)
      refine lv_sipush (v := -1001) hx hb dL_tryLayer_7 (by decide) ?_
      exact m_iretW hC hr hlk hw hS (by decide) (by decide) dL_tryLayer_10 hF
    · have hF := it_f k0 hF
      cases hF
  · have hF := se_l h5 hF
    exact m_iretW hC hr hlk hw hS (by decide) (by decide) dL_tryLayer_5 hF
set_option maxHeartbeats 4000000 in
set_option maxRecDepth 100000 in
theorem c_L_tryAccount (l : Launch) (G : GG) (n : Nat) (hn : 244 ≤ n) (hn2 : 0 ≤ n) (hfl : l.stackTraces = false) (x1 : Int32) (C : Mem) (rR : Int32) (CR : Mem) (hF : F_L_tryAccount x1 C = some (rR, CR)) : CtW l yL_tryAccount cL_tryAccount 3 (some .int) [(0, 5, 6, 13)] (rmX 8 129 1 6) 1 6 G n C [.ref (bb G + 0), .int x1] rR CR := by
  refine CtW.of (by decide) (Nat.le_of_ble_eq_true rfl) ?_
  intro p e s m below meth c ls hC hr hlk ht hw hl
  have hx := hC.1
  have hb := hC.2.1
  have hS : LW G s s.heap [] := va_S.rf
  have hl : lv_has ls 3 [(0, .ref (bb G + 0)), (1, .int x1)] := hl
  unfold F_L_tryAccount at hF
  refine lv_aload_n hx hb dL_tryAccount_0 rfl (lv_at hl 0 rfl) ?_
  refine lv_iload_n hx hb dL_tryAccount_1 rfl (lv_at hl 1 rfl) ?_
  obtain ⟨r1, C2, hc3, hF⟩ := b2_t hF
  refine call_VXi hC (c_X8_account l G n (by omega) hn2 hfl x1 _ _ _ hc3) wvL_36 ⟨rfl, rfl, by decide, by decide⟩ hw hS (by omega) ca_casc rfl hl.1 rfl (rest := []) rfl (Nat.le_of_ble_eq_true rfl) dL_tryAccount_2 ⟨by decide, by decide⟩ (fun k ce q9 H locs h5 b1 b2 hw hS hce hcv hcl => ?_) (fun v4 H locs h5 hw hS => ?_)
  · have hF := se_r h5 hF
    by_cases k0 : k = 1
    · have hF := it_t k0 hF
      subst k0
      refine m_ct1 hC ht rfl (by decide) kl_13 hce hcv hcl ?_
      refine lv_astore_n (lv' := [(2, .ref q9), (0, .ref (bb G + 0)), (1, .int x1)]) hx hb dL_tryAccount_6 rfl hl (by decide) rfl (fun ls hl => ?_)
      refine lv_sipush (v := -1002) hx hb dL_tryAccount_7 (by decide) ?_
      exact m_iretW hC hr hlk hw hS (by decide) (by decide) dL_tryAccount_10 hF
    · have hF := it_f k0 hF
      cases hF
  · have hF := se_l h5 hF
    exact m_iretW hC hr hlk hw hS (by decide) (by decide) dL_tryAccount_5 hF
set_option maxHeartbeats 4000000 in
set_option maxRecDepth 100000 in
theorem c_L_tryTick (l : Launch) (G : GG) (n : Nat) (hn : 244 ≤ n) (hn2 : 0 ≤ n) (hfl : l.stackTraces = false) (x1 : Int32) (x2 : Int32) (C : Mem) (rR : Int32) (CR : Mem) (hF : F_L_tryTick x1 x2 C = some (rR, CR)) : CtW l yL_tryTick cL_tryTick 4 (some .int) [(0, 6, 7, 13)] (rmX 9 151 2 12) 2 12 G n C [.ref (bb G + 0), .int x1, .int x2] rR CR := by
  refine CtW.of (by decide) (Nat.le_of_ble_eq_true rfl) ?_
  intro p e s m below meth c ls hC hr hlk ht hw hl
  have hx := hC.1
  have hb := hC.2.1
  have hS : LW G s s.heap [] := va_S.rf
  have hl : lv_has ls 4 [(0, .ref (bb G + 0)), (1, .int x1), (2, .int x2)] := hl
  unfold F_L_tryTick at hF
  refine lv_aload_n hx hb dL_tryTick_0 rfl (lv_at hl 0 rfl) ?_
  refine lv_iload_n hx hb dL_tryTick_1 rfl (lv_at hl 1 rfl) ?_
  refine lv_iload_n hx hb dL_tryTick_2 rfl (lv_at hl 2 rfl) ?_
  obtain ⟨r1, C2, hc3, hF⟩ := b2_t hF
  refine call_VXi hC (c_X8_tick l G n (by omega) hn2 hfl x1 x2 _ _ _ hc3) wvL_39 ⟨rfl, rfl, by decide, by decide⟩ hw hS (by omega) ca_casc rfl hl.1 rfl (rest := []) rfl (Nat.le_of_ble_eq_true rfl) dL_tryTick_3 ⟨by decide, by decide⟩ (fun k ce q9 H locs h5 b1 b2 hw hS hce hcv hcl => ?_) (fun v4 H locs h5 hw hS => ?_)
  · have hF := se_r h5 hF
    by_cases k0 : k = 1
    · have hF := it_t k0 hF
      subst k0
      refine m_ct1 hC ht rfl (by decide) kl_13 hce hcv hcl ?_
      refine lv_astore_n (lv' := [(3, .ref q9), (0, .ref (bb G + 0)), (1, .int x1), (2, .int x2)]) hx hb dL_tryTick_7 rfl hl (by decide) rfl (fun ls hl => ?_)
      refine lv_sipush (v := -1002) hx hb dL_tryTick_8 (by decide) ?_
      exact m_iretW hC hr hlk hw hS (by decide) (by decide) dL_tryTick_11 hF
    · have hF := it_f k0 hF
      cases hF
  · have hF := se_l h5 hF
    exact m_iretW hC hr hlk hw hS (by decide) (by decide) dL_tryTick_6 hF
set_option maxHeartbeats 4000000 in
set_option maxRecDepth 100000 in
theorem c_L_tryDraw (l : Launch) (G : GG) (n : Nat) (hn : 244 ≤ n) (hn2 : 0 ≤ n) (hfl : l.stackTraces = false) (x1 : Int32) (C : Mem) (rR : Int32) (CR : Mem) (hF : F_L_tryDraw x1 C = some (rR, CR)) : CtW l yL_tryDraw cL_tryDraw 3 (some .int) [(0, 5, 6, 13)] (rmX 8 129 1 6) 1 6 G n C [.ref (bb G + 0), .int x1] rR CR := by
  refine CtW.of (by decide) (Nat.le_of_ble_eq_true rfl) ?_
  intro p e s m below meth c ls hC hr hlk ht hw hl
  have hx := hC.1
  have hb := hC.2.1
  have hS : LW G s s.heap [] := va_S.rf
  have hl : lv_has ls 3 [(0, .ref (bb G + 0)), (1, .int x1)] := hl
  unfold F_L_tryDraw at hF
  refine lv_aload_n hx hb dL_tryDraw_0 rfl (lv_at hl 0 rfl) ?_
  refine lv_iload_n hx hb dL_tryDraw_1 rfl (lv_at hl 1 rfl) ?_
  obtain ⟨r1, C2, hc3, hF⟩ := b2_t hF
  refine call_VXi hC (c_X8_draw l G n (by omega) hn2 hfl x1 _ _ _ hc3) wvL_42 ⟨rfl, rfl, by decide, by decide⟩ hw hS (by omega) ca_casc rfl hl.1 rfl (rest := []) rfl (Nat.le_of_ble_eq_true rfl) dL_tryDraw_2 ⟨by decide, by decide⟩ (fun k ce q9 H locs h5 b1 b2 hw hS hce hcv hcl => ?_) (fun v4 H locs h5 hw hS => ?_)
  · have hF := se_r h5 hF
    by_cases k0 : k = 1
    · have hF := it_t k0 hF
      subst k0
      refine m_ct1 hC ht rfl (by decide) kl_13 hce hcv hcl ?_
      refine lv_astore_n (lv' := [(2, .ref q9), (0, .ref (bb G + 0)), (1, .int x1)]) hx hb dL_tryDraw_6 rfl hl (by decide) rfl (fun ls hl => ?_)
      refine lv_sipush (v := -1002) hx hb dL_tryDraw_7 (by decide) ?_
      exact m_iretW hC hr hlk hw hS (by decide) (by decide) dL_tryDraw_10 hF
    · have hF := it_f k0 hF
      cases hF
  · have hF := se_l h5 hF
    exact m_iretW hC hr hlk hw hS (by decide) (by decide) dL_tryDraw_5 hF
set_option maxHeartbeats 4000000 in
set_option maxRecDepth 100000 in
theorem c_L_trySet (l : Launch) (G : GG) (n : Nat) (hn : 244 ≤ n) (hn2 : 0 ≤ n) (hfl : l.stackTraces = false) (x1 : Int32) (x2 : Int32) (C : Mem) (rR : Int32) (CR : Mem) (hF : F_L_trySet x1 x2 C = some (rR, CR)) : CtW l yL_trySet cL_trySet 4 (some .int) [(0, 6, 7, 13)] (rmX 7 109 1 6) 1 6 G n C [.ref (bb G + 0), .int x1, .int x2] rR CR := by
  refine CtW.of (by decide) (Nat.le_of_ble_eq_true rfl) ?_
  intro p e s m below meth c ls hC hr hlk ht hw hl
  have hx := hC.1
  have hb := hC.2.1
  have hS : LW G s s.heap [] := va_S.rf
  have hl : lv_has ls 4 [(0, .ref (bb G + 0)), (1, .int x1), (2, .int x2)] := hl
  unfold F_L_trySet at hF
  refine lv_aload_n hx hb dL_trySet_0 rfl (lv_at hl 0 rfl) ?_
  refine lv_iload_n hx hb dL_trySet_1 rfl (lv_at hl 1 rfl) ?_
  refine lv_iload_n hx hb dL_trySet_2 rfl (lv_at hl 2 rfl) ?_
  obtain ⟨r1, C2, hc3, hF⟩ := b2_t hF
  refine call_VXi hC (c_X8_set l G n (by omega) hn2 hfl x1 x2 _ _ _ hc3) wvL_45 ⟨rfl, rfl, by decide, by decide⟩ hw hS (by omega) ca_casc rfl hl.1 rfl (rest := []) rfl (Nat.le_of_ble_eq_true rfl) dL_trySet_3 ⟨by decide, by decide⟩ (fun k ce q9 H locs h5 b1 b2 hw hS hce hcv hcl => ?_) (fun v4 H locs h5 hw hS => ?_)
  · have hF := se_r h5 hF
    by_cases k0 : k = 1
    · have hF := it_t k0 hF
      subst k0
      refine m_ct1 hC ht rfl (by decide) kl_13 hce hcv hcl ?_
      refine lv_astore_n (lv' := [(3, .ref q9), (0, .ref (bb G + 0)), (1, .int x1), (2, .int x2)]) hx hb dL_trySet_7 rfl hl (by decide) rfl (fun ls hl => ?_)
      refine lv_sipush (v := -1002) hx hb dL_trySet_8 (by decide) ?_
      exact m_iretW hC hr hlk hw hS (by decide) (by decide) dL_trySet_11 hF
    · have hF := it_f k0 hF
      cases hF
  · have hF := se_l h5 hF
    exact m_iretW hC hr hlk hw hS (by decide) (by decide) dL_trySet_6 hF
set_option maxHeartbeats 4000000 in
set_option maxRecDepth 100000 in
theorem c_L_trySetFlue (l : Launch) (G : GG) (n : Nat) (hn : 244 ≤ n) (hn2 : 0 ≤ n) (hfl : l.stackTraces = false) (x1 : Int32) (x2 : Int32) (C : Mem) (rR : Int32) (CR : Mem) (hF : F_L_trySetFlue x1 x2 C = some (rR, CR)) : CtW l yL_trySetFlue cL_trySetFlue 4 (some .int) [(0, 6, 7, 28)] (rmX 8 128 1 6) 1 6 G n C [.ref (bb G + 0), .int x1, .int x2] rR CR := by
  refine CtW.of (by decide) (Nat.le_of_ble_eq_true rfl) ?_
  intro p e s m below meth c ls hC hr hlk ht hw hl
  have hx := hC.1
  have hb := hC.2.1
  have hS : LW G s s.heap [] := va_S.rf
  have hl : lv_has ls 4 [(0, .ref (bb G + 0)), (1, .int x1), (2, .int x2)] := hl
  unfold F_L_trySetFlue at hF
  refine lv_aload_n hx hb dL_trySetFlue_0 rfl (lv_at hl 0 rfl) ?_
  refine lv_iload_n hx hb dL_trySetFlue_1 rfl (lv_at hl 1 rfl) ?_
  refine lv_iload_n hx hb dL_trySetFlue_2 rfl (lv_at hl 2 rfl) ?_
  obtain ⟨r1, C2, hc3, hF⟩ := b2_t hF
  refine call_VXi hC (c_X8_setFlue l G n (by omega) hn2 hfl x1 x2 _ _ _ hc3) wvL_48 ⟨rfl, rfl, by decide, by decide⟩ hw hS (by omega) ca_casc rfl hl.1 rfl (rest := []) rfl (Nat.le_of_ble_eq_true rfl) dL_trySetFlue_3 ⟨by decide, by decide⟩ (fun k ce q9 H locs h5 b1 b2 hw hS hce hcv hcl => ?_) (fun v4 H locs h5 hw hS => ?_)
  · have hF := se_r h5 hF
    by_cases k0 : k = 3
    · have hF := it_t k0 hF
      subst k0
      refine m_ct1 hC ht rfl (by decide) kl_28 hce hcv hcl ?_
      refine lv_astore_n (lv' := [(3, .ref q9), (0, .ref (bb G + 0)), (1, .int x1), (2, .int x2)]) hx hb dL_trySetFlue_7 rfl hl (by decide) rfl (fun ls hl => ?_)
      refine lv_sipush (v := -1001) hx hb dL_trySetFlue_8 (by decide) ?_
      exact m_iretW hC hr hlk hw hS (by decide) (by decide) dL_trySetFlue_11 hF
    · have hF := it_f k0 hF
      cases hF
  · have hF := se_l h5 hF
    exact m_iretW hC hr hlk hw hS (by decide) (by decide) dL_trySetFlue_6 hF
set_option maxHeartbeats 4000000 in
set_option maxRecDepth 100000 in
theorem c_L_trySetDraft (l : Launch) (G : GG) (n : Nat) (hn : 244 ≤ n) (hn2 : 0 ≤ n) (hfl : l.stackTraces = false) (x1 : Int32) (x2 : Int32) (C : Mem) (rR : Int32) (CR : Mem) (hF : F_L_trySetDraft x1 x2 C = some (rR, CR)) : CtW l yL_trySetDraft cL_trySetDraft 4 (some .int) [(0, 6, 7, 28), (0, 6, 12, 13)] (rmX 8 132 2 12) 2 12 G n C [.ref (bb G + 0), .int x1, .int x2] rR CR := by
  refine CtW.of (by decide) (Nat.le_of_ble_eq_true rfl) ?_
  intro p e s m below meth c ls hC hr hlk ht hw hl
  have hx := hC.1
  have hb := hC.2.1
  have hS : LW G s s.heap [] := va_S.rf
  have hl : lv_has ls 4 [(0, .ref (bb G + 0)), (1, .int x1), (2, .int x2)] := hl
  unfold F_L_trySetDraft at hF
  refine lv_aload_n hx hb dL_trySetDraft_0 rfl (lv_at hl 0 rfl) ?_
  refine lv_iload_n hx hb dL_trySetDraft_1 rfl (lv_at hl 1 rfl) ?_
  refine lv_iload_n hx hb dL_trySetDraft_2 rfl (lv_at hl 2 rfl) ?_
  obtain ⟨r1, C2, hc3, hF⟩ := b2_t hF
  refine call_VXi hC (c_X8_setDraft l G n (by omega) hn2 hfl x1 x2 _ _ _ hc3) wvL_52 ⟨rfl, rfl, by decide, by decide⟩ hw hS (by omega) ca_casc rfl hl.1 rfl (rest := []) rfl (Nat.le_of_ble_eq_true rfl) dL_trySetDraft_3 ⟨by decide, by decide⟩ (fun k ce q9 H locs h5 b1 b2 hw hS hce hcv hcl => ?_) (fun v4 H locs h5 hw hS => ?_)
  · have hF := se_r h5 hF
    by_cases k0 : k = 3
    · have hF := it_t k0 hF
      subst k0
      refine m_ct1 hC ht rfl (by decide) kl_28 hce hcv hcl ?_
      refine lv_astore_n (lv' := [(3, .ref q9), (0, .ref (bb G + 0)), (1, .int x1), (2, .int x2)]) hx hb dL_trySetDraft_7 rfl hl (by decide) rfl (fun ls hl => ?_)
      refine lv_sipush (v := -1001) hx hb dL_trySetDraft_8 (by decide) ?_
      exact m_iretW hC hr hlk hw hS (by decide) (by decide) dL_trySetDraft_11 hF
    · have hF := it_f k0 hF
      by_cases k1 : k = 1
      · have hF := it_t k1 hF
        subst k1
        refine m_ct2 hC ht rfl (by decide) (by decide) kl_13 kl_28 (by decide) hce hcv hcl ?_
        refine lv_astore_n (lv' := [(3, .ref q9), (0, .ref (bb G + 0)), (1, .int x1), (2, .int x2)]) hx hb dL_trySetDraft_12 rfl hl (by decide) rfl (fun ls hl => ?_)
        refine lv_sipush (v := -1002) hx hb dL_trySetDraft_13 (by decide) ?_
        exact m_iretW hC hr hlk hw hS (by decide) (by decide) dL_trySetDraft_16 hF
      · have hF := it_f k1 hF
        cases hF
  · have hF := se_l h5 hF
    exact m_iretW hC hr hlk hw hS (by decide) (by decide) dL_trySetDraft_6 hF
set_option maxHeartbeats 4000000 in
set_option maxRecDepth 100000 in
theorem c_L_tryLock (l : Launch) (G : GG) (n : Nat) (hn : 244 ≤ n) (hn2 : 0 ≤ n) (hfl : l.stackTraces = false) (x1 : Int32) (C : Mem) (rR : Int32) (CR : Mem) (hF : F_L_tryLock x1 C = some (rR, CR)) : CtW l yL_tryLock cL_tryLock 3 (some .int) [(0, 5, 6, 28), (0, 5, 11, 15)] (rmX 8 129 2 12) 2 12 G n C [.ref (bb G + 0), .int x1] rR CR := by
  refine CtW.of (by decide) (Nat.le_of_ble_eq_true rfl) ?_
  intro p e s m below meth c ls hC hr hlk ht hw hl
  have hx := hC.1
  have hb := hC.2.1
  have hS : LW G s s.heap [] := va_S.rf
  have hl : lv_has ls 3 [(0, .ref (bb G + 0)), (1, .int x1)] := hl
  unfold F_L_tryLock at hF
  refine lv_aload_n hx hb dL_tryLock_0 rfl (lv_at hl 0 rfl) ?_
  refine lv_iload_n hx hb dL_tryLock_1 rfl (lv_at hl 1 rfl) ?_
  obtain ⟨r1, C2, hc3, hF⟩ := b2_t hF
  refine call_VXi hC (c_X8_lock l G n (by omega) hn2 hfl x1 _ _ _ hc3) wvL_55 ⟨rfl, rfl, by decide, by decide⟩ hw hS (by omega) ca_casc rfl hl.1 rfl (rest := []) rfl (Nat.le_of_ble_eq_true rfl) dL_tryLock_2 ⟨by decide, by decide⟩ (fun k ce q9 H locs h5 b1 b2 hw hS hce hcv hcl => ?_) (fun v4 H locs h5 hw hS => ?_)
  · have hF := se_r h5 hF
    by_cases k0 : k = 3
    · have hF := it_t k0 hF
      subst k0
      refine m_ct1 hC ht rfl (by decide) kl_28 hce hcv hcl ?_
      refine lv_astore_n (lv' := [(2, .ref q9), (0, .ref (bb G + 0)), (1, .int x1)]) hx hb dL_tryLock_6 rfl hl (by decide) rfl (fun ls hl => ?_)
      refine lv_sipush (v := -1001) hx hb dL_tryLock_7 (by decide) ?_
      exact m_iretW hC hr hlk hw hS (by decide) (by decide) dL_tryLock_10 hF
    · have hF := it_f k0 hF
      by_cases k1 : k = 2
      · have hF := it_t k1 hF
        subst k1
        refine m_ct2 hC ht rfl (by decide) (by decide) kl_15 kl_28 (by decide) hce hcv hcl ?_
        refine lv_astore_n (lv' := [(2, .ref q9), (0, .ref (bb G + 0)), (1, .int x1)]) hx hb dL_tryLock_11 rfl hl (by decide) rfl (fun ls hl => ?_)
        refine lv_sipush (v := -1003) hx hb dL_tryLock_12 (by decide) ?_
        exact m_iretW hC hr hlk hw hS (by decide) (by decide) dL_tryLock_15 hF
      · have hF := it_f k1 hF
        cases hF
  · have hF := se_l h5 hF
    exact m_iretW hC hr hlk hw hS (by decide) (by decide) dL_tryLock_5 hF
set_option maxHeartbeats 4000000 in
set_option maxRecDepth 100000 in
theorem c_L_tryUnlock (l : Launch) (G : GG) (n : Nat) (hn : 244 ≤ n) (hn2 : 0 ≤ n) (hfl : l.stackTraces = false) (x1 : Int32) (C : Mem) (rR : Int32) (CR : Mem) (hF : F_L_tryUnlock x1 C = some (rR, CR)) : CtW l yL_tryUnlock cL_tryUnlock 3 (some .int) [(0, 5, 6, 28), (0, 5, 11, 15)] (rmX 8 128 2 12) 2 12 G n C [.ref (bb G + 0), .int x1] rR CR := by
  refine CtW.of (by decide) (Nat.le_of_ble_eq_true rfl) ?_
  intro p e s m below meth c ls hC hr hlk ht hw hl
  have hx := hC.1
  have hb := hC.2.1
  have hS : LW G s s.heap [] := va_S.rf
  have hl : lv_has ls 3 [(0, .ref (bb G + 0)), (1, .int x1)] := hl
  unfold F_L_tryUnlock at hF
  refine lv_aload_n hx hb dL_tryUnlock_0 rfl (lv_at hl 0 rfl) ?_
  refine lv_iload_n hx hb dL_tryUnlock_1 rfl (lv_at hl 1 rfl) ?_
  obtain ⟨r1, C2, hc3, hF⟩ := b2_t hF
  refine call_VXi hC (c_X8_unlock l G n (by omega) hn2 hfl x1 _ _ _ hc3) wvL_58 ⟨rfl, rfl, by decide, by decide⟩ hw hS (by omega) ca_casc rfl hl.1 rfl (rest := []) rfl (Nat.le_of_ble_eq_true rfl) dL_tryUnlock_2 ⟨by decide, by decide⟩ (fun k ce q9 H locs h5 b1 b2 hw hS hce hcv hcl => ?_) (fun v4 H locs h5 hw hS => ?_)
  · have hF := se_r h5 hF
    by_cases k0 : k = 3
    · have hF := it_t k0 hF
      subst k0
      refine m_ct1 hC ht rfl (by decide) kl_28 hce hcv hcl ?_
      refine lv_astore_n (lv' := [(2, .ref q9), (0, .ref (bb G + 0)), (1, .int x1)]) hx hb dL_tryUnlock_6 rfl hl (by decide) rfl (fun ls hl => ?_)
      refine lv_sipush (v := -1001) hx hb dL_tryUnlock_7 (by decide) ?_
      exact m_iretW hC hr hlk hw hS (by decide) (by decide) dL_tryUnlock_10 hF
    · have hF := it_f k0 hF
      by_cases k1 : k = 2
      · have hF := it_t k1 hF
        subst k1
        refine m_ct2 hC ht rfl (by decide) (by decide) kl_15 kl_28 (by decide) hce hcv hcl ?_
        refine lv_astore_n (lv' := [(2, .ref q9), (0, .ref (bb G + 0)), (1, .int x1)]) hx hb dL_tryUnlock_11 rfl hl (by decide) rfl (fun ls hl => ?_)
        refine lv_sipush (v := -1003) hx hb dL_tryUnlock_12 (by decide) ?_
        exact m_iretW hC hr hlk hw hS (by decide) (by decide) dL_tryUnlock_15 hF
      · have hF := it_f k1 hF
        cases hF
  · have hF := se_l h5 hF
    exact m_iretW hC hr hlk hw hS (by decide) (by decide) dL_tryUnlock_5 hF
set_option maxHeartbeats 4000000 in
set_option maxRecDepth 100000 in
theorem c_L_tryPutOff (l : Launch) (G : GG) (n : Nat) (hn : 244 ≤ n) (hn2 : 0 ≤ n) (hfl : l.stackTraces = false) (x1 : Int32) (C : Mem) (rR : Int32) (CR : Mem) (hF : F_L_tryPutOff x1 C = some (rR, CR)) : CtW l yL_tryPutOff cL_tryPutOff 3 (some .int) [(0, 5, 6, 28), (0, 5, 11, 15)] (rmX 8 128 2 12) 2 12 G n C [.ref (bb G + 0), .int x1] rR CR := by
  refine CtW.of (by decide) (Nat.le_of_ble_eq_true rfl) ?_
  intro p e s m below meth c ls hC hr hlk ht hw hl
  have hx := hC.1
  have hb := hC.2.1
  have hS : LW G s s.heap [] := va_S.rf
  have hl : lv_has ls 3 [(0, .ref (bb G + 0)), (1, .int x1)] := hl
  unfold F_L_tryPutOff at hF
  refine lv_aload_n hx hb dL_tryPutOff_0 rfl (lv_at hl 0 rfl) ?_
  refine lv_iload_n hx hb dL_tryPutOff_1 rfl (lv_at hl 1 rfl) ?_
  obtain ⟨r1, C2, hc3, hF⟩ := b2_t hF
  refine call_VXi hC (c_X8_putOff l G n (by omega) hn2 hfl x1 _ _ _ hc3) wvL_61 ⟨rfl, rfl, by decide, by decide⟩ hw hS (by omega) ca_casc rfl hl.1 rfl (rest := []) rfl (Nat.le_of_ble_eq_true rfl) dL_tryPutOff_2 ⟨by decide, by decide⟩ (fun k ce q9 H locs h5 b1 b2 hw hS hce hcv hcl => ?_) (fun v4 H locs h5 hw hS => ?_)
  · have hF := se_r h5 hF
    by_cases k0 : k = 3
    · have hF := it_t k0 hF
      subst k0
      refine m_ct1 hC ht rfl (by decide) kl_28 hce hcv hcl ?_
      refine lv_astore_n (lv' := [(2, .ref q9), (0, .ref (bb G + 0)), (1, .int x1)]) hx hb dL_tryPutOff_6 rfl hl (by decide) rfl (fun ls hl => ?_)
      refine lv_sipush (v := -1001) hx hb dL_tryPutOff_7 (by decide) ?_
      exact m_iretW hC hr hlk hw hS (by decide) (by decide) dL_tryPutOff_10 hF
    · have hF := it_f k0 hF
      by_cases k1 : k = 2
      · have hF := it_t k1 hF
        subst k1
        refine m_ct2 hC ht rfl (by decide) (by decide) kl_15 kl_28 (by decide) hce hcv hcl ?_
        refine lv_astore_n (lv' := [(2, .ref q9), (0, .ref (bb G + 0)), (1, .int x1)]) hx hb dL_tryPutOff_11 rfl hl (by decide) rfl (fun ls hl => ?_)
        refine lv_sipush (v := -1003) hx hb dL_tryPutOff_12 (by decide) ?_
        exact m_iretW hC hr hlk hw hS (by decide) (by decide) dL_tryPutOff_15 hF
      · have hF := it_f k1 hF
        cases hF
  · have hF := se_l h5 hF
    exact m_iretW hC hr hlk hw hS (by decide) (by decide) dL_tryPutOff_5 hF
set_option maxHeartbeats 4000000 in
set_option maxRecDepth 100000 in
theorem c_L_tryUndo (l : Launch) (G : GG) (n : Nat) (hn : 244 ≤ n) (hn2 : 0 ≤ n) (hfl : l.stackTraces = false)  (C : Mem) (rR : Int32) (CR : Mem) (hF : F_L_tryUndo  C = some (rR, CR)) : CtW l yL_tryUndo cL_tryUndo 2 (some .int) [(0, 4, 5, 15)] (rmX 7 106 1 6) 1 6 G n C [.ref (bb G + 0)] rR CR := by
  refine CtW.of (by decide) (Nat.le_of_ble_eq_true rfl) ?_
  intro p e s m below meth c ls hC hr hlk ht hw hl
  have hx := hC.1
  have hb := hC.2.1
  have hS : LW G s s.heap [] := va_S.rf
  have hl : lv_has ls 2 [(0, .ref (bb G + 0))] := hl
  unfold F_L_tryUndo at hF
  refine lv_aload_n hx hb dL_tryUndo_0 rfl (lv_at hl 0 rfl) ?_
  obtain ⟨r1, C2, hc3, hF⟩ := b2_t hF
  refine call_VXi hC (c_X8_undo l G n (by omega) hn2 hfl  _ _ _ hc3) wvL_64 ⟨rfl, rfl, by decide, by decide⟩ hw hS (by omega) ca_casc rfl hl.1 rfl (rest := []) rfl (Nat.le_of_ble_eq_true rfl) dL_tryUndo_1 ⟨by decide, by decide⟩ (fun k ce q9 H locs h5 b1 b2 hw hS hce hcv hcl => ?_) (fun v4 H locs h5 hw hS => ?_)
  · have hF := se_r h5 hF
    by_cases k0 : k = 2
    · have hF := it_t k0 hF
      subst k0
      refine m_ct1 hC ht rfl (by decide) kl_15 hce hcv hcl ?_
      refine lv_astore_n (lv' := [(1, .ref q9), (0, .ref (bb G + 0))]) hx hb dL_tryUndo_5 rfl hl (by decide) rfl (fun ls hl => ?_)
      refine lv_sipush (v := -1003) hx hb dL_tryUndo_6 (by decide) ?_
      exact m_iretW hC hr hlk hw hS (by decide) (by decide) dL_tryUndo_9 hF
    · have hF := it_f k0 hF
      cases hF
  · have hF := se_l h5 hF
    exact m_iretW hC hr hlk hw hS (by decide) (by decide) dL_tryUndo_4 hF
set_option maxHeartbeats 4000000 in
set_option maxRecDepth 100000 in
theorem c_L_tryWhyNot (l : Launch) (G : GG) (n : Nat) (hn : 244 ≤ n) (hn2 : 0 ≤ n) (hfl : l.stackTraces = false) (x1 : Int32) (C : Mem) (rR : Int32) (CR : Mem) (hF : F_L_tryWhyNot x1 C = some (rR, CR)) : CtW l yL_tryWhyNot cL_tryWhyNot 3 (some .int) [(0, 5, 6, 28)] (rmX 8 129 1 6) 1 6 G n C [.ref (bb G + 0), .int x1] rR CR := by
  refine CtW.of (by decide) (Nat.le_of_ble_eq_true rfl) ?_
  intro p e s m below meth c ls hC hr hlk ht hw hl
  have hx := hC.1
  have hb := hC.2.1
  have hS : LW G s s.heap [] := va_S.rf
  have hl : lv_has ls 3 [(0, .ref (bb G + 0)), (1, .int x1)] := hl
  unfold F_L_tryWhyNot at hF
  refine lv_aload_n hx hb dL_tryWhyNot_0 rfl (lv_at hl 0 rfl) ?_
  refine lv_iload_n hx hb dL_tryWhyNot_1 rfl (lv_at hl 1 rfl) ?_
  obtain ⟨r1, C2, hc3, hF⟩ := b2_t hF
  refine call_VXi hC (c_X8_whyNot l G n (by omega) hn2 hfl x1 _ _ _ hc3) wvL_67 ⟨rfl, rfl, by decide, by decide⟩ hw hS (by omega) ca_casc rfl hl.1 rfl (rest := []) rfl (Nat.le_of_ble_eq_true rfl) dL_tryWhyNot_2 ⟨by decide, by decide⟩ (fun k ce q9 H locs h5 b1 b2 hw hS hce hcv hcl => ?_) (fun v4 H locs h5 hw hS => ?_)
  · have hF := se_r h5 hF
    by_cases k0 : k = 3
    · have hF := it_t k0 hF
      subst k0
      refine m_ct1 hC ht rfl (by decide) kl_28 hce hcv hcl ?_
      refine lv_astore_n (lv' := [(2, .ref q9), (0, .ref (bb G + 0)), (1, .int x1)]) hx hb dL_tryWhyNot_6 rfl hl (by decide) rfl (fun ls hl => ?_)
      refine lv_sipush (v := -1001) hx hb dL_tryWhyNot_7 (by decide) ?_
      exact m_iretW hC hr hlk hw hS (by decide) (by decide) dL_tryWhyNot_10 hF
    · have hF := it_f k0 hF
      cases hF
  · have hF := se_l h5 hF
    exact m_iretW hC hr hlk hw hS (by decide) (by decide) dL_tryWhyNot_5 hF
set_option maxHeartbeats 4000000 in
set_option maxRecDepth 100000 in
theorem c_L_trySmallestSet (l : Launch) (G : GG) (n : Nat) (hn : 244 ≤ n) (hn2 : 0 ≤ n) (hfl : l.stackTraces = false) (x1 : Int32) (x2 : Int32) (C : Mem) (rR : Int32) (CR : Mem) (hF : F_L_trySmallestSet x1 x2 C = some (rR, CR)) : CtW l yL_trySmallestSet cL_trySmallestSet 4 (some .int) [(0, 6, 7, 13)] (rmX 8 133 1 6) 1 6 G n C [.ref (bb G + 0), .int x1, .int x2] rR CR := by
  refine CtW.of (by decide) (Nat.le_of_ble_eq_true rfl) ?_
  intro p e s m below meth c ls hC hr hlk ht hw hl
  have hx := hC.1
  have hb := hC.2.1
  have hS : LW G s s.heap [] := va_S.rf
  have hl : lv_has ls 4 [(0, .ref (bb G + 0)), (1, .int x1), (2, .int x2)] := hl
  unfold F_L_trySmallestSet at hF
  refine lv_aload_n hx hb dL_trySmallestSet_0 rfl (lv_at hl 0 rfl) ?_
  refine lv_iload_n hx hb dL_trySmallestSet_1 rfl (lv_at hl 1 rfl) ?_
  refine lv_iload_n hx hb dL_trySmallestSet_2 rfl (lv_at hl 2 rfl) ?_
  obtain ⟨r1, C2, hc3, hF⟩ := b2_t hF
  refine call_VXi hC (c_X8_smallestSet l G n (by omega) hn2 hfl x1 x2 _ _ _ hc3) wvL_70 ⟨rfl, rfl, by decide, by decide⟩ hw hS (by omega) ca_casc rfl hl.1 rfl (rest := []) rfl (Nat.le_of_ble_eq_true rfl) dL_trySmallestSet_3 ⟨by decide, by decide⟩ (fun k ce q9 H locs h5 b1 b2 hw hS hce hcv hcl => ?_) (fun v4 H locs h5 hw hS => ?_)
  · have hF := se_r h5 hF
    by_cases k0 : k = 1
    · have hF := it_t k0 hF
      subst k0
      refine m_ct1 hC ht rfl (by decide) kl_13 hce hcv hcl ?_
      refine lv_astore_n (lv' := [(3, .ref q9), (0, .ref (bb G + 0)), (1, .int x1), (2, .int x2)]) hx hb dL_trySmallestSet_7 rfl hl (by decide) rfl (fun ls hl => ?_)
      refine lv_sipush (v := -1002) hx hb dL_trySmallestSet_8 (by decide) ?_
      exact m_iretW hC hr hlk hw hS (by decide) (by decide) dL_trySmallestSet_11 hF
    · have hF := it_f k0 hF
      cases hF
  · have hF := se_l h5 hF
    exact m_iretW hC hr hlk hw hS (by decide) (by decide) dL_trySmallestSet_6 hF
set_option maxHeartbeats 4000000 in
set_option maxRecDepth 100000 in
theorem c_L_tryAhead (l : Launch) (G : GG) (n : Nat) (hn : 244 ≤ n) (hn2 : 0 ≤ n) (hfl : l.stackTraces = false) (x1 : Int32) (x2 : Int32) (x3 : Int32) (C : Mem) (rR : Int32) (CR : Mem) (hF : F_L_tryAhead x1 x2 x3 C = some (rR, CR)) : CtW l yL_tryAhead cL_tryAhead 5 (some .int) [(0, 7, 8, 13)] (rmX 9 154 3 18) 3 18 G n C [.ref (bb G + 0), .int x1, .int x2, .int x3] rR CR := by
  refine CtW.of (by decide) (Nat.le_of_ble_eq_true rfl) ?_
  intro p e s m below meth c ls hC hr hlk ht hw hl
  have hx := hC.1
  have hb := hC.2.1
  have hS : LW G s s.heap [] := va_S.rf
  have hl : lv_has ls 5 [(0, .ref (bb G + 0)), (1, .int x1), (2, .int x2), (3, .int x3)] := hl
  unfold F_L_tryAhead at hF
  refine lv_aload_n hx hb dL_tryAhead_0 rfl (lv_at hl 0 rfl) ?_
  refine lv_iload_n hx hb dL_tryAhead_1 rfl (lv_at hl 1 rfl) ?_
  refine lv_iload_n hx hb dL_tryAhead_2 rfl (lv_at hl 2 rfl) ?_
  refine lv_iload_n hx hb dL_tryAhead_3 rfl (lv_at hl 3 rfl) ?_
  obtain ⟨r1, C2, hc3, hF⟩ := b2_t hF
  refine call_VXi hC (c_X8_ahead l G n (by omega) hn2 hfl x1 x2 x3 _ _ _ hc3) wvL_73 ⟨rfl, rfl, by decide, by decide⟩ hw hS (by omega) ca_casc rfl hl.1 rfl (rest := []) rfl (Nat.le_of_ble_eq_true rfl) dL_tryAhead_4 ⟨by decide, by decide⟩ (fun k ce q9 H locs h5 b1 b2 hw hS hce hcv hcl => ?_) (fun v4 H locs h5 hw hS => ?_)
  · have hF := se_r h5 hF
    by_cases k0 : k = 1
    · have hF := it_t k0 hF
      subst k0
      refine m_ct1 hC ht rfl (by decide) kl_13 hce hcv hcl ?_
      refine lv_astore (lv' := [(4, .ref q9), (0, .ref (bb G + 0)), (1, .int x1), (2, .int x2), (3, .int x3)]) hx hb dL_tryAhead_8 hl (by decide) rfl (fun ls hl => ?_)
      refine lv_sipush (v := -1002) hx hb dL_tryAhead_10 (by decide) ?_
      exact m_iretW hC hr hlk hw hS (by decide) (by decide) dL_tryAhead_13 hF
    · have hF := it_f k0 hF
      cases hF
  · have hF := se_l h5 hF
    exact m_iretW hC hr hlk hw hS (by decide) (by decide) dL_tryAhead_7 hF
set_option maxHeartbeats 4000000 in
set_option maxRecDepth 100000 in
theorem c_L_tryWarmAfter (l : Launch) (G : GG) (n : Nat) (hn : 244 ≤ n) (hn2 : 0 ≤ n) (hfl : l.stackTraces = false) (x1 : Int32) (x2 : Int32) (C : Mem) (rR : Int32) (CR : Mem) (hF : F_L_tryWarmAfter x1 x2 C = some (rR, CR)) : CtW l yL_tryWarmAfter cL_tryWarmAfter 4 (some .int) [(0, 6, 7, 13)] (rmX 8 140 2 12) 2 12 G n C [.ref (bb G + 0), .int x1, .int x2] rR CR := by
  refine CtW.of (by decide) (Nat.le_of_ble_eq_true rfl) ?_
  intro p e s m below meth c ls hC hr hlk ht hw hl
  have hx := hC.1
  have hb := hC.2.1
  have hS : LW G s s.heap [] := va_S.rf
  have hl : lv_has ls 4 [(0, .ref (bb G + 0)), (1, .int x1), (2, .int x2)] := hl
  unfold F_L_tryWarmAfter at hF
  refine lv_aload_n hx hb dL_tryWarmAfter_0 rfl (lv_at hl 0 rfl) ?_
  refine lv_iload_n hx hb dL_tryWarmAfter_1 rfl (lv_at hl 1 rfl) ?_
  refine lv_iload_n hx hb dL_tryWarmAfter_2 rfl (lv_at hl 2 rfl) ?_
  obtain ⟨r1, C2, hc3, hF⟩ := b2_t hF
  refine call_VXi hC (c_X8_warmAfter l G n (by omega) hn2 hfl x1 x2 _ _ _ hc3) wvL_77 ⟨rfl, rfl, by decide, by decide⟩ hw hS (by omega) ca_casc rfl hl.1 rfl (rest := []) rfl (Nat.le_of_ble_eq_true rfl) dL_tryWarmAfter_3 ⟨by decide, by decide⟩ (fun k ce q9 H locs h5 b1 b2 hw hS hce hcv hcl => ?_) (fun v4 H locs h5 hw hS => ?_)
  · have hF := se_r h5 hF
    by_cases k0 : k = 1
    · have hF := it_t k0 hF
      subst k0
      refine m_ct1 hC ht rfl (by decide) kl_13 hce hcv hcl ?_
      refine lv_astore_n (lv' := [(3, .ref q9), (0, .ref (bb G + 0)), (1, .int x1), (2, .int x2)]) hx hb dL_tryWarmAfter_7 rfl hl (by decide) rfl (fun ls hl => ?_)
      refine lv_sipush (v := -1002) hx hb dL_tryWarmAfter_8 (by decide) ?_
      exact m_iretW hC hr hlk hw hS (by decide) (by decide) dL_tryWarmAfter_11 hF
    · have hF := it_f k0 hF
      cases hF
  · have hF := se_l h5 hF
    exact m_iretW hC hr hlk hw hS (by decide) (by decide) dL_tryWarmAfter_6 hF
set_option maxHeartbeats 4000000 in
set_option maxRecDepth 100000 in
theorem c_L_tryBearable (l : Launch) (G : GG) (n : Nat) (hn : 244 ≤ n) (hn2 : 0 ≤ n) (hfl : l.stackTraces = false) (x1 : Int32) (x2 : Int32) (C : Mem) (rR : Int32) (CR : Mem) (hF : F_L_tryBearable x1 x2 C = some (rR, CR)) : CtW l yL_tryBearable cL_tryBearable 4 (some .int) [(0, 6, 7, 13)] (rmX 8 164 2 12) 2 12 G n C [.ref (bb G + 0), .int x1, .int x2] rR CR := by
  refine CtW.of (by decide) (Nat.le_of_ble_eq_true rfl) ?_
  intro p e s m below meth c ls hC hr hlk ht hw hl
  have hx := hC.1
  have hb := hC.2.1
  have hS : LW G s s.heap [] := va_S.rf
  have hl : lv_has ls 4 [(0, .ref (bb G + 0)), (1, .int x1), (2, .int x2)] := hl
  unfold F_L_tryBearable at hF
  refine lv_aload_n hx hb dL_tryBearable_0 rfl (lv_at hl 0 rfl) ?_
  refine lv_iload_n hx hb dL_tryBearable_1 rfl (lv_at hl 1 rfl) ?_
  refine lv_iload_n hx hb dL_tryBearable_2 rfl (lv_at hl 2 rfl) ?_
  obtain ⟨r1, C2, hc3, hF⟩ := b2_t hF
  refine call_VXi hC (c_X8_bearable l G n (by omega) hn2 hfl x1 x2 _ _ _ hc3) wvL_80 ⟨rfl, rfl, by decide, by decide⟩ hw hS (by omega) ca_casc rfl hl.1 rfl (rest := []) rfl (Nat.le_of_ble_eq_true rfl) dL_tryBearable_3 ⟨by decide, by decide⟩ (fun k ce q9 H locs h5 b1 b2 hw hS hce hcv hcl => ?_) (fun v4 H locs h5 hw hS => ?_)
  · have hF := se_r h5 hF
    by_cases k0 : k = 1
    · have hF := it_t k0 hF
      subst k0
      refine m_ct1 hC ht rfl (by decide) kl_13 hce hcv hcl ?_
      refine lv_astore_n (lv' := [(3, .ref q9), (0, .ref (bb G + 0)), (1, .int x1), (2, .int x2)]) hx hb dL_tryBearable_7 rfl hl (by decide) rfl (fun ls hl => ?_)
      refine lv_sipush (v := -1002) hx hb dL_tryBearable_8 (by decide) ?_
      exact m_iretW hC hr hlk hw hS (by decide) (by decide) dL_tryBearable_11 hF
    · have hF := it_f k0 hF
      cases hF
  · have hF := se_l h5 hF
    exact m_iretW hC hr hlk hw hS (by decide) (by decide) dL_tryBearable_6 hF
set_option maxHeartbeats 4000000 in
set_option maxRecDepth 100000 in
theorem c_L_tryCheapestPurge (l : Launch) (G : GG) (n : Nat) (hn : 244 ≤ n) (hn2 : 0 ≤ n) (hfl : l.stackTraces = false) (x1 : Int32) (x2 : Int32) (C : Mem) (rR : Int32) (CR : Mem) (hF : F_L_tryCheapestPurge x1 x2 C = some (rR, CR)) : CtW l yL_tryCheapestPurge cL_tryCheapestPurge 4 (some .int) [(0, 6, 7, 13)] (rmX 9 155 2 12) 2 12 G n C [.ref (bb G + 0), .int x1, .int x2] rR CR := by
  refine CtW.of (by decide) (Nat.le_of_ble_eq_true rfl) ?_
  intro p e s m below meth c ls hC hr hlk ht hw hl
  have hx := hC.1
  have hb := hC.2.1
  have hS : LW G s s.heap [] := va_S.rf
  have hl : lv_has ls 4 [(0, .ref (bb G + 0)), (1, .int x1), (2, .int x2)] := hl
  unfold F_L_tryCheapestPurge at hF
  refine lv_aload_n hx hb dL_tryCheapestPurge_0 rfl (lv_at hl 0 rfl) ?_
  refine lv_iload_n hx hb dL_tryCheapestPurge_1 rfl (lv_at hl 1 rfl) ?_
  refine lv_iload_n hx hb dL_tryCheapestPurge_2 rfl (lv_at hl 2 rfl) ?_
  obtain ⟨r1, C2, hc3, hF⟩ := b2_t hF
  refine call_VXi hC (c_X8_cheapestPurge l G n (by omega) hn2 hfl x1 x2 _ _ _ hc3) wvL_83 ⟨rfl, rfl, by decide, by decide⟩ hw hS (by omega) ca_casc rfl hl.1 rfl (rest := []) rfl (Nat.le_of_ble_eq_true rfl) dL_tryCheapestPurge_3 ⟨by decide, by decide⟩ (fun k ce q9 H locs h5 b1 b2 hw hS hce hcv hcl => ?_) (fun v4 H locs h5 hw hS => ?_)
  · have hF := se_r h5 hF
    by_cases k0 : k = 1
    · have hF := it_t k0 hF
      subst k0
      refine m_ct1 hC ht rfl (by decide) kl_13 hce hcv hcl ?_
      refine lv_astore_n (lv' := [(3, .ref q9), (0, .ref (bb G + 0)), (1, .int x1), (2, .int x2)]) hx hb dL_tryCheapestPurge_7 rfl hl (by decide) rfl (fun ls hl => ?_)
      refine lv_sipush (v := -1002) hx hb dL_tryCheapestPurge_8 (by decide) ?_
      exact m_iretW hC hr hlk hw hS (by decide) (by decide) dL_tryCheapestPurge_11 hF
    · have hF := it_f k0 hF
      cases hF
  · have hF := se_l h5 hF
    exact m_iretW hC hr hlk hw hS (by decide) (by decide) dL_tryCheapestPurge_6 hF
set_option maxHeartbeats 4000000 in
set_option maxRecDepth 100000 in
theorem c_L_tryScript (l : Launch) (G : GG) (n : Nat) (hn : 244 ≤ n) (hn2 : 0 ≤ n) (hfl : l.stackTraces = false) (x1 : Int32) (x2 : Int64) (C : Mem) (rR : Int32) (CR : Mem) (hF : F_L_tryScript x1 x2 C = some (rR, CR)) : CtW l yL_tryScript cL_tryScript 5 (some .int) [(0, 6, 7, 13)] (rmX 8 170 2 12) 2 12 G n C [.ref (bb G + 0), .int x1, .long x2] rR CR := by
  refine CtW.of (by decide) (Nat.le_of_ble_eq_true rfl) ?_
  intro p e s m below meth c ls hC hr hlk ht hw hl
  have hx := hC.1
  have hb := hC.2.1
  have hS : LW G s s.heap [] := va_S.rf
  have hl : lv_has ls 5 [(0, .ref (bb G + 0)), (1, .int x1), (2, .long x2)] := hl
  unfold F_L_tryScript at hF
  refine lv_aload_n hx hb dL_tryScript_0 rfl (lv_at hl 0 rfl) ?_
  refine lv_iload_n hx hb dL_tryScript_1 rfl (lv_at hl 1 rfl) ?_
  refine lv_lload_n hx hb dL_tryScript_2 rfl (lv_at hl 2 rfl) ?_
  obtain ⟨r1, C2, hc3, hF⟩ := b2_t hF
  refine call_VXi hC (c_X8_runScript l G n (by omega) hn2 hfl x1 x2 _ _ _ hc3) wvL_86 ⟨rfl, rfl, by decide, by decide⟩ hw hS (by omega) ca_casc rfl hl.1 rfl (rest := []) rfl (Nat.le_of_ble_eq_true rfl) dL_tryScript_3 ⟨by decide, by decide⟩ (fun k ce q9 H locs h5 b1 b2 hw hS hce hcv hcl => ?_) (fun v4 H locs h5 hw hS => ?_)
  · have hF := se_r h5 hF
    by_cases k0 : k = 1
    · have hF := it_t k0 hF
      subst k0
      refine m_ct1 hC ht rfl (by decide) kl_13 hce hcv hcl ?_
      refine lv_astore (lv' := [(4, .ref q9), (0, .ref (bb G + 0)), (1, .int x1), (2, .long x2)]) hx hb dL_tryScript_7 hl (by decide) rfl (fun ls hl => ?_)
      refine lv_sipush (v := -1002) hx hb dL_tryScript_9 (by decide) ?_
      exact m_iretW hC hr hlk hw hS (by decide) (by decide) dL_tryScript_12 hF
    · have hF := it_f k0 hF
      cases hF
  · have hF := se_l h5 hF
    exact m_iretW hC hr hlk hw hS (by decide) (by decide) dL_tryScript_6 hF
set_option maxHeartbeats 4000000 in
set_option maxRecDepth 100000 in
theorem c_L_trySimulate (l : Launch) (G : GG) (n : Nat) (hn : 244 ≤ n) (hn2 : 0 ≤ n) (hfl : l.stackTraces = false) (x1 : Int64) (x2 : Int32) (C : Mem) (rR : Int32) (CR : Mem) (hF : F_L_trySimulate x1 x2 C = some (rR, CR)) : CtW l yL_trySimulate cL_trySimulate 5 (some .int) [(0, 6, 7, 13)] (rmX 8 145 1 6) 1 6 G n C [.ref (bb G + 0), .long x1, .int x2] rR CR := by
  refine CtW.of (by decide) (Nat.le_of_ble_eq_true rfl) ?_
  intro p e s m below meth c ls hC hr hlk ht hw hl
  have hx := hC.1
  have hb := hC.2.1
  have hS : LW G s s.heap [] := va_S.rf
  have hl : lv_has ls 5 [(0, .ref (bb G + 0)), (1, .long x1), (3, .int x2)] := hl
  unfold F_L_trySimulate at hF
  refine lv_aload_n hx hb dL_trySimulate_0 rfl (lv_at hl 0 rfl) ?_
  refine lv_lload_n hx hb dL_trySimulate_1 rfl (lv_at hl 1 rfl) ?_
  refine lv_iload_n hx hb dL_trySimulate_2 rfl (lv_at hl 2 rfl) ?_
  obtain ⟨r1, C2, hc3, hF⟩ := b2_t hF
  refine call_VXi hC (c_X8_simulate l G n (by omega) hn2 hfl x1 x2 _ _ _ hc3) wvL_90 ⟨rfl, rfl, by decide, by decide⟩ hw hS (by omega) ca_casc rfl hl.1 rfl (rest := []) rfl (Nat.le_of_ble_eq_true rfl) dL_trySimulate_3 ⟨by decide, by decide⟩ (fun k ce q9 H locs h5 b1 b2 hw hS hce hcv hcl => ?_) (fun v4 H locs h5 hw hS => ?_)
  · have hF := se_r h5 hF
    by_cases k0 : k = 1
    · have hF := it_t k0 hF
      subst k0
      refine m_ct1 hC ht rfl (by decide) kl_13 hce hcv hcl ?_
      refine lv_astore (lv' := [(4, .ref q9), (0, .ref (bb G + 0)), (1, .long x1), (3, .int x2)]) hx hb dL_trySimulate_7 hl (by decide) rfl (fun ls hl => ?_)
      refine lv_sipush (v := -1002) hx hb dL_trySimulate_9 (by decide) ?_
      exact m_iretW hC hr hlk hw hS (by decide) (by decide) dL_trySimulate_12 hF
    · have hF := it_f k0 hF
      cases hF
  · have hF := se_l h5 hF
    exact m_iretW hC hr hlk hw hS (by decide) (by decide) dL_trySimulate_6 hF
set_option maxHeartbeats 4000000 in
set_option maxRecDepth 100000 in
theorem c_L_trySave (l : Launch) (G : GG) (n : Nat) (hn : 244 ≤ n) (hn2 : 0 ≤ n) (hfl : l.stackTraces = false) (x1 : Int32) (C : Mem) (rR : Int32) (CR : Mem) (hF : F_L_trySave x1 C = some (rR, CR)) : CtW l yL_trySave cL_trySave 3 (some .int) [(0, 5, 6, 28)] (rmX 8 128 1 6) 1 6 G n C [.ref (bb G + 0), .int x1] rR CR := by
  refine CtW.of (by decide) (Nat.le_of_ble_eq_true rfl) ?_
  intro p e s m below meth c ls hC hr hlk ht hw hl
  have hx := hC.1
  have hb := hC.2.1
  have hS : LW G s s.heap [] := va_S.rf
  have hl : lv_has ls 3 [(0, .ref (bb G + 0)), (1, .int x1)] := hl
  unfold F_L_trySave at hF
  refine lv_aload_n hx hb dL_trySave_0 rfl (lv_at hl 0 rfl) ?_
  refine lv_iload_n hx hb dL_trySave_1 rfl (lv_at hl 1 rfl) ?_
  obtain ⟨r1, C2, hc3, hF⟩ := b2_t hF
  refine call_VXi hC (c_X8_save l G n (by omega) hn2 hfl x1 _ _ _ hc3) wvL_94 ⟨rfl, rfl, by decide, by decide⟩ hw hS (by omega) ca_casc rfl hl.1 rfl (rest := []) rfl (Nat.le_of_ble_eq_true rfl) dL_trySave_2 ⟨by decide, by decide⟩ (fun k ce q9 H locs h5 b1 b2 hw hS hce hcv hcl => ?_) (fun v4 H locs h5 hw hS => ?_)
  · have hF := se_r h5 hF
    by_cases k0 : k = 3
    · have hF := it_t k0 hF
      subst k0
      refine m_ct1 hC ht rfl (by decide) kl_28 hce hcv hcl ?_
      refine lv_astore_n (lv' := [(2, .ref q9), (0, .ref (bb G + 0)), (1, .int x1)]) hx hb dL_trySave_6 rfl hl (by decide) rfl (fun ls hl => ?_)
      refine lv_sipush (v := -1001) hx hb dL_trySave_7 (by decide) ?_
      exact m_iretW hC hr hlk hw hS (by decide) (by decide) dL_trySave_10 hF
    · have hF := it_f k0 hF
      cases hF
  · have hF := se_l h5 hF
    exact m_iretW hC hr hlk hw hS (by decide) (by decide) dL_trySave_5 hF
set_option maxHeartbeats 4000000 in
set_option maxRecDepth 100000 in
theorem c_L_tryRestore (l : Launch) (G : GG) (n : Nat) (hn : 244 ≤ n) (hn2 : 0 ≤ n) (hfl : l.stackTraces = false) (x1 : Int32) (C : Mem) (rR : Int32) (CR : Mem) (hF : F_L_tryRestore x1 C = some (rR, CR)) : CtW l yL_tryRestore cL_tryRestore 3 (some .int) [(0, 5, 6, 28), (0, 5, 11, 15)] (rmX 8 128 2 12) 2 12 G n C [.ref (bb G + 0), .int x1] rR CR := by
  refine CtW.of (by decide) (Nat.le_of_ble_eq_true rfl) ?_
  intro p e s m below meth c ls hC hr hlk ht hw hl
  have hx := hC.1
  have hb := hC.2.1
  have hS : LW G s s.heap [] := va_S.rf
  have hl : lv_has ls 3 [(0, .ref (bb G + 0)), (1, .int x1)] := hl
  unfold F_L_tryRestore at hF
  refine lv_aload_n hx hb dL_tryRestore_0 rfl (lv_at hl 0 rfl) ?_
  refine lv_iload_n hx hb dL_tryRestore_1 rfl (lv_at hl 1 rfl) ?_
  obtain ⟨r1, C2, hc3, hF⟩ := b2_t hF
  refine call_VXi hC (c_X8_restore l G n (by omega) hn2 hfl x1 _ _ _ hc3) wvL_97 ⟨rfl, rfl, by decide, by decide⟩ hw hS (by omega) ca_casc rfl hl.1 rfl (rest := []) rfl (Nat.le_of_ble_eq_true rfl) dL_tryRestore_2 ⟨by decide, by decide⟩ (fun k ce q9 H locs h5 b1 b2 hw hS hce hcv hcl => ?_) (fun v4 H locs h5 hw hS => ?_)
  · have hF := se_r h5 hF
    by_cases k0 : k = 3
    · have hF := it_t k0 hF
      subst k0
      refine m_ct1 hC ht rfl (by decide) kl_28 hce hcv hcl ?_
      refine lv_astore_n (lv' := [(2, .ref q9), (0, .ref (bb G + 0)), (1, .int x1)]) hx hb dL_tryRestore_6 rfl hl (by decide) rfl (fun ls hl => ?_)
      refine lv_sipush (v := -1001) hx hb dL_tryRestore_7 (by decide) ?_
      exact m_iretW hC hr hlk hw hS (by decide) (by decide) dL_tryRestore_10 hF
    · have hF := it_f k0 hF
      by_cases k1 : k = 2
      · have hF := it_t k1 hF
        subst k1
        refine m_ct2 hC ht rfl (by decide) (by decide) kl_15 kl_28 (by decide) hce hcv hcl ?_
        refine lv_astore_n (lv' := [(2, .ref q9), (0, .ref (bb G + 0)), (1, .int x1)]) hx hb dL_tryRestore_11 rfl hl (by decide) rfl (fun ls hl => ?_)
        refine lv_sipush (v := -1003) hx hb dL_tryRestore_12 (by decide) ?_
        exact m_iretW hC hr hlk hw hS (by decide) (by decide) dL_tryRestore_15 hF
      · have hF := it_f k1 hF
        cases hF
  · have hF := se_l h5 hF
    exact m_iretW hC hr hlk hw hS (by decide) (by decide) dL_tryRestore_5 hF
