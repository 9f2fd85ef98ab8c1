section
variable {p : Program} {l : Launch} {e : Env} {s : State} {m : MethodId} {below : List Frame} {meth : Method} {c : Code} {Q : State → Prop} {G : GG} {h : PH} {b L : Nat} {xs : Nat → Int32} {ls : Array Slot}
set_option maxHeartbeats 4000000 in
theorem lk_16 (C : lc p s m meth c b L xs G) {i B : Nat} (hi : i + 4 ≤ L) (hL : L ≤ 2048) (hB : B < 2 ^ 27) (hI : INV B h) (hl : lv_has ls 4 [(3, .int (nI i)), (0, .ref b), (1, .ref (G.2.2.2.2 0)), (2, .ref (G.2.2.2.2 110))]) (nxt : ∀ h2 : PH, INV (B + 99) h2 → WL p l e s m b below meth c G h2 Q (F0 m 1027 ls [])) : WL p l e s m b below meth c G h Q (F0 m 530 ls []) := by
  obtain ⟨r, h1, h2, e1, e2, hI2⟩ := op_come (xs (i + 1)) B h hB hI
  refine l_aload C dL_law_530 rfl (lv_at hl 2 rfl) ?_
  refine l_arg (j := 1) C (by omega) hL (lv_at hl 1 rfl) (lv_at hl 0 rfl) (by decide) dL_law_531 dL_law_532 dL_law_533 dL_law_534 dL_law_535 ?_
  refine l_call (k := 0) (n := 1) (As := [.int (xs (i + 1))]) C ⟨w_co_X4_come, w_im_X4_come, w_se_X4_come, w_in_X4, by decide +kernel, by decide⟩ w_ml_L_81 (c_X4_come l G e1) kd_0 rfl (by decide) (ce_3 kd_0) (by decide) hl.1 rfl rfl (Nat.le_of_ble_eq_true rfl) dL_law_536 ?_
  refine l_aload C dL_law_539 rfl (lv_at hl 3 rfl) ?_
  refine l_arg (j := 1) C (by omega) hL (lv_at hl 1 rfl) (lv_at hl 0 rfl) (by decide) dL_law_540 dL_law_541 dL_law_542 dL_law_543 dL_law_544 ?_
  refine l_call (k := 110) (n := 1) (As := [.int (xs (i + 1))]) C ⟨w_co_X5_come, w_im_X5_come, w_se_X5_come, w_in_X5, by decide +kernel, by decide⟩ w_ml_L_84 (c_X5_come l G e2) kd_110 rfl (by decide) (ce_4 kd_110) (by decide) hl.1 rfl rfl (Nat.le_of_ble_eq_true rfl) dL_law_545 ?_
  exact l_iceq (tgt := 1027) C dL_law_548 (by decide) (nxt h2 hI2)
set_option maxHeartbeats 4000000 in
theorem lk_17 (C : lc p s m meth c b L xs G) {i B : Nat} (hi : i + 4 ≤ L) (hL : L ≤ 2048) (hB : B < 2 ^ 27) (hI : INV B h) (hl : lv_has ls 4 [(3, .int (nI i)), (0, .ref b), (1, .ref (G.2.2.2.2 0)), (2, .ref (G.2.2.2.2 110))]) (nxt : ∀ h2 : PH, INV (B + 99) h2 → WL p l e s m b below meth c G h2 Q (F0 m 1027 ls [])) : WL p l e s m b below meth c G h Q (F0 m 553 ls []) := by
  obtain ⟨r, h1, h2, e1, e2, hI2⟩ := op_undo  B h hB hI
  refine l_aload C dL_law_553 rfl (lv_at hl 2 rfl) ?_
  refine l_call (k := 0) (n := 0) (As := []) C ⟨w_co_X4_undo, w_im_X4_undo, w_se_X4_undo, w_in_X4, by decide +kernel, by decide⟩ w_ml_L_85 (c_X4_undo l G e1) kd_0 rfl (by decide) (ce_3 kd_0) (by decide) hl.1 rfl rfl (Nat.le_of_ble_eq_true rfl) dL_law_554 ?_
  refine l_aload C dL_law_557 rfl (lv_at hl 3 rfl) ?_
  refine l_call (k := 110) (n := 0) (As := []) C ⟨w_co_X5_undo, w_im_X5_undo, w_se_X5_undo, w_in_X5, by decide +kernel, by decide⟩ w_ml_L_88 (c_X5_undo l G e2) kd_110 rfl (by decide) (ce_4 kd_110) (by decide) hl.1 rfl rfl (Nat.le_of_ble_eq_true rfl) dL_law_558 ?_
  exact l_iceq (tgt := 1027) C dL_law_561 (by decide) (nxt h2 hI2)
set_option maxHeartbeats 4000000 in
theorem lk_18 (C : lc p s m meth c b L xs G) {i B : Nat} (hi : i + 4 ≤ L) (hL : L ≤ 2048) (hB : B < 2 ^ 27) (hI : INV B h) (hl : lv_has ls 4 [(3, .int (nI i)), (0, .ref b), (1, .ref (G.2.2.2.2 0)), (2, .ref (G.2.2.2.2 110))]) (nxt : ∀ h2 : PH, INV (B + 99) h2 → WL p l e s m b below meth c G h2 Q (F0 m 1027 ls [])) : WL p l e s m b below meth c G h Q (F0 m 566 ls []) := by
  obtain ⟨r, h1, h2, e1, e2, hI2⟩ := op_ahead (xs (i + 1)) (xs (i + 2)) B h hB hI
  refine l_aload C dL_law_566 rfl (lv_at hl 2 rfl) ?_
  refine l_arg (j := 1) C (by omega) hL (lv_at hl 1 rfl) (lv_at hl 0 rfl) (by decide) dL_law_567 dL_law_568 dL_law_569 dL_law_570 dL_law_571 ?_
  refine l_arg (j := 2) C (by omega) hL (lv_at hl 1 rfl) (lv_at hl 0 rfl) (by decide) dL_law_572 dL_law_573 dL_law_574 dL_law_575 dL_law_576 ?_
  refine l_call (k := 0) (n := 2) (As := [.int (xs (i + 1)), .int (xs (i + 2))]) C ⟨w_co_X4_ahead, w_im_X4_ahead, w_se_X4_ahead, w_in_X4, by decide +kernel, by decide⟩ w_ml_L_89 (c_X4_ahead l G e1) kd_0 rfl (by decide) (ce_3 kd_0) (by decide) hl.1 rfl rfl (Nat.le_of_ble_eq_true rfl) dL_law_577 ?_
  refine l_aload C dL_law_580 rfl (lv_at hl 3 rfl) ?_
  refine l_arg (j := 1) C (by omega) hL (lv_at hl 1 rfl) (lv_at hl 0 rfl) (by decide) dL_law_581 dL_law_582 dL_law_583 dL_law_584 dL_law_585 ?_
  refine l_arg (j := 2) C (by omega) hL (lv_at hl 1 rfl) (lv_at hl 0 rfl) (by decide) dL_law_586 dL_law_587 dL_law_588 dL_law_589 dL_law_590 ?_
  refine l_call (k := 110) (n := 2) (As := [.int (xs (i + 1)), .int (xs (i + 2))]) C ⟨w_co_X5_ahead, w_im_X5_ahead, w_se_X5_ahead, w_in_X5, by decide +kernel, by decide⟩ w_ml_L_92 (c_X5_ahead l G e2) kd_110 rfl (by decide) (ce_4 kd_110) (by decide) hl.1 rfl rfl (Nat.le_of_ble_eq_true rfl) dL_law_591 ?_
  exact l_iceq (tgt := 1027) C dL_law_594 (by decide) (nxt h2 hI2)
set_option maxHeartbeats 4000000 in
theorem lk_19 (C : lc p s m meth c b L xs G) {i B : Nat} (hi : i + 4 ≤ L) (hL : L ≤ 2048) (hB : B < 2 ^ 27) (hI : INV B h) (hl : lv_has ls 4 [(3, .int (nI i)), (0, .ref b), (1, .ref (G.2.2.2.2 0)), (2, .ref (G.2.2.2.2 110))]) (nxt : ∀ h2 : PH, INV (B + 99) h2 → WL p l e s m b below meth c G h2 Q (F0 m 1027 ls [])) : WL p l e s m b below meth c G h Q (F0 m 599 ls []) := by
  obtain ⟨r, h1, h2, e1, e2, hI2⟩ := op_goes (xs (i + 1)) (xs (i + 2)) B h hB hI
  refine l_aload C dL_law_599 rfl (lv_at hl 2 rfl) ?_
  refine l_arg (j := 1) C (by omega) hL (lv_at hl 1 rfl) (lv_at hl 0 rfl) (by decide) dL_law_600 dL_law_601 dL_law_602 dL_law_603 dL_law_604 ?_
  refine l_arg (j := 2) C (by omega) hL (lv_at hl 1 rfl) (lv_at hl 0 rfl) (by decide) dL_law_605 dL_law_606 dL_law_607 dL_law_608 dL_law_609 ?_
  refine l_call (k := 0) (n := 2) (As := [.int (xs (i + 1)), .int (xs (i + 2))]) C ⟨w_co_X4_goes, w_im_X4_goes, w_se_X4_goes, w_in_X4, by decide +kernel, by decide⟩ w_ml_L_93 (c_X4_goes l G e1) kd_0 rfl (by decide) (ce_3 kd_0) (by decide) hl.1 rfl rfl (Nat.le_of_ble_eq_true rfl) dL_law_610 ?_
  refine l_aload C dL_law_613 rfl (lv_at hl 3 rfl) ?_
  refine l_arg (j := 1) C (by omega) hL (lv_at hl 1 rfl) (lv_at hl 0 rfl) (by decide) dL_law_614 dL_law_615 dL_law_616 dL_law_617 dL_law_618 ?_
  refine l_arg (j := 2) C (by omega) hL (lv_at hl 1 rfl) (lv_at hl 0 rfl) (by decide) dL_law_619 dL_law_620 dL_law_621 dL_law_622 dL_law_623 ?_
  refine l_call (k := 110) (n := 2) (As := [.int (xs (i + 1)), .int (xs (i + 2))]) C ⟨w_co_X5_goes, w_im_X5_goes, w_se_X5_goes, w_in_X5, by decide +kernel, by decide⟩ w_ml_L_96 (c_X5_goes l G e2) kd_110 rfl (by decide) (ce_4 kd_110) (by decide) hl.1 rfl rfl (Nat.le_of_ble_eq_true rfl) dL_law_624 ?_
  exact l_iceq (tgt := 1027) C dL_law_627 (by decide) (nxt h2 hI2)
set_option maxHeartbeats 4000000 in
theorem lk_20 (C : lc p s m meth c b L xs G) {i B : Nat} (hi : i + 4 ≤ L) (hL : L ≤ 2048) (hB : B < 2 ^ 27) (hI : INV B h) (hl : lv_has ls 4 [(3, .int (nI i)), (0, .ref b), (1, .ref (G.2.2.2.2 0)), (2, .ref (G.2.2.2.2 110))]) (nxt : ∀ h2 : PH, INV (B + 99) h2 → WL p l e s m b below meth c G h2 Q (F0 m 1027 ls [])) : WL p l e s m b below meth c G h Q (F0 m 632 ls []) := by
  obtain ⟨r, h1, h2, e1, e2, hI2⟩ := op_best (xs (i + 1)) B h hB hI
  refine l_aload C dL_law_632 rfl (lv_at hl 2 rfl) ?_
  refine l_arg (j := 1) C (by omega) hL (lv_at hl 1 rfl) (lv_at hl 0 rfl) (by decide) dL_law_633 dL_law_634 dL_law_635 dL_law_636 dL_law_637 ?_
  refine l_call (k := 0) (n := 1) (As := [.int (xs (i + 1))]) C ⟨w_co_X4_best, w_im_X4_best, w_se_X4_best, w_in_X4, by decide +kernel, by decide⟩ w_ml_L_97 (c_X4_best l G e1) kd_0 rfl (by decide) (ce_3 kd_0) (by decide) hl.1 rfl rfl (Nat.le_of_ble_eq_true rfl) dL_law_638 ?_
  refine l_aload C dL_law_641 rfl (lv_at hl 3 rfl) ?_
  refine l_arg (j := 1) C (by omega) hL (lv_at hl 1 rfl) (lv_at hl 0 rfl) (by decide) dL_law_642 dL_law_643 dL_law_644 dL_law_645 dL_law_646 ?_
  refine l_call (k := 110) (n := 1) (As := [.int (xs (i + 1))]) C ⟨w_co_X5_best, w_im_X5_best, w_se_X5_best, w_in_X5, by decide +kernel, by decide⟩ w_ml_L_100 (c_X5_best l G e2) kd_110 rfl (by decide) (ce_4 kd_110) (by decide) hl.1 rfl rfl (Nat.le_of_ble_eq_true rfl) dL_law_647 ?_
  exact l_iceq (tgt := 1027) C dL_law_650 (by decide) (nxt h2 hI2)
set_option maxHeartbeats 4000000 in
theorem lk_21 (C : lc p s m meth c b L xs G) {i B : Nat} (hi : i + 4 ≤ L) (hL : L ≤ 2048) (hB : B < 2 ^ 27) (hI : INV B h) (hl : lv_has ls 4 [(3, .int (nI i)), (0, .ref b), (1, .ref (G.2.2.2.2 0)), (2, .ref (G.2.2.2.2 110))]) (nxt : ∀ h2 : PH, INV (B + 99) h2 → WL p l e s m b below meth c G h2 Q (F0 m 1027 ls [])) : WL p l e s m b below meth c G h Q (F0 m 655 ls []) := by
  obtain ⟨r, h1, h2, e1, e2, hI2⟩ := op_needs (bo (xs (i + 1))) B h hB hI
  refine l_aload C dL_law_655 rfl (lv_at hl 2 rfl) ?_
  refine l_arg (j := 1) C (by omega) hL (lv_at hl 1 rfl) (lv_at hl 0 rfl) (by decide) dL_law_656 dL_law_657 dL_law_658 dL_law_659 dL_law_660 ?_
  refine l_bool C dL_law_661 dL_law_664 dL_law_665 dL_law_668 ?_
  refine l_call (k := 0) (n := 1) (As := [.int (bo (xs (i + 1)))]) C ⟨w_co_X4_needs, w_im_X4_needs, w_se_X4_needs, w_in_X4, by decide +kernel, by decide⟩ w_ml_L_101 (c_X4_needs l G e1) kd_0 rfl (by decide) (ce_3 kd_0) (by decide) hl.1 rfl rfl (Nat.le_of_ble_eq_true rfl) dL_law_669 ?_
  refine l_aload C dL_law_672 rfl (lv_at hl 3 rfl) ?_
  refine l_arg (j := 1) C (by omega) hL (lv_at hl 1 rfl) (lv_at hl 0 rfl) (by decide) dL_law_673 dL_law_674 dL_law_675 dL_law_676 dL_law_677 ?_
  refine l_bool C dL_law_678 dL_law_681 dL_law_682 dL_law_685 ?_
  refine l_call (k := 110) (n := 1) (As := [.int (bo (xs (i + 1)))]) C ⟨w_co_X5_needs, w_im_X5_needs, w_se_X5_needs, w_in_X5, by decide +kernel, by decide⟩ w_ml_L_105 (c_X5_needs l G e2) kd_110 rfl (by decide) (ce_4 kd_110) (by decide) hl.1 rfl rfl (Nat.le_of_ble_eq_true rfl) dL_law_686 ?_
  exact l_iceq (tgt := 1027) C dL_law_689 (by decide) (nxt h2 hI2)
set_option maxHeartbeats 4000000 in
theorem lk_22 (C : lc p s m meth c b L xs G) {i B : Nat} (hi : i + 4 ≤ L) (hL : L ≤ 2048) (hB : B < 2 ^ 27) (hI : INV B h) (hl : lv_has ls 4 [(3, .int (nI i)), (0, .ref b), (1, .ref (G.2.2.2.2 0)), (2, .ref (G.2.2.2.2 110))]) (nxt : ∀ h2 : PH, INV (B + 99) h2 → WL p l e s m b below meth c G h2 Q (F0 m 1027 ls [])) : WL p l e s m b below meth c G h Q (F0 m 694 ls []) := by
  obtain ⟨r, h1, h2, e1, e2, hI2⟩ := op_judge (xs (i + 1)) (xs (i + 2)) B h hB hI
  refine l_aload C dL_law_694 rfl (lv_at hl 2 rfl) ?_
  refine l_arg (j := 1) C (by omega) hL (lv_at hl 1 rfl) (lv_at hl 0 rfl) (by decide) dL_law_695 dL_law_696 dL_law_697 dL_law_698 dL_law_699 ?_
  refine l_arg (j := 2) C (by omega) hL (lv_at hl 1 rfl) (lv_at hl 0 rfl) (by decide) dL_law_700 dL_law_701 dL_law_702 dL_law_703 dL_law_704 ?_
  refine l_call (k := 0) (n := 2) (As := [.int (xs (i + 1)), .int (xs (i + 2))]) C ⟨w_co_X4_judge, w_im_X4_judge, w_se_X4_judge, w_in_X4, by decide +kernel, by decide⟩ w_ml_L_106 (c_X4_judge l G e1) kd_0 rfl (by decide) (ce_3 kd_0) (by decide) hl.1 rfl rfl (Nat.le_of_ble_eq_true rfl) dL_law_705 ?_
  refine l_aload C dL_law_708 rfl (lv_at hl 3 rfl) ?_
  refine l_arg (j := 1) C (by omega) hL (lv_at hl 1 rfl) (lv_at hl 0 rfl) (by decide) dL_law_709 dL_law_710 dL_law_711 dL_law_712 dL_law_713 ?_
  refine l_arg (j := 2) C (by omega) hL (lv_at hl 1 rfl) (lv_at hl 0 rfl) (by decide) dL_law_714 dL_law_715 dL_law_716 dL_law_717 dL_law_718 ?_
  refine l_call (k := 110) (n := 2) (As := [.int (xs (i + 1)), .int (xs (i + 2))]) C ⟨w_co_X5_judge, w_im_X5_judge, w_se_X5_judge, w_in_X5, by decide +kernel, by decide⟩ w_ml_L_109 (c_X5_judge l G e2) kd_110 rfl (by decide) (ce_4 kd_110) (by decide) hl.1 rfl rfl (Nat.le_of_ble_eq_true rfl) dL_law_719 ?_
  exact l_iceq (tgt := 1027) C dL_law_722 (by decide) (nxt h2 hI2)
set_option maxHeartbeats 4000000 in
theorem lk_23 (C : lc p s m meth c b L xs G) {i B : Nat} (hi : i + 4 ≤ L) (hL : L ≤ 2048) (hB : B < 2 ^ 27) (hI : INV B h) (hl : lv_has ls 4 [(3, .int (nI i)), (0, .ref b), (1, .ref (G.2.2.2.2 0)), (2, .ref (G.2.2.2.2 110))]) (nxt : ∀ h2 : PH, INV (B + 99) h2 → WL p l e s m b below meth c G h2 Q (F0 m 1027 ls [])) : WL p l e s m b below meth c G h Q (F0 m 727 ls []) := by
  obtain ⟨r, h1, h2, e1, e2, hI2⟩ := op_see (xs (i + 1)) (xs (i + 2)) (xs (i + 3)) B h hB hI
  refine l_aload C dL_law_727 rfl (lv_at hl 2 rfl) ?_
  refine l_arg (j := 1) C (by omega) hL (lv_at hl 1 rfl) (lv_at hl 0 rfl) (by decide) dL_law_728 dL_law_729 dL_law_730 dL_law_731 dL_law_732 ?_
  refine l_arg (j := 2) C (by omega) hL (lv_at hl 1 rfl) (lv_at hl 0 rfl) (by decide) dL_law_733 dL_law_734 dL_law_735 dL_law_736 dL_law_737 ?_
  refine l_arg (j := 3) C (by omega) hL (lv_at hl 1 rfl) (lv_at hl 0 rfl) (by decide) dL_law_738 dL_law_739 dL_law_740 dL_law_741 dL_law_742 ?_
  refine l_call (k := 0) (n := 3) (As := [.int (xs (i + 1)), .int (xs (i + 2)), .int (xs (i + 3))]) C ⟨w_co_X4_see, w_im_X4_see, w_se_X4_see, w_in_X4, by decide +kernel, by decide⟩ w_ml_L_110 (c_X4_see l G e1) kd_0 rfl (by decide) (ce_3 kd_0) (by decide) hl.1 rfl rfl (Nat.le_of_ble_eq_true rfl) dL_law_743 ?_
  refine l_aload C dL_law_746 rfl (lv_at hl 3 rfl) ?_
  refine l_arg (j := 1) C (by omega) hL (lv_at hl 1 rfl) (lv_at hl 0 rfl) (by decide) dL_law_747 dL_law_748 dL_law_749 dL_law_750 dL_law_751 ?_
  refine l_arg (j := 2) C (by omega) hL (lv_at hl 1 rfl) (lv_at hl 0 rfl) (by decide) dL_law_752 dL_law_753 dL_law_754 dL_law_755 dL_law_756 ?_
  refine l_arg (j := 3) C (by omega) hL (lv_at hl 1 rfl) (lv_at hl 0 rfl) (by decide) dL_law_757 dL_law_758 dL_law_759 dL_law_760 dL_law_761 ?_
  refine l_call (k := 110) (n := 3) (As := [.int (xs (i + 1)), .int (xs (i + 2)), .int (xs (i + 3))]) C ⟨w_co_X5_see, w_im_X5_see, w_se_X5_see, w_in_X5, by decide +kernel, by decide⟩ w_ml_L_114 (c_X5_see l G e2) kd_110 rfl (by decide) (ce_4 kd_110) (by decide) hl.1 rfl rfl (Nat.le_of_ble_eq_true rfl) dL_law_762 ?_
  exact l_iceq (tgt := 1027) C dL_law_765 (by decide) (nxt h2 hI2)
set_option maxHeartbeats 4000000 in
theorem lk_24 (C : lc p s m meth c b L xs G) {i B : Nat} (hi : i + 4 ≤ L) (hL : L ≤ 2048) (hB : B < 2 ^ 27) (hI : INV B h) (hl : lv_has ls 4 [(3, .int (nI i)), (0, .ref b), (1, .ref (G.2.2.2.2 0)), (2, .ref (G.2.2.2.2 110))]) (nxt : ∀ h2 : PH, INV (B + 99) h2 → WL p l e s m b below meth c G h2 Q (F0 m 1027 ls [])) : WL p l e s m b below meth c G h Q (F0 m 770 ls []) := by
  obtain ⟨r, h1, h2, e1, e2, hI2⟩ := op_unsee  B h hB hI
  refine l_aload C dL_law_770 rfl (lv_at hl 2 rfl) ?_
  refine l_call (k := 0) (n := 0) (As := []) C ⟨w_co_X4_unsee, w_im_X4_unsee, w_se_X4_unsee, w_in_X4, by decide +kernel, by decide⟩ w_ml_L_115 (c_X4_unsee l G e1) kd_0 rfl (by decide) (ce_3 kd_0) (by decide) hl.1 rfl rfl (Nat.le_of_ble_eq_true rfl) dL_law_771 ?_
  refine l_aload C dL_law_774 rfl (lv_at hl 3 rfl) ?_
  refine l_call (k := 110) (n := 0) (As := []) C ⟨w_co_X5_unsee, w_im_X5_unsee, w_se_X5_unsee, w_in_X5, by decide +kernel, by decide⟩ w_ml_L_118 (c_X5_unsee l G e2) kd_110 rfl (by decide) (ce_4 kd_110) (by decide) hl.1 rfl rfl (Nat.le_of_ble_eq_true rfl) dL_law_775 ?_
  exact l_iceq (tgt := 1027) C dL_law_778 (by decide) (nxt h2 hI2)
set_option maxHeartbeats 4000000 in
theorem lk_25 (C : lc p s m meth c b L xs G) {i B : Nat} (hi : i + 4 ≤ L) (hL : L ≤ 2048) (hB : B < 2 ^ 27) (hI : INV B h) (hl : lv_has ls 4 [(3, .int (nI i)), (0, .ref b), (1, .ref (G.2.2.2.2 0)), (2, .ref (G.2.2.2.2 110))]) (nxt : ∀ h2 : PH, INV (B + 99) h2 → WL p l e s m b below meth c G h2 Q (F0 m 1027 ls [])) : WL p l e s m b below meth c G h Q (F0 m 783 ls []) := by
  obtain ⟨r, h1, h2, e1, e2, hI2⟩ := op_which  B h hB hI
  refine l_aload C dL_law_783 rfl (lv_at hl 2 rfl) ?_
  refine l_call (k := 0) (n := 0) (As := []) C ⟨w_co_X4_which, w_im_X4_which, w_se_X4_which, w_in_X4, by decide +kernel, by decide⟩ w_ml_L_119 (c_X4_which l G e1) kd_0 rfl (by decide) (ce_3 kd_0) (by decide) hl.1 rfl rfl (Nat.le_of_ble_eq_true rfl) dL_law_784 ?_
  refine l_aload C dL_law_787 rfl (lv_at hl 3 rfl) ?_
  refine l_call (k := 110) (n := 0) (As := []) C ⟨w_co_X5_which, w_im_X5_which, w_se_X5_which, w_in_X5, by decide +kernel, by decide⟩ w_ml_L_122 (c_X5_which l G e2) kd_110 rfl (by decide) (ce_4 kd_110) (by decide) hl.1 rfl rfl (Nat.le_of_ble_eq_true rfl) dL_law_788 ?_
  exact l_iceq (tgt := 1027) C dL_law_791 (by decide) (nxt h2 hI2)
set_option maxHeartbeats 4000000 in
theorem lk_26 (C : lc p s m meth c b L xs G) {i B : Nat} (hi : i + 4 ≤ L) (hL : L ≤ 2048) (hB : B < 2 ^ 27) (hI : INV B h) (hl : lv_has ls 4 [(3, .int (nI i)), (0, .ref b), (1, .ref (G.2.2.2.2 0)), (2, .ref (G.2.2.2.2 110))]) (nxt : ∀ h2 : PH, INV (B + 99) h2 → WL p l e s m b below meth c G h2 Q (F0 m 1027 ls [])) : WL p l e s m b below meth c G h Q (F0 m 796 ls []) := by
  obtain ⟨r, h1, h2, e1, e2, hI2⟩ := op_share (xs (i + 1)) (bo (xs (i + 2))) B h hB hI
  refine l_aload C dL_law_796 rfl (lv_at hl 2 rfl) ?_
  refine l_arg (j := 1) C (by omega) hL (lv_at hl 1 rfl) (lv_at hl 0 rfl) (by decide) dL_law_797 dL_law_798 dL_law_799 dL_law_800 dL_law_801 ?_
  refine l_arg (j := 2) C (by omega) hL (lv_at hl 1 rfl) (lv_at hl 0 rfl) (by decide) dL_law_802 dL_law_803 dL_law_804 dL_law_805 dL_law_806 ?_
  refine l_bool C dL_law_807 dL_law_810 dL_law_811 dL_law_814 ?_
  refine l_call (k := 0) (n := 2) (As := [.int (xs (i + 1)), .int (bo (xs (i + 2)))]) C ⟨w_co_X4_share, w_im_X4_share, w_se_X4_share, w_in_X4, by decide +kernel, by decide⟩ w_ml_L_123 (c_X4_share l G e1) kd_0 rfl (by decide) (ce_3 kd_0) (by decide) hl.1 rfl rfl (Nat.le_of_ble_eq_true rfl) dL_law_815 ?_
  refine l_aload C dL_law_818 rfl (lv_at hl 3 rfl) ?_
  refine l_arg (j := 1) C (by omega) hL (lv_at hl 1 rfl) (lv_at hl 0 rfl) (by decide) dL_law_819 dL_law_820 dL_law_821 dL_law_822 dL_law_823 ?_
  refine l_arg (j := 2) C (by omega) hL (lv_at hl 1 rfl) (lv_at hl 0 rfl) (by decide) dL_law_824 dL_law_825 dL_law_826 dL_law_827 dL_law_828 ?_
  refine l_bool C dL_law_829 dL_law_832 dL_law_833 dL_law_836 ?_
  refine l_call (k := 110) (n := 2) (As := [.int (xs (i + 1)), .int (bo (xs (i + 2)))]) C ⟨w_co_X5_share, w_im_X5_share, w_se_X5_share, w_in_X5, by decide +kernel, by decide⟩ w_ml_L_127 (c_X5_share l G e2) kd_110 rfl (by decide) (ce_4 kd_110) (by decide) hl.1 rfl rfl (Nat.le_of_ble_eq_true rfl) dL_law_837 ?_
  exact l_iceq (tgt := 1027) C dL_law_840 (by decide) (nxt h2 hI2)
set_option maxHeartbeats 4000000 in
theorem lk_27 (C : lc p s m meth c b L xs G) {i B : Nat} (hi : i + 4 ≤ L) (hL : L ≤ 2048) (hB : B < 2 ^ 27) (hI : INV B h) (hl : lv_has ls 4 [(3, .int (nI i)), (0, .ref b), (1, .ref (G.2.2.2.2 0)), (2, .ref (G.2.2.2.2 110))]) (nxt : ∀ h2 : PH, INV (B + 99) h2 → WL p l e s m b below meth c G h2 Q (F0 m 1027 ls [])) : WL p l e s m b below meth c G h Q (F0 m 845 ls []) := by
  obtain ⟨r, h1, h2, e1, e2, hI2⟩ := op_chance (xs (i + 1)) (xs (i + 2)) (bo (xs (i + 3))) B h hB hI
  refine l_aload C dL_law_845 rfl (lv_at hl 2 rfl) ?_
  refine l_arg (j := 1) C (by omega) hL (lv_at hl 1 rfl) (lv_at hl 0 rfl) (by decide) dL_law_846 dL_law_847 dL_law_848 dL_law_849 dL_law_850 ?_
  refine l_arg (j := 2) C (by omega) hL (lv_at hl 1 rfl) (lv_at hl 0 rfl) (by decide) dL_law_851 dL_law_852 dL_law_853 dL_law_854 dL_law_855 ?_
  refine l_arg (j := 3) C (by omega) hL (lv_at hl 1 rfl) (lv_at hl 0 rfl) (by decide) dL_law_856 dL_law_857 dL_law_858 dL_law_859 dL_law_860 ?_
  refine l_bool C dL_law_861 dL_law_864 dL_law_865 dL_law_868 ?_
  refine l_call (k := 0) (n := 3) (As := [.int (xs (i + 1)), .int (xs (i + 2)), .int (bo (xs (i + 3)))]) C ⟨w_co_X4_chance, w_im_X4_chance, w_se_X4_chance, w_in_X4, by decide +kernel, by decide⟩ w_ml_L_128 (c_X4_chance l G e1) kd_0 rfl (by decide) (ce_3 kd_0) (by decide) hl.1 rfl rfl (Nat.le_of_ble_eq_true rfl) dL_law_869 ?_
  refine l_aload C dL_law_872 rfl (lv_at hl 3 rfl) ?_
  refine l_arg (j := 1) C (by omega) hL (lv_at hl 1 rfl) (lv_at hl 0 rfl) (by decide) dL_law_873 dL_law_874 dL_law_875 dL_law_876 dL_law_877 ?_
  refine l_arg (j := 2) C (by omega) hL (lv_at hl 1 rfl) (lv_at hl 0 rfl) (by decide) dL_law_878 dL_law_879 dL_law_880 dL_law_881 dL_law_882 ?_
  refine l_arg (j := 3) C (by omega) hL (lv_at hl 1 rfl) (lv_at hl 0 rfl) (by decide) dL_law_883 dL_law_884 dL_law_885 dL_law_886 dL_law_887 ?_
  refine l_bool C dL_law_888 dL_law_891 dL_law_892 dL_law_895 ?_
  refine l_call (k := 110) (n := 3) (As := [.int (xs (i + 1)), .int (xs (i + 2)), .int (bo (xs (i + 3)))]) C ⟨w_co_X5_chance, w_im_X5_chance, w_se_X5_chance, w_in_X5, by decide +kernel, by decide⟩ w_ml_L_132 (c_X5_chance l G e2) kd_110 rfl (by decide) (ce_4 kd_110) (by decide) hl.1 rfl rfl (Nat.le_of_ble_eq_true rfl) dL_law_896 ?_
  exact l_iceq (tgt := 1027) C dL_law_899 (by decide) (nxt h2 hI2)
set_option maxHeartbeats 4000000 in
theorem lk_28 (C : lc p s m meth c b L xs G) {i B : Nat} (hi : i + 4 ≤ L) (hL : L ≤ 2048) (hB : B < 2 ^ 27) (hI : INV B h) (hl : lv_has ls 4 [(3, .int (nI i)), (0, .ref b), (1, .ref (G.2.2.2.2 0)), (2, .ref (G.2.2.2.2 110))]) (nxt : ∀ h2 : PH, INV (B + 99) h2 → WL p l e s m b below meth c G h2 Q (F0 m 1027 ls [])) : WL p l e s m b below meth c G h Q (F0 m 904 ls []) := by
  obtain ⟨r, h1, h2, e1, e2, hI2⟩ := op_seed (sdv (xs (i + 1)) (xs (i + 2))) B h hI
  refine l_aload C dL_law_904 rfl (lv_at hl 2 rfl) ?_
  refine l_arg (j := 1) C (by omega) hL (lv_at hl 1 rfl) (lv_at hl 0 rfl) (by decide) dL_law_905 dL_law_906 dL_law_907 dL_law_908 dL_law_909 ?_
  refine l_l (fun H locs => lv_i2l C.1.1 C.1.2.1 dL_law_910 rfl) ?_
  refine l_bipush (v := 32) C dL_law_911 (by decide) ?_
  refine l_l (fun H locs => lv_lshl C.1.1 C.1.2.1 dL_law_913 rfl) ?_
  refine l_arg (j := 2) C (by omega) hL (lv_at hl 1 rfl) (lv_at hl 0 rfl) (by decide) dL_law_914 dL_law_915 dL_law_916 dL_law_917 dL_law_918 ?_
  refine l_l (fun H locs => lv_i2l C.1.1 C.1.2.1 dL_law_919 rfl) ?_
  refine l_l (fun H locs => lv_ldc2 C.1.1 C.1.2.1 C.1.2.2.2.1 (C.1.2.2.2.2.1 _ w_k_L_133) dL_law_920) ?_
  refine l_l (fun H locs => lv_land C.1.1 C.1.2.1 dL_law_923) ?_
  refine l_l (fun H locs => lv_lor C.1.1 C.1.2.1 dL_law_924) ?_
  refine l_callL (k := 0) (n := 1) (As := [.long (sdv (xs (i + 1)) (xs (i + 2)))]) C ⟨w_co_X4_seed, w_im_X4_seed, w_se_X4_seed, w_in_X4, by decide +kernel, by decide⟩ w_ml_L_135 (c_X4_seed l G e1) kd_0 rfl (by decide) (ce_3 kd_0) (by decide) hl.1 rfl rfl (Nat.le_of_ble_eq_true rfl) dL_law_925 ?_
  refine l_aload C dL_law_928 rfl (lv_at hl 3 rfl) ?_
  refine l_arg (j := 1) C (by omega) hL (lv_at hl 1 rfl) (lv_at hl 0 rfl) (by decide) dL_law_929 dL_law_930 dL_law_931 dL_law_932 dL_law_933 ?_
  refine l_l (fun H locs => lv_i2l C.1.1 C.1.2.1 dL_law_934 rfl) ?_
  refine l_bipush (v := 32) C dL_law_935 (by decide) ?_
  refine l_l (fun H locs => lv_lshl C.1.1 C.1.2.1 dL_law_937 rfl) ?_
  refine l_arg (j := 2) C (by omega) hL (lv_at hl 1 rfl) (lv_at hl 0 rfl) (by decide) dL_law_938 dL_law_939 dL_law_940 dL_law_941 dL_law_942 ?_
  refine l_l (fun H locs => lv_i2l C.1.1 C.1.2.1 dL_law_943 rfl) ?_
  refine l_l (fun H locs => lv_ldc2 C.1.1 C.1.2.1 C.1.2.2.2.1 (C.1.2.2.2.2.1 _ w_k_L_133) dL_law_944) ?_
  refine l_l (fun H locs => lv_land C.1.1 C.1.2.1 dL_law_947) ?_
  refine l_l (fun H locs => lv_lor C.1.1 C.1.2.1 dL_law_948) ?_
  refine l_callL (k := 110) (n := 1) (As := [.long (sdv (xs (i + 1)) (xs (i + 2)))]) C ⟨w_co_X5_seed, w_im_X5_seed, w_se_X5_seed, w_in_X5, by decide +kernel, by decide⟩ w_ml_L_139 (c_X5_seed l G e2) kd_110 rfl (by decide) (ce_4 kd_110) (by decide) hl.1 rfl rfl (Nat.le_of_ble_eq_true rfl) dL_law_949 ?_
  refine l_l (fun H locs => W.lcmp C.1.1 C.1.2.1 dL_law_952) ?_
  exact l_ifeq (tgt := 1027) C dL_law_953 (by decide) (fun _ => nxt h2 hI2) (fun z => absurd (lg_self r) z)
set_option maxHeartbeats 4000000 in
theorem lk_29 (C : lc p s m meth c b L xs G) {i B : Nat} (hi : i + 4 ≤ L) (hL : L ≤ 2048) (hB : B < 2 ^ 27) (hI : INV B h) (hl : lv_has ls 4 [(3, .int (nI i)), (0, .ref b), (1, .ref (G.2.2.2.2 0)), (2, .ref (G.2.2.2.2 110))]) (nxt : ∀ h2 : PH, INV (B + 99) h2 → WL p l e s m b below meth c G h2 Q (F0 m 1027 ls [])) : WL p l e s m b below meth c G h Q (F0 m 958 ls []) := by
  obtain ⟨r, h1, h2, e1, e2, hI2⟩ := op_drawn (xs (i + 1)) B h hB hI
  refine l_aload C dL_law_958 rfl (lv_at hl 2 rfl) ?_
  refine l_arg (j := 1) C (by omega) hL (lv_at hl 1 rfl) (lv_at hl 0 rfl) (by decide) dL_law_959 dL_law_960 dL_law_961 dL_law_962 dL_law_963 ?_
  refine l_call (k := 0) (n := 1) (As := [.int (xs (i + 1))]) C ⟨w_co_X4_drawn, w_im_X4_drawn, w_se_X4_drawn, w_in_X4, by decide +kernel, by decide⟩ w_ml_L_140 (c_X4_drawn l G e1) kd_0 rfl (by decide) (ce_3 kd_0) (by decide) hl.1 rfl rfl (Nat.le_of_ble_eq_true rfl) dL_law_964 ?_
  refine l_aload C dL_law_967 rfl (lv_at hl 3 rfl) ?_
  refine l_arg (j := 1) C (by omega) hL (lv_at hl 1 rfl) (lv_at hl 0 rfl) (by decide) dL_law_968 dL_law_969 dL_law_970 dL_law_971 dL_law_972 ?_
  refine l_call (k := 110) (n := 1) (As := [.int (xs (i + 1))]) C ⟨w_co_X5_drawn, w_im_X5_drawn, w_se_X5_drawn, w_in_X5, by decide +kernel, by decide⟩ w_ml_L_143 (c_X5_drawn l G e2) kd_110 rfl (by decide) (ce_4 kd_110) (by decide) hl.1 rfl rfl (Nat.le_of_ble_eq_true rfl) dL_law_973 ?_
  exact l_iceq (tgt := 1027) C dL_law_976 (by decide) (nxt h2 hI2)
set_option maxHeartbeats 4000000 in
theorem lk_30 (C : lc p s m meth c b L xs G) {i B : Nat} (hi : i + 4 ≤ L) (hL : L ≤ 2048) (hB : B < 2 ^ 27) (hI : INV B h) (hl : lv_has ls 4 [(3, .int (nI i)), (0, .ref b), (1, .ref (G.2.2.2.2 0)), (2, .ref (G.2.2.2.2 110))]) (nxt : ∀ h2 : PH, INV (B + 99) h2 → WL p l e s m b below meth c G h2 Q (F0 m 1027 ls [])) : WL p l e s m b below meth c G h Q (F0 m 981 ls []) := by
  obtain ⟨r, h1, h2, e1, e2, hI2⟩ := op_keep (xs (i + 1)) B h hB hI
  refine l_aload C dL_law_981 rfl (lv_at hl 2 rfl) ?_
  refine l_arg (j := 1) C (by omega) hL (lv_at hl 1 rfl) (lv_at hl 0 rfl) (by decide) dL_law_982 dL_law_983 dL_law_984 dL_law_985 dL_law_986 ?_
  refine l_call (k := 0) (n := 1) (As := [.int (xs (i + 1))]) C ⟨w_co_X4_keep, w_im_X4_keep, w_se_X4_keep, w_in_X4, by decide +kernel, by decide⟩ w_ml_L_144 (c_X4_keep l G e1) kd_0 rfl (by decide) (ce_3 kd_0) (by decide) hl.1 rfl rfl (Nat.le_of_ble_eq_true rfl) dL_law_987 ?_
  refine l_aload C dL_law_990 rfl (lv_at hl 3 rfl) ?_
  refine l_arg (j := 1) C (by omega) hL (lv_at hl 1 rfl) (lv_at hl 0 rfl) (by decide) dL_law_991 dL_law_992 dL_law_993 dL_law_994 dL_law_995 ?_
  refine l_call (k := 110) (n := 1) (As := [.int (xs (i + 1))]) C ⟨w_co_X5_keep, w_im_X5_keep, w_se_X5_keep, w_in_X5, by decide +kernel, by decide⟩ w_ml_L_147 (c_X5_keep l G e2) kd_110 rfl (by decide) (ce_4 kd_110) (by decide) hl.1 rfl rfl (Nat.le_of_ble_eq_true rfl) dL_law_996 ?_
  exact l_iceq (tgt := 1027) C dL_law_999 (by decide) (nxt h2 hI2)
set_option maxHeartbeats 4000000 in
theorem lk_31 (C : lc p s m meth c b L xs G) {i B : Nat} (hi : i + 4 ≤ L) (hL : L ≤ 2048) (hB : B < 2 ^ 27) (hI : INV B h) (hl : lv_has ls 4 [(3, .int (nI i)), (0, .ref b), (1, .ref (G.2.2.2.2 0)), (2, .ref (G.2.2.2.2 110))]) (nxt : ∀ h2 : PH, INV (B + 99) h2 → WL p l e s m b below meth c G h2 Q (F0 m 1027 ls [])) : WL p l e s m b below meth c G h Q (F0 m 1004 ls []) := by
  obtain ⟨r, h1, h2, e1, e2, hI2⟩ := op_again (xs (i + 1)) B h hB hI
  refine l_aload C dL_law_1004 rfl (lv_at hl 2 rfl) ?_
  refine l_arg (j := 1) C (by omega) hL (lv_at hl 1 rfl) (lv_at hl 0 rfl) (by decide) dL_law_1005 dL_law_1006 dL_law_1007 dL_law_1008 dL_law_1009 ?_
  refine l_call (k := 0) (n := 1) (As := [.int (xs (i + 1))]) C ⟨w_co_X4_again, w_im_X4_again, w_se_X4_again, w_in_X4, by decide +kernel, by decide⟩ w_ml_L_148 (c_X4_again l G e1) kd_0 rfl (by decide) (ce_3 kd_0) (by decide) hl.1 rfl rfl (Nat.le_of_ble_eq_true rfl) dL_law_1010 ?_
  refine l_aload C dL_law_1013 rfl (lv_at hl 3 rfl) ?_
  refine l_arg (j := 1) C (by omega) hL (lv_at hl 1 rfl) (lv_at hl 0 rfl) (by decide) dL_law_1014 dL_law_1015 dL_law_1016 dL_law_1017 dL_law_1018 ?_
  refine l_call (k := 110) (n := 1) (As := [.int (xs (i + 1))]) C ⟨w_co_X5_again, w_im_X5_again, w_se_X5_again, w_in_X5, by decide +kernel, by decide⟩ w_ml_L_151 (c_X5_again l G e2) kd_110 rfl (by decide) (ce_4 kd_110) (by decide) hl.1 rfl rfl (Nat.le_of_ble_eq_true rfl) dL_law_1019 ?_
  exact l_iceq (tgt := 1027) C dL_law_1022 (by decide) (nxt h2 hI2)
end
