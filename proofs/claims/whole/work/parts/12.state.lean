def f_X3_addEntry (o : Nat) (a1 : Int32) (h : PH) : Option (Unit × PH) := gd o 2 (if (24 : Int32) ≤ (h.1 o 6) then some ((), h) else wr h (o + 4) (h.1 o 6) a1 (fun h1 => st h1 o 6 ((h1.1 o 6) + (1 : Int32)) (fun h2 => some ((), h2))))
set_option maxHeartbeats 4000000 in
set_option maxRecDepth 100000 in
theorem c_X3_addEntry (l : Launch) (G : GG) {o : Nat} {a1 : Int32} {h : PH} {res : Unit × PH} (hF : f_X3_addEntry o a1 h = some res) : MV l G yX3_addEntry cX3_addEntry 2 0 [.ref (G.2.2.2.2 o), .int a1] h res := by
  unfold f_X3_addEntry at hF
  obtain ⟨hko, hF⟩ := gd_so hF
  refine MV_of (by decide +kernel) (Nat.le_of_ble_eq_true rfl) ?_
  intro p e s m args below meth c ls C hl
  have hK := hF
  clear hF
  have hl : lv_has ls 2 [(0, .ref (G.2.2.2.2 o)), (1, .int a1)] := hl
  have C : cx p s m args meth c G RX3 cX3_addEntry 2 none := C
  refine q_aload_n C dX3_addEntry_0 rfl (lv_at hl 0 rfl) ?_
  refine g_X3_entryCount C hko w_fl_X3_38 dX3_addEntry_1 ?_
  refine q_bipush C (v := 24) dX3_addEntry_4 (by decide) ?_
  refine q_icmp_ge C dX3_addEntry_6 (tgt := 29) (by decide) (fun hc => ?_) (fun hc => ?_)
  · replace hK := if_po hc hK
    cases hK
    exact q_vret C dX3_addEntry_29
  · replace hK := if_ne hc hK
    refine q_aload_n C dX3_addEntry_9 rfl (lv_at hl 0 rfl) ?_
    refine g_X3_entries C hko w_fl_X3_21 dX3_addEntry_10 ?_
    refine q_aload_n C dX3_addEntry_13 rfl (lv_at hl 0 rfl) ?_
    refine g_X3_entryCount C hko w_fl_X3_38 dX3_addEntry_14 ?_
    refine q_iload_n C dX3_addEntry_17 rfl (lv_at hl 1 rfl) ?_
    obtain ⟨h1, hh1, hK⟩ := wr_so hK
    refine q_iast C (kd_s4 hko) hh1 dX3_addEntry_18 ?_
    refine q_aload_n C dX3_addEntry_19 rfl (lv_at hl 0 rfl) ?_
    refine q_dup C dX3_addEntry_20 rfl ?_
    refine g_X3_entryCount C hko w_fl_X3_38 dX3_addEntry_21 ?_
    refine q_iconst C (v := 1) dX3_addEntry_24 (by decide) ?_
    refine q_iadd C dX3_addEntry_25 ?_
    obtain ⟨h2, hh2, hK⟩ := st_so hK
    refine p_X3_entryCount C hko w_fl_X3_38 hh2 dX3_addEntry_26 ?_
    cases hK
    exact q_vret C dX3_addEntry_29
theorem s_X3_addEntry : sv yX3_addEntry cX3_addEntry 2 none 1 := ⟨w_co_X3_addEntry, w_im_X3_addEntry, w_se_X3_addEntry, w_in_X3, by decide +kernel, by decide⟩
def f_X3_stock (o : Nat) (a1 : Int32) (h : PH) : Option (Int32 × PH) := gd o 2 (if a1 = 0 then some ((h.1 o 7), h) else some ((h.1 o 8), h))
set_option maxHeartbeats 4000000 in
set_option maxRecDepth 100000 in
theorem c_X3_stock (l : Launch) (G : GG) {o : Nat} {a1 : Int32} {h : PH} {res : Int32 × PH} (hF : f_X3_stock o a1 h = some res) : MI l G yX3_stock cX3_stock 2 .int 0 [.ref (G.2.2.2.2 o), .int a1] h res := by
  unfold f_X3_stock at hF
  obtain ⟨hko, hF⟩ := gd_so hF
  refine MI_of (by decide +kernel) (Nat.le_of_ble_eq_true rfl) ?_
  intro p e s m args below meth c ls C hl
  have hK := hF
  clear hF
  have hl : lv_has ls 2 [(0, .ref (G.2.2.2.2 o)), (1, .int a1)] := hl
  have C : cx p s m args meth c G RX3 cX3_stock 2 (some .int) := C
  refine q_iload_n C dX3_stock_0 rfl (lv_at hl 1 rfl) ?_
  refine q_if_eq C dX3_stock_1 (tgt := 11) (by decide) (fun hc => ?_) (fun hc => ?_)
  · replace hK := if_po hc hK
    refine q_aload_n C dX3_stock_11 rfl (lv_at hl 0 rfl) ?_
    refine g_X3_caps C hko w_fl_X3_41 dX3_stock_12 ?_
    cases hK
    exact q_iret C dX3_stock_15
  · replace hK := if_ne hc hK
    refine q_aload_n C dX3_stock_4 rfl (lv_at hl 0 rfl) ?_
    refine g_X3_labels C hko w_fl_X3_44 dX3_stock_5 ?_
    refine q_goto C dX3_stock_8 (tgt := 15) (by decide) ?_
    cases hK
    exact q_iret C dX3_stock_15
theorem s_X3_stock : sv yX3_stock cX3_stock 2 (some .int) 1 := ⟨w_co_X3_stock, w_im_X3_stock, w_se_X3_stock, w_in_X3, by decide +kernel, by decide⟩
def f_X3_addStock (o : Nat) (a1 : Int32) (a2 : Int32) (h : PH) : Option (Unit × PH) := gd o 2 (if a1 = 0 then st h o 7 (imn (99 : Int32) ((h.1 o 7) + a2)) (fun h1 => some ((), h1)) else st h o 8 (imn (99 : Int32) ((h.1 o 8) + a2)) (fun h2 => some ((), h2)))
set_option maxHeartbeats 4000000 in
set_option maxRecDepth 100000 in
theorem c_X3_addStock (l : Launch) (G : GG) {o : Nat} {a1 : Int32} {a2 : Int32} {h : PH} {res : Unit × PH} (hF : f_X3_addStock o a1 a2 h = some res) : MV l G yX3_addStock cX3_addStock 3 1 [.ref (G.2.2.2.2 o), .int a1, .int a2] h res := by
  unfold f_X3_addStock at hF
  obtain ⟨hko, hF⟩ := gd_so hF
  refine MV_of (by decide +kernel) (Nat.le_of_ble_eq_true rfl) ?_
  intro p e s m args below meth c ls C hl
  have hK := hF
  clear hF
  have hl : lv_has ls 3 [(0, .ref (G.2.2.2.2 o)), (1, .int a1), (2, .int a2)] := hl
  have C : cx p s m args meth c G RX3 cX3_addStock 3 none := C
  refine q_iload_n C dX3_addStock_0 rfl (lv_at hl 1 rfl) ?_
  refine q_if_eq C dX3_addStock_1 (tgt := 22) (by decide) (fun hc => ?_) (fun hc => ?_)
  · replace hK := if_po hc hK
    refine q_aload_n C dX3_addStock_22 rfl (lv_at hl 0 rfl) ?_
    refine q_bipush C (v := 99) dX3_addStock_23 (by decide) ?_
    refine q_aload_n C dX3_addStock_25 rfl (lv_at hl 0 rfl) ?_
    refine g_X3_caps C hko w_fl_X3_41 dX3_addStock_26 ?_
    refine q_iload_n C dX3_addStock_29 rfl (lv_at hl 2 rfl) ?_
    refine q_iadd C dX3_addStock_30 ?_
    refine q_min C (by decide) hl.1 w_ml_X3_88 (Nat.le_of_ble_eq_true rfl) dX3_addStock_31 ?_
    obtain ⟨h1, hh1, hK⟩ := st_so hK
    refine p_X3_caps C hko w_fl_X3_41 hh1 dX3_addStock_34 ?_
    cases hK
    exact q_vret C dX3_addStock_37
  · replace hK := if_ne hc hK
    refine q_aload_n C dX3_addStock_4 rfl (lv_at hl 0 rfl) ?_
    refine q_bipush C (v := 99) dX3_addStock_5 (by decide) ?_
    refine q_aload_n C dX3_addStock_7 rfl (lv_at hl 0 rfl) ?_
    refine g_X3_labels C hko w_fl_X3_44 dX3_addStock_8 ?_
    refine q_iload_n C dX3_addStock_11 rfl (lv_at hl 2 rfl) ?_
    refine q_iadd C dX3_addStock_12 ?_
    refine q_min C (by decide) hl.1 w_ml_X3_88 (Nat.le_of_ble_eq_true rfl) dX3_addStock_13 ?_
    obtain ⟨h2, hh2, hK⟩ := st_so hK
    refine p_X3_labels C hko w_fl_X3_44 hh2 dX3_addStock_16 ?_
    refine q_goto C dX3_addStock_19 (tgt := 37) (by decide) ?_
    cases hK
    exact q_vret C dX3_addStock_37
theorem s_X3_addStock : sv yX3_addStock cX3_addStock 3 none 2 := ⟨w_co_X3_addStock, w_im_X3_addStock, w_se_X3_addStock, w_in_X3, by decide +kernel, by decide⟩
def f_X3_copyFrom (o : Nat) (r1 : Nat) (h : PH) : Option (Unit × PH) := gd o 2 (gd r1 2 (cp h (r1 + 1) (0 : Int32) (o + 1) (0 : Int32) (9 : Int32) (fun h1 => cp h1 (r1 + 2) (0 : Int32) (o + 2) (0 : Int32) (9 : Int32) (fun h2 => cp h2 (r1 + 3) (0 : Int32) (o + 3) (0 : Int32) (4 : Int32) (fun h3 => st h3 o 4 (h3.1 r1 4) (fun h4 => cp h4 (r1 + 4) (0 : Int32) (o + 4) (0 : Int32) (24 : Int32) (fun h5 => st h5 o 6 (h5.1 r1 6) (fun h6 => st h6 o 7 (h6.1 r1 7) (fun h7 => st h7 o 8 (h7.1 r1 8) (fun h8 => st h8 o 9 (h8.1 r1 9) (fun h9 => bz (h9.1 r1 10) (st h9 o 10 (h9.1 r1 10) (fun h11 => bz (h11.1 r1 11) (st h11 o 11 (h11.1 r1 11) (fun h13 => st h13 o 12 (h13.1 r1 12) (fun h14 => st h14 o 13 (h14.1 r1 13) (fun h15 => st h15 o 14 (h15.1 r1 14) (fun h16 => st h16 o 15 (h16.1 r1 15) (fun h17 => st h17 o 16 (h17.1 r1 16) (fun h18 => st h18 o 17 (h18.1 r1 17) (fun h19 => some ((), h19))))))))))))))))))))))
set_option maxHeartbeats 4000000 in
set_option maxRecDepth 100000 in
theorem c_X3_copyFrom (l : Launch) (G : GG) {o : Nat} {r1 : Nat} {h : PH} {res : Unit × PH} (hF : f_X3_copyFrom o r1 h = some res) : MV l G yX3_copyFrom cX3_copyFrom 2 1 [.ref (G.2.2.2.2 o), .ref (G.2.2.2.2 r1)] h res := by
  unfold f_X3_copyFrom at hF
  obtain ⟨hko, hF⟩ := gd_so hF
  obtain ⟨hr1, hF⟩ := gd_so hF
  refine MV_of (by decide +kernel) (Nat.le_of_ble_eq_true rfl) ?_
  intro p e s m args below meth c ls C hl
  have hK := hF
  clear hF
  have hl : lv_has ls 2 [(0, .ref (G.2.2.2.2 o)), (1, .ref (G.2.2.2.2 r1))] := hl
  have C : cx p s m args meth c G RX3 cX3_copyFrom 2 none := C
  refine q_aload_n C dX3_copyFrom_0 rfl (lv_at hl 1 rfl) ?_
  refine g_X3_bottles C hr1 w_fl_X3_9 dX3_copyFrom_1 ?_
  refine q_iconst C (v := 0) dX3_copyFrom_4 (by decide) ?_
  refine q_aload_n C dX3_copyFrom_5 rfl (lv_at hl 0 rfl) ?_
  refine g_X3_bottles C hko w_fl_X3_9 dX3_copyFrom_6 ?_
  refine q_iconst C (v := 0) dX3_copyFrom_9 (by decide) ?_
  refine q_bipush C (v := 9) dX3_copyFrom_10 (by decide) ?_
  obtain ⟨h1, hh1, hK⟩ := cp_so hK
  refine q_cp C (by decide) hl.1 (kd_s1 hr1) (kd_s1 hko) hh1 w_ml_X3_28 (Nat.le_of_ble_eq_true rfl) dX3_copyFrom_12 ?_
  refine q_aload_n C dX3_copyFrom_15 rfl (lv_at hl 1 rfl) ?_
  refine g_X3_marks C hr1 w_fl_X3_15 dX3_copyFrom_16 ?_
  refine q_iconst C (v := 0) dX3_copyFrom_19 (by decide) ?_
  refine q_aload_n C dX3_copyFrom_20 rfl (lv_at hl 0 rfl) ?_
  refine g_X3_marks C hko w_fl_X3_15 dX3_copyFrom_21 ?_
  refine q_iconst C (v := 0) dX3_copyFrom_24 (by decide) ?_
  refine q_bipush C (v := 9) dX3_copyFrom_25 (by decide) ?_
  obtain ⟨h2, hh2, hK⟩ := cp_so hK
  refine q_cp C (by decide) hl.1 (kd_s2 hr1) (kd_s2 hko) hh2 w_ml_X3_28 (Nat.le_of_ble_eq_true rfl) dX3_copyFrom_27 ?_
  refine q_aload_n C dX3_copyFrom_30 rfl (lv_at hl 1 rfl) ?_
  refine g_X3_settings C hr1 w_fl_X3_18 dX3_copyFrom_31 ?_
  refine q_iconst C (v := 0) dX3_copyFrom_34 (by decide) ?_
  refine q_aload_n C dX3_copyFrom_35 rfl (lv_at hl 0 rfl) ?_
  refine g_X3_settings C hko w_fl_X3_18 dX3_copyFrom_36 ?_
  refine q_iconst C (v := 0) dX3_copyFrom_39 (by decide) ?_
  refine q_iconst C (v := 4) dX3_copyFrom_40 (by decide) ?_
  obtain ⟨h3, hh3, hK⟩ := cp_so hK
  refine q_cp C (by decide) hl.1 (kd_s3 hr1) (kd_s3 hko) hh3 w_ml_X3_28 (Nat.le_of_ble_eq_true rfl) dX3_copyFrom_41 ?_
  refine q_aload_n C dX3_copyFrom_44 rfl (lv_at hl 0 rfl) ?_
  refine q_aload_n C dX3_copyFrom_45 rfl (lv_at hl 1 rfl) ?_
  refine g_X3_off C hr1 w_fl_X3_34 dX3_copyFrom_46 ?_
  obtain ⟨h4, hh4, hK⟩ := st_so hK
  refine p_X3_off C hko w_fl_X3_34 hh4 dX3_copyFrom_49 ?_
  refine q_aload_n C dX3_copyFrom_52 rfl (lv_at hl 1 rfl) ?_
  refine g_X3_entries C hr1 w_fl_X3_21 dX3_copyFrom_53 ?_
  refine q_iconst C (v := 0) dX3_copyFrom_56 (by decide) ?_
  refine q_aload_n C dX3_copyFrom_57 rfl (lv_at hl 0 rfl) ?_
  refine g_X3_entries C hko w_fl_X3_21 dX3_copyFrom_58 ?_
  refine q_iconst C (v := 0) dX3_copyFrom_61 (by decide) ?_
  refine q_bipush C (v := 24) dX3_copyFrom_62 (by decide) ?_
  obtain ⟨h5, hh5, hK⟩ := cp_so hK
  refine q_cp C (by decide) hl.1 (kd_s4 hr1) (kd_s4 hko) hh5 w_ml_X3_28 (Nat.le_of_ble_eq_true rfl) dX3_copyFrom_64 ?_
  refine q_aload_n C dX3_copyFrom_67 rfl (lv_at hl 0 rfl) ?_
  refine q_aload_n C dX3_copyFrom_68 rfl (lv_at hl 1 rfl) ?_
  refine g_X3_entryCount C hr1 w_fl_X3_38 dX3_copyFrom_69 ?_
  obtain ⟨h6, hh6, hK⟩ := st_so hK
  refine p_X3_entryCount C hko w_fl_X3_38 hh6 dX3_copyFrom_72 ?_
  refine q_aload_n C dX3_copyFrom_75 rfl (lv_at hl 0 rfl) ?_
  refine q_aload_n C dX3_copyFrom_76 rfl (lv_at hl 1 rfl) ?_
  refine g_X3_caps C hr1 w_fl_X3_41 dX3_copyFrom_77 ?_
  obtain ⟨h7, hh7, hK⟩ := st_so hK
  refine p_X3_caps C hko w_fl_X3_41 hh7 dX3_copyFrom_80 ?_
  refine q_aload_n C dX3_copyFrom_83 rfl (lv_at hl 0 rfl) ?_
  refine q_aload_n C dX3_copyFrom_84 rfl (lv_at hl 1 rfl) ?_
  refine g_X3_labels C hr1 w_fl_X3_44 dX3_copyFrom_85 ?_
  obtain ⟨h8, hh8, hK⟩ := st_so hK
  refine p_X3_labels C hko w_fl_X3_44 hh8 dX3_copyFrom_88 ?_
  refine q_aload_n C dX3_copyFrom_91 rfl (lv_at hl 0 rfl) ?_
  refine q_aload_n C dX3_copyFrom_92 rfl (lv_at hl 1 rfl) ?_
  refine g_X3_steps C hr1 w_fl_X3_47 dX3_copyFrom_93 ?_
  obtain ⟨h9, hh9, hK⟩ := st_so hK
  refine p_X3_steps C hko w_fl_X3_47 hh9 dX3_copyFrom_96 ?_
  refine q_aload_n C dX3_copyFrom_99 rfl (lv_at hl 0 rfl) ?_
  refine q_aload_n C dX3_copyFrom_100 rfl (lv_at hl 1 rfl) ?_
  refine g_X3_alarm C hr1 w_fl_X3_50 dX3_copyFrom_101 ?_
  obtain ⟨hz10, hK⟩ := bz_so hK
  obtain ⟨h11, hh11, hK⟩ := st_so hK
  refine p_X3_alarm C hko hz10 w_fl_X3_50 hh11 dX3_copyFrom_104 ?_
  refine q_aload_n C dX3_copyFrom_107 rfl (lv_at hl 0 rfl) ?_
  refine q_aload_n C dX3_copyFrom_108 rfl (lv_at hl 1 rfl) ?_
  refine g_X3_jammed C hr1 w_fl_X3_54 dX3_copyFrom_109 ?_
  obtain ⟨hz12, hK⟩ := bz_so hK
  obtain ⟨h13, hh13, hK⟩ := st_so hK
  refine p_X3_jammed C hko hz12 w_fl_X3_54 hh13 dX3_copyFrom_112 ?_
  refine q_aload_n C dX3_copyFrom_115 rfl (lv_at hl 0 rfl) ?_
  refine q_aload_n C dX3_copyFrom_116 rfl (lv_at hl 1 rfl) ?_
  refine g_X3_out C hr1 w_fl_X3_57 dX3_copyFrom_117 ?_
  obtain ⟨h14, hh14, hK⟩ := st_so hK
  refine p_X3_out C hko w_fl_X3_57 hh14 dX3_copyFrom_120 ?_
  refine q_aload_n C dX3_copyFrom_123 rfl (lv_at hl 0 rfl) ?_
  refine q_aload_n C dX3_copyFrom_124 rfl (lv_at hl 1 rfl) ?_
  refine g_X3_escaped C hr1 w_fl_X3_60 dX3_copyFrom_125 ?_
  obtain ⟨h15, hh15, hK⟩ := st_so hK
  refine p_X3_escaped C hko w_fl_X3_60 hh15 dX3_copyFrom_128 ?_
  refine q_aload_n C dX3_copyFrom_131 rfl (lv_at hl 0 rfl) ?_
  refine q_aload_n C dX3_copyFrom_132 rfl (lv_at hl 1 rfl) ?_
  refine g_X3_rejected C hr1 w_fl_X3_63 dX3_copyFrom_133 ?_
  obtain ⟨h16, hh16, hK⟩ := st_so hK
  refine p_X3_rejected C hko w_fl_X3_63 hh16 dX3_copyFrom_136 ?_
  refine q_aload_n C dX3_copyFrom_139 rfl (lv_at hl 0 rfl) ?_
  refine q_aload_n C dX3_copyFrom_140 rfl (lv_at hl 1 rfl) ?_
  refine g_X3_sampled C hr1 w_fl_X3_66 dX3_copyFrom_141 ?_
  obtain ⟨h17, hh17, hK⟩ := st_so hK
  refine p_X3_sampled C hko w_fl_X3_66 hh17 dX3_copyFrom_144 ?_
  refine q_aload_n C dX3_copyFrom_147 rfl (lv_at hl 0 rfl) ?_
  refine q_aload_n C dX3_copyFrom_148 rfl (lv_at hl 1 rfl) ?_
  refine g_X3_byHand C hr1 w_fl_X3_69 dX3_copyFrom_149 ?_
  obtain ⟨h18, hh18, hK⟩ := st_so hK
  refine p_X3_byHand C hko w_fl_X3_69 hh18 dX3_copyFrom_152 ?_
  refine q_aload_n C dX3_copyFrom_155 rfl (lv_at hl 0 rfl) ?_
  refine q_aload_n C dX3_copyFrom_156 rfl (lv_at hl 1 rfl) ?_
  refine g_X3_passed C hr1 w_fl_X3_72 dX3_copyFrom_157 ?_
  obtain ⟨h19, hh19, hK⟩ := st_so hK
  refine p_X3_passed C hko w_fl_X3_72 hh19 dX3_copyFrom_160 ?_
  cases hK
  exact q_vret C dX3_copyFrom_163
theorem s_X3_copyFrom : sv yX3_copyFrom cX3_copyFrom 2 none 1 := ⟨w_co_X3_copyFrom, w_im_X3_copyFrom, w_se_X3_copyFrom, w_in_X3, by decide +kernel, by decide⟩
def f_X3_bottleSet_b4 (o : Nat) : Nat → Int32 → Int32 → PH → Option (Int32 × PH)
  | 0, _, _, _ => none
  | n + 1, v1, v2, h => if (h.1 (pl_of o) 0) ≤ v2 then some (v1, h) else rd h (o + 1) v2 (fun x1 => if x1 = 0 then (f_X3_bottleSet_b4 o n) v1 (v2 + 1) h else (f_X3_bottleSet_b4 o n) (v1 ||| ((1 : Int32) <<< (v2 &&& 31))) (v2 + 1) h)
set_option maxHeartbeats 4000000 in
set_option maxRecDepth 100000 in
theorem t_X3_bottleSet_b4 {p : Program} {l : Launch} {e : Env} {s : State} {m : MethodId} {args : Array Value} {below : List Frame} {meth : Method} {c : Code} {G : GG} {o : Nat} {res : Int32 × PH} (C : cx p s m args meth c G RX3 cX3_bottleSet 3 (some .int)) (hko : kd o = 2) (n : Nat) : ∀ (v1 : Int32) (v2 : Int32) (h : PH) (ls : Array Slot), lv_has ls 3 [(0, .ref (G.2.2.2.2 o)), (1, .int v1), (2, .int v2)] → f_X3_bottleSet_b4 o n v1 v2 h = some res → WW p l e 0 s m args below meth c G h (MQ below (QI G res) args s 0 0 (Ar G)) (F0 m 4 ls []) := by
  induction n with
  | zero => intro v1 v2 h ls hl hK; cases hK
  | succ n ih =>
    intro v1 v2 h ls hl hK
    unfold f_X3_bottleSet_b4 at hK
    refine q_iload_n C dX3_bottleSet_4 rfl (lv_at hl 2 rfl) ?_
    refine q_aload_n C dX3_bottleSet_5 rfl (lv_at hl 0 rfl) ?_
    refine g_X3_plan C hko w_fl_X3_24 dX3_bottleSet_6 ?_
    refine g_X1_cells C (kd_pl hko) w_fl_X3_83 dX3_bottleSet_9 ?_
    refine q_icmp_ge C dX3_bottleSet_12 (tgt := 36) (by decide) (fun hc => ?_) (fun hc => ?_)
    · replace hK := if_po hc hK
      refine q_iload_n C dX3_bottleSet_36 rfl (lv_at hl 1 rfl) ?_
      cases hK
      exact q_iret C dX3_bottleSet_37
    · replace hK := if_ne hc hK
      refine q_aload_n C dX3_bottleSet_15 rfl (lv_at hl 0 rfl) ?_
      refine g_X3_bottles C hko w_fl_X3_9 dX3_bottleSet_16 ?_
      refine q_iload_n C dX3_bottleSet_19 rfl (lv_at hl 2 rfl) ?_
      obtain ⟨x1, hx1, hK⟩ := rd_so hK
      refine q_iald C (kd_s1 hko) hx1 dX3_bottleSet_20 ?_
      refine q_if_eq C dX3_bottleSet_21 (tgt := 30) (by decide) (fun hc => ?_) (fun hc => ?_)
      · replace hK := if_po hc hK
        refine q_iinc C dX3_bottleSet_30 hl (j := 2) (v := (v2 + 1)) rfl rfl (by decide) (lv2 := [(2, .int _), (0, .ref _), (1, .int _)]) rfl (fun ls hl => ?_)
        refine q_goto C dX3_bottleSet_33 (tgt := 4) (by decide) ?_
        exact ih _ _ _ _ (lv_sub hl [1, 2, 0] rfl) hK
      · replace hK := if_ne hc hK
        refine q_iload_n C dX3_bottleSet_24 rfl (lv_at hl 1 rfl) ?_
        refine q_iconst C (v := 1) dX3_bottleSet_25 (by decide) ?_
        refine q_iload_n C dX3_bottleSet_26 rfl (lv_at hl 2 rfl) ?_
        refine q_ishl C dX3_bottleSet_27 ?_
        refine q_ior C dX3_bottleSet_28 ?_
        refine q_istore_n C dX3_bottleSet_29 rfl hl (by decide) (lv2 := [(1, .int _), (0, .ref _), (2, .int _)]) rfl (fun ls hl => ?_)
        refine q_iinc C dX3_bottleSet_30 hl (j := 2) (v := (v2 + 1)) rfl rfl (by decide) (lv2 := [(2, .int _), (1, .int _), (0, .ref _)]) rfl (fun ls hl => ?_)
        refine q_goto C dX3_bottleSet_33 (tgt := 4) (by decide) ?_
        exact ih _ _ _ _ (lv_sub hl [2, 1, 0] rfl) hK
def f_X3_bottleSet (o : Nat) (h : PH) : Option (Int32 × PH) := gd o 2 (f_X3_bottleSet_b4 o 200 (0 : Int32) (0 : Int32) h)
set_option maxHeartbeats 4000000 in
set_option maxRecDepth 100000 in
theorem c_X3_bottleSet (l : Launch) (G : GG) {o : Nat} {h : PH} {res : Int32 × PH} (hF : f_X3_bottleSet o h = some res) : MI l G yX3_bottleSet cX3_bottleSet 3 .int 0 [.ref (G.2.2.2.2 o)] h res := by
  unfold f_X3_bottleSet at hF
  obtain ⟨hko, hF⟩ := gd_so hF
  refine MI_of (by decide +kernel) (Nat.le_of_ble_eq_true rfl) ?_
  intro p e s m args below meth c ls C hl
  have hK := hF
  clear hF
  have hl : lv_has ls 3 [(0, .ref (G.2.2.2.2 o))] := hl
  have C : cx p s m args meth c G RX3 cX3_bottleSet 3 (some .int) := C
  refine q_iconst C (v := 0) dX3_bottleSet_0 (by decide) ?_
  refine q_istore_n C dX3_bottleSet_1 rfl hl (by decide) (lv2 := [(1, .int _), (0, .ref _)]) rfl (fun ls hl => ?_)
  refine q_iconst C (v := 0) dX3_bottleSet_2 (by decide) ?_
  refine q_istore_n C dX3_bottleSet_3 rfl hl (by decide) (lv2 := [(2, .int _), (1, .int _), (0, .ref _)]) rfl (fun ls hl => ?_)
  exact t_X3_bottleSet_b4 C hko 200 _ _ _ _ (lv_sub hl [2, 1, 0] rfl) hK
theorem s_X3_bottleSet : sv yX3_bottleSet cX3_bottleSet 3 (some .int) 0 := ⟨w_co_X3_bottleSet, w_im_X3_bottleSet, w_se_X3_bottleSet, w_in_X3, by decide +kernel, by decide⟩
def f_X3_number (o : Nat) (a1 : Int32) (h : PH) : Option (Int32 × PH) := gd o 2 (if a1 = 5 then some ((h.1 o 7), h) else if a1 = 6 then some ((h.1 o 8), h) else if a1 = 7 then some ((h.1 o 6), h) else if a1 = 8 then some ((h.1 o 9), h) else if a1 = 9 then bd (f_X4_asNumber (h.1 o 10) h) (fun r1 h2 => some (r1, h2)) else if a1 = 10 then bd (f_X4_asNumber (h.1 o 11) h) (fun r3 h4 => some (r3, h4)) else if a1 = 11 then some ((h.1 o 12), h) else if a1 = 12 then some ((h.1 o 13), h) else if a1 = 13 then some ((h.1 o 14), h) else if a1 = 14 then some ((h.1 o 15), h) else if a1 = 15 then some ((h.1 o 16), h) else if a1 = 16 then some ((h.1 o 17), h) else if a1 = 17 then bd (f_X3_bottleSet o h) (fun r5 h6 => some (r5, h6)) else some ((-2 : Int32), h))
set_option maxHeartbeats 4000000 in
set_option maxRecDepth 100000 in
theorem c_X3_number (l : Launch) (G : GG) {o : Nat} {a1 : Int32} {h : PH} {res : Int32 × PH} (hF : f_X3_number o a1 h = some res) : MI l G yX3_number cX3_number 2 .int 1 [.ref (G.2.2.2.2 o), .int a1] h res := by
  unfold f_X3_number at hF
  obtain ⟨hko, hF⟩ := gd_so hF
  refine MI_of (by decide +kernel) (Nat.le_of_ble_eq_true rfl) ?_
  intro p e s m args below meth c ls C hl
  have hK := hF
  clear hF
  have hl : lv_has ls 2 [(0, .ref (G.2.2.2.2 o)), (1, .int a1)] := hl
  have C : cx p s m args meth c G RX3 cX3_number 2 (some .int) := C
  refine q_iload_n C dX3_number_0 rfl (lv_at hl 1 rfl) ?_
  by_cases hc0 : a1 = 5
  · replace hK := if_po hc0 hK
    refine q_tsIn C 5 hc0 dX3_number_1 (off := 67) (by decide) (tgt := 68) (by decide) ?_
    refine q_aload_n C dX3_number_68 rfl (lv_at hl 0 rfl) ?_
    refine g_X3_caps C hko w_fl_X3_41 dX3_number_69 ?_
    cases hK
    exact q_iret C dX3_number_72
  · replace hK := if_ne hc0 hK
    by_cases hc1 : a1 = 6
    · replace hK := if_po hc1 hK
      refine q_tsIn C 6 hc1 dX3_number_1 (off := 72) (by decide) (tgt := 73) (by decide) ?_
      refine q_aload_n C dX3_number_73 rfl (lv_at hl 0 rfl) ?_
      refine g_X3_labels C hko w_fl_X3_44 dX3_number_74 ?_
      cases hK
      exact q_iret C dX3_number_77
    · replace hK := if_ne hc1 hK
      by_cases hc2 : a1 = 7
      · replace hK := if_po hc2 hK
        refine q_tsIn C 7 hc2 dX3_number_1 (off := 77) (by decide) (tgt := 78) (by decide) ?_
        refine q_aload_n C dX3_number_78 rfl (lv_at hl 0 rfl) ?_
        refine g_X3_entryCount C hko w_fl_X3_38 dX3_number_79 ?_
        cases hK
        exact q_iret C dX3_number_82
      · replace hK := if_ne hc2 hK
        by_cases hc3 : a1 = 8
        · replace hK := if_po hc3 hK
          refine q_tsIn C 8 hc3 dX3_number_1 (off := 82) (by decide) (tgt := 83) (by decide) ?_
          refine q_aload_n C dX3_number_83 rfl (lv_at hl 0 rfl) ?_
          refine g_X3_steps C hko w_fl_X3_47 dX3_number_84 ?_
          cases hK
          exact q_iret C dX3_number_87
        · replace hK := if_ne hc3 hK
          by_cases hc4 : a1 = 9
          · replace hK := if_po hc4 hK
            refine q_tsIn C 9 hc4 dX3_number_1 (off := 87) (by decide) (tgt := 88) (by decide) ?_
            refine q_aload_n C dX3_number_88 rfl (lv_at hl 0 rfl) ?_
            refine g_X3_alarm C hko w_fl_X3_50 dX3_number_89 ?_
            obtain ⟨r1, h2, hfr1, hK⟩ := bd_so hK
            refine q_callNi C s_X4_asNumber w_ml_X3_75 (c_X4_asNumber l G hfr1) (by decide) hl.1 rfl rfl (Nat.le_of_ble_eq_true rfl) dX3_number_92 ?_
            cases hK
            exact q_iret C dX3_number_95
          · replace hK := if_ne hc4 hK
            by_cases hc5 : a1 = 10
            · replace hK := if_po hc5 hK
              refine q_tsIn C 10 hc5 dX3_number_1 (off := 95) (by decide) (tgt := 96) (by decide) ?_
              refine q_aload_n C dX3_number_96 rfl (lv_at hl 0 rfl) ?_
              refine g_X3_jammed C hko w_fl_X3_54 dX3_number_97 ?_
              obtain ⟨r3, h4, hfr3, hK⟩ := bd_so hK
              refine q_callNi C s_X4_asNumber w_ml_X3_75 (c_X4_asNumber l G hfr3) (by decide) hl.1 rfl rfl (Nat.le_of_ble_eq_true rfl) dX3_number_100 ?_
              cases hK
              exact q_iret C dX3_number_103
            · replace hK := if_ne hc5 hK
              by_cases hc6 : a1 = 11
              · replace hK := if_po hc6 hK
                refine q_tsIn C 11 hc6 dX3_number_1 (off := 103) (by decide) (tgt := 104) (by decide) ?_
                refine q_aload_n C dX3_number_104 rfl (lv_at hl 0 rfl) ?_
                refine g_X3_out C hko w_fl_X3_57 dX3_number_105 ?_
                cases hK
                exact q_iret C dX3_number_108
              · replace hK := if_ne hc6 hK
                by_cases hc7 : a1 = 12
                · replace hK := if_po hc7 hK
                  refine q_tsIn C 12 hc7 dX3_number_1 (off := 108) (by decide) (tgt := 109) (by decide) ?_
                  refine q_aload_n C dX3_number_109 rfl (lv_at hl 0 rfl) ?_
                  refine g_X3_escaped C hko w_fl_X3_60 dX3_number_110 ?_
                  cases hK
                  exact q_iret C dX3_number_113
                · replace hK := if_ne hc7 hK
                  by_cases hc8 : a1 = 13
                  · replace hK := if_po hc8 hK
                    refine q_tsIn C 13 hc8 dX3_number_1 (off := 113) (by decide) (tgt := 114) (by decide) ?_
                    refine q_aload_n C dX3_number_114 rfl (lv_at hl 0 rfl) ?_
                    refine g_X3_rejected C hko w_fl_X3_63 dX3_number_115 ?_
                    cases hK
                    exact q_iret C dX3_number_118
                  · replace hK := if_ne hc8 hK
                    by_cases hc9 : a1 = 14
                    · replace hK := if_po hc9 hK
                      refine q_tsIn C 14 hc9 dX3_number_1 (off := 118) (by decide) (tgt := 119) (by decide) ?_
                      refine q_aload_n C dX3_number_119 rfl (lv_at hl 0 rfl) ?_
                      refine g_X3_sampled C hko w_fl_X3_66 dX3_number_120 ?_
                      cases hK
                      exact q_iret C dX3_number_123
                    · replace hK := if_ne hc9 hK
                      by_cases hc10 : a1 = 15
                      · replace hK := if_po hc10 hK
                        refine q_tsIn C 15 hc10 dX3_number_1 (off := 123) (by decide) (tgt := 124) (by decide) ?_
                        refine q_aload_n C dX3_number_124 rfl (lv_at hl 0 rfl) ?_
                        refine g_X3_byHand C hko w_fl_X3_69 dX3_number_125 ?_
                        cases hK
                        exact q_iret C dX3_number_128
                      · replace hK := if_ne hc10 hK
                        by_cases hc11 : a1 = 16
                        · replace hK := if_po hc11 hK
                          refine q_tsIn C 16 hc11 dX3_number_1 (off := 128) (by decide) (tgt := 129) (by decide) ?_
                          refine q_aload_n C dX3_number_129 rfl (lv_at hl 0 rfl) ?_
                          refine g_X3_passed C hko w_fl_X3_72 dX3_number_130 ?_
                          cases hK
                          exact q_iret C dX3_number_133
                        · replace hK := if_ne hc11 hK
                          by_cases hc12 : a1 = 17
                          · replace hK := if_po hc12 hK
                            refine q_tsIn C 17 hc12 dX3_number_1 (off := 133) (by decide) (tgt := 134) (by decide) ?_
                            refine q_aload_n C dX3_number_134 rfl (lv_at hl 0 rfl) ?_
                            obtain ⟨r5, h6, hfr5, hK⟩ := bd_so hK
                            refine q_callVi C s_X3_bottleSet w_ml_X3_79 (c_X3_bottleSet l G hfr5) hko rfl (by decide) (ce_2 hko) (by decide) hl.1 rfl rfl (Nat.le_of_ble_eq_true rfl) dX3_number_135 ?_
                            cases hK
                            exact q_iret C dX3_number_138
                          · replace hK := if_ne hc12 hK
                            have q0 : (a1 : Int32).toInt ≠ 5 := ne_i hc0
                            have q1 : (a1 : Int32).toInt ≠ 6 := ne_i hc1
                            have q2 : (a1 : Int32).toInt ≠ 7 := ne_i hc2
                            have q3 : (a1 : Int32).toInt ≠ 8 := ne_i hc3
                            have q4 : (a1 : Int32).toInt ≠ 9 := ne_i hc4
                            have q5 : (a1 : Int32).toInt ≠ 10 := ne_i hc5
                            have q6 : (a1 : Int32).toInt ≠ 11 := ne_i hc6
                            have q7 : (a1 : Int32).toInt ≠ 12 := ne_i hc7
                            have q8 : (a1 : Int32).toInt ≠ 13 := ne_i hc8
                            have q9 : (a1 : Int32).toInt ≠ 14 := ne_i hc9
                            have q10 : (a1 : Int32).toInt ≠ 15 := ne_i hc10
                            have q11 : (a1 : Int32).toInt ≠ 16 := ne_i hc11
                            have q12 : (a1 : Int32).toInt ≠ 17 := ne_i hc12
                            refine q_tsOut C dX3_number_1 (by omega) (tgt := 139) (by decide) ?_
                            refine q_bipush C (v := -2) dX3_number_139 (by decide) ?_
                            cases hK
                            exact q_iret C dX3_number_141
theorem s_X3_number : sv yX3_number cX3_number 2 (some .int) 1 := ⟨w_co_X3_number, w_im_X3_number, w_se_X3_number, w_in_X3, by decide +kernel, by decide⟩
def f_X3_observed (o : Nat) (a1 : Int32) (h : PH) : Option (Int32 × PH) := gd o 2 (if a1 = 0 then some ((h.1 o 12), h) else if a1 = 1 then some ((h.1 o 14), h) else some ((h.1 o 13), h))
set_option maxHeartbeats 4000000 in
set_option maxRecDepth 100000 in
theorem c_X3_observed (l : Launch) (G : GG) {o : Nat} {a1 : Int32} {h : PH} {res : Int32 × PH} (hF : f_X3_observed o a1 h = some res) : MI l G yX3_observed cX3_observed 2 .int 0 [.ref (G.2.2.2.2 o), .int a1] h res := by
  unfold f_X3_observed at hF
  obtain ⟨hko, hF⟩ := gd_so hF
  refine MI_of (by decide +kernel) (Nat.le_of_ble_eq_true rfl) ?_
  intro p e s m args below meth c ls C hl
  have hK := hF
  clear hF
  have hl : lv_has ls 2 [(0, .ref (G.2.2.2.2 o)), (1, .int a1)] := hl
  have C : cx p s m args meth c G RX3 cX3_observed 2 (some .int) := C
  refine q_iload_n C dX3_observed_0 rfl (lv_at hl 1 rfl) ?_
  by_cases hc0 : a1 = 0
  · replace hK := if_po hc0 hK
    refine q_lsw C dX3_observed_1 (by decide) (off := 27) (by rw [hc0]; decide) (tgt := 28) (by decide) ?_
    refine q_aload_n C dX3_observed_28 rfl (lv_at hl 0 rfl) ?_
    refine g_X3_out C hko w_fl_X3_57 dX3_observed_29 ?_
    cases hK
    exact q_iret C dX3_observed_32
  · replace hK := if_ne hc0 hK
    by_cases hc1 : a1 = 1
    · replace hK := if_po hc1 hK
      refine q_lsw C dX3_observed_1 (by decide) (off := 32) (by rw [hc1]; decide) (tgt := 33) (by decide) ?_
      refine q_aload_n C dX3_observed_33 rfl (lv_at hl 0 rfl) ?_
      refine g_X3_rejected C hko w_fl_X3_63 dX3_observed_34 ?_
      cases hK
      exact q_iret C dX3_observed_37
    · replace hK := if_ne hc1 hK
      have q0 : (a1 : Int32).toInt ≠ 0 := ne_i hc0
      have q1 : (a1 : Int32).toInt ≠ 1 := ne_i hc1
      refine q_lsw C dX3_observed_1 (by decide) (off := 37) ((if_neg (Ne.symm q0)).trans ((if_neg (Ne.symm q1)).trans rfl)) (tgt := 38) (by decide) ?_
      refine q_aload_n C dX3_observed_38 rfl (lv_at hl 0 rfl) ?_
      refine g_X3_escaped C hko w_fl_X3_60 dX3_observed_39 ?_
      cases hK
      exact q_iret C dX3_observed_42
theorem s_X3_observed : sv yX3_observed cX3_observed 2 (some .int) 1 := ⟨w_co_X3_observed, w_im_X3_observed, w_se_X3_observed, w_in_X3, by decide +kernel, by decide⟩
def f_X3_countMarks_b4 (o : Nat) : Nat → Int32 → Int32 → PH → Option (Int32 × PH)
  | 0, _, _, _ => none
  | n + 1, v1, v2, h => if (h.1 (pl_of o) 0) ≤ v2 then some (v1, h) else rd h (o + 2) v2 (fun x1 => if x1 = 0 then bd (f_X4_asNumber (0 : Int32) h) (fun r2 h3 => (f_X3_countMarks_b4 o n) (v1 + r2) (v2 + 1) h3) else bd (f_X4_asNumber (1 : Int32) h) (fun r4 h5 => (f_X3_countMarks_b4 o n) (v1 + r4) (v2 + 1) h5))
set_option maxHeartbeats 4000000 in
set_option maxRecDepth 100000 in
theorem t_X3_countMarks_b4 {p : Program} {l : Launch} {e : Env} {s : State} {m : MethodId} {args : Array Value} {below : List Frame} {meth : Method} {c : Code} {G : GG} {o : Nat} {res : Int32 × PH} (C : cx p s m args meth c G RX3 cX3_countMarks 3 (some .int)) (hko : kd o = 2) (n : Nat) : ∀ (v1 : Int32) (v2 : Int32) (h : PH) (ls : Array Slot), lv_has ls 3 [(0, .ref (G.2.2.2.2 o)), (1, .int v1), (2, .int v2)] → f_X3_countMarks_b4 o n v1 v2 h = some res → WW p l e 1 s m args below meth c G h (MQ below (QI G res) args s 0 0 (Ar G)) (F0 m 4 ls []) := by
  induction n with
  | zero => intro v1 v2 h ls hl hK; cases hK
  | succ n ih =>
    intro v1 v2 h ls hl hK
    unfold f_X3_countMarks_b4 at hK
    refine q_iload_n C dX3_countMarks_4 rfl (lv_at hl 2 rfl) ?_
    refine q_aload_n C dX3_countMarks_5 rfl (lv_at hl 0 rfl) ?_
    refine g_X3_plan C hko w_fl_X3_24 dX3_countMarks_6 ?_
    refine g_X1_cells C (kd_pl hko) w_fl_X3_83 dX3_countMarks_9 ?_
    refine q_icmp_ge C dX3_countMarks_12 (tgt := 41) (by decide) (fun hc => ?_) (fun hc => ?_)
    · replace hK := if_po hc hK
      refine q_iload_n C dX3_countMarks_41 rfl (lv_at hl 1 rfl) ?_
      cases hK
      exact q_iret C dX3_countMarks_42
    · replace hK := if_ne hc hK
      refine q_iload_n C dX3_countMarks_15 rfl (lv_at hl 1 rfl) ?_
      refine q_aload_n C dX3_countMarks_16 rfl (lv_at hl 0 rfl) ?_
      refine g_X3_marks C hko w_fl_X3_15 dX3_countMarks_17 ?_
      refine q_iload_n C dX3_countMarks_20 rfl (lv_at hl 2 rfl) ?_
      obtain ⟨x1, hx1, hK⟩ := rd_so hK
      refine q_iald C (kd_s2 hko) hx1 dX3_countMarks_21 ?_
      refine q_if_eq C dX3_countMarks_22 (tgt := 29) (by decide) (fun hc => ?_) (fun hc => ?_)
      · replace hK := if_po hc hK
        refine q_iconst C (v := 0) dX3_countMarks_29 (by decide) ?_
        obtain ⟨r2, h3, hfr2, hK⟩ := bd_so hK
        refine q_callNi C s_X4_asNumber w_ml_X3_75 (c_X4_asNumber l G hfr2) (by decide) hl.1 rfl rfl (Nat.le_of_ble_eq_true rfl) dX3_countMarks_30 ?_
        refine q_iadd C dX3_countMarks_33 ?_
        refine q_istore_n C dX3_countMarks_34 rfl hl (by decide) (lv2 := [(1, .int _), (0, .ref _), (2, .int _)]) rfl (fun ls hl => ?_)
        refine q_iinc C dX3_countMarks_35 hl (j := 2) (v := (v2 + 1)) rfl rfl (by decide) (lv2 := [(2, .int _), (1, .int _), (0, .ref _)]) rfl (fun ls hl => ?_)
        refine q_goto C dX3_countMarks_38 (tgt := 4) (by decide) ?_
        exact ih _ _ _ _ (lv_sub hl [2, 1, 0] rfl) hK
      · replace hK := if_ne hc hK
        refine q_iconst C (v := 1) dX3_countMarks_25 (by decide) ?_
        refine q_goto C dX3_countMarks_26 (tgt := 30) (by decide) ?_
        obtain ⟨r4, h5, hfr4, hK⟩ := bd_so hK
        refine q_callNi C s_X4_asNumber w_ml_X3_75 (c_X4_asNumber l G hfr4) (by decide) hl.1 rfl rfl (Nat.le_of_ble_eq_true rfl) dX3_countMarks_30 ?_
        refine q_iadd C dX3_countMarks_33 ?_
        refine q_istore_n C dX3_countMarks_34 rfl hl (by decide) (lv2 := [(1, .int _), (0, .ref _), (2, .int _)]) rfl (fun ls hl => ?_)
        refine q_iinc C dX3_countMarks_35 hl (j := 2) (v := (v2 + 1)) rfl rfl (by decide) (lv2 := [(2, .int _), (1, .int _), (0, .ref _)]) rfl (fun ls hl => ?_)
        refine q_goto C dX3_countMarks_38 (tgt := 4) (by decide) ?_
        exact ih _ _ _ _ (lv_sub hl [2, 1, 0] rfl) hK
def f_X3_countMarks (o : Nat) (h : PH) : Option (Int32 × PH) := gd o 2 (f_X3_countMarks_b4 o 200 (0 : Int32) (0 : Int32) h)
set_option maxHeartbeats 4000000 in
set_option maxRecDepth 100000 in
theorem c_X3_countMarks (l : Launch) (G : GG) {o : Nat} {h : PH} {res : Int32 × PH} (hF : f_X3_countMarks o h = some res) : MI l G yX3_countMarks cX3_countMarks 3 .int 1 [.ref (G.2.2.2.2 o)] h res := by
  unfold f_X3_countMarks at hF
  obtain ⟨hko, hF⟩ := gd_so hF
  refine MI_of (by decide +kernel) (Nat.le_of_ble_eq_true rfl) ?_
  intro p e s m args below meth c ls C hl
  have hK := hF
  clear hF
  have hl : lv_has ls 3 [(0, .ref (G.2.2.2.2 o))] := hl
  have C : cx p s m args meth c G RX3 cX3_countMarks 3 (some .int) := C
  refine q_iconst C (v := 0) dX3_countMarks_0 (by decide) ?_
  refine q_istore_n C dX3_countMarks_1 rfl hl (by decide) (lv2 := [(1, .int _), (0, .ref _)]) rfl (fun ls hl => ?_)
  refine q_iconst C (v := 0) dX3_countMarks_2 (by decide) ?_
  refine q_istore_n C dX3_countMarks_3 rfl hl (by decide) (lv2 := [(2, .int _), (1, .int _), (0, .ref _)]) rfl (fun ls hl => ?_)
  exact t_X3_countMarks_b4 C hko 200 _ _ _ _ (lv_sub hl [2, 1, 0] rfl) hK
theorem s_X3_countMarks : sv yX3_countMarks cX3_countMarks 3 (some .int) 0 := ⟨w_co_X3_countMarks, w_im_X3_countMarks, w_se_X3_countMarks, w_in_X3, by decide +kernel, by decide⟩
def f_X3_nextValve (o : Nat) (h : PH) : Option (Int32 × PH) := gd o 2 (if (h.1 (pl_of o) 5) = 0 then some ((-9 : Int32), h) else bd (f_J9_floorMod_7cf53 (h.1 o 9) (h.1 (pl_of o) 5) h) (fun r1 h2 => some (r1, h2)))
set_option maxHeartbeats 4000000 in
set_option maxRecDepth 100000 in
theorem c_X3_nextValve (l : Launch) (G : GG) {o : Nat} {h : PH} {res : Int32 × PH} (hF : f_X3_nextValve o h = some res) : MI l G yX3_nextValve cX3_nextValve 1 .int 1 [.ref (G.2.2.2.2 o)] h res := by
  unfold f_X3_nextValve at hF
  obtain ⟨hko, hF⟩ := gd_so hF
  refine MI_of (by decide +kernel) (Nat.le_of_ble_eq_true rfl) ?_
  intro p e s m args below meth c ls C hl
  have hK := hF
  clear hF
  have hl : lv_has ls 1 [(0, .ref (G.2.2.2.2 o))] := hl
  have C : cx p s m args meth c G RX3 cX3_nextValve 1 (some .int) := C
  refine q_aload_n C dX3_nextValve_0 rfl (lv_at hl 0 rfl) ?_
  refine g_X3_plan C hko w_fl_X3_24 dX3_nextValve_1 ?_
  refine g_X1_valves C (kd_pl hko) w_fl_X3_94 dX3_nextValve_4 ?_
  refine q_if_ne C dX3_nextValve_7 (tgt := 15) (by decide) (fun hc => ?_) (fun hc => ?_)
  · replace hK := if_ne hc hK
    refine q_aload_n C dX3_nextValve_15 rfl (lv_at hl 0 rfl) ?_
    refine g_X3_steps C hko w_fl_X3_47 dX3_nextValve_16 ?_
    refine q_aload_n C dX3_nextValve_19 rfl (lv_at hl 0 rfl) ?_
    refine g_X3_plan C hko w_fl_X3_24 dX3_nextValve_20 ?_
    refine g_X1_valves C (kd_pl hko) w_fl_X3_94 dX3_nextValve_23 ?_
    obtain ⟨r1, h2, hfr1, hK⟩ := bd_so hK
    refine q_callSi C s_J9_floorMod_7cf53 w_ml_X3_97 (c_J9_floorMod_7cf53 l G hfr1) (by decide) hl.1 rfl rfl (Nat.le_of_ble_eq_true rfl) dX3_nextValve_26 ?_
    cases hK
    exact q_iret C dX3_nextValve_29
  · replace hK := if_po hc hK
    refine q_bipush C (v := -9) dX3_nextValve_10 (by decide) ?_
    refine q_goto C dX3_nextValve_12 (tgt := 29) (by decide) ?_
    cases hK
    exact q_iret C dX3_nextValve_29
theorem s_X3_nextValve : sv yX3_nextValve cX3_nextValve 1 (some .int) 0 := ⟨w_co_X3_nextValve, w_im_X3_nextValve, w_se_X3_nextValve, w_in_X3, by decide +kernel, by decide⟩
def f_X3_moveMarks (o : Nat) (h : PH) : Option (Unit × PH) := gd o 2 (cp h (o + 2) (0 : Int32) (o + 2) (1 : Int32) ((h.1 (pl_of o) 0) - (1 : Int32)) (fun h1 => wr h1 (o + 2) (0 : Int32) (0 : Int32) (fun h2 => some ((), h2))))
set_option maxHeartbeats 4000000 in
set_option maxRecDepth 100000 in
theorem c_X3_moveMarks (l : Launch) (G : GG) {o : Nat} {h : PH} {res : Unit × PH} (hF : f_X3_moveMarks o h = some res) : MV l G yX3_moveMarks cX3_moveMarks 1 1 [.ref (G.2.2.2.2 o)] h res := by
  unfold f_X3_moveMarks at hF
  obtain ⟨hko, hF⟩ := gd_so hF
  refine MV_of (by decide +kernel) (Nat.le_of_ble_eq_true rfl) ?_
  intro p e s m args below meth c ls C hl
  have hK := hF
  clear hF
  have hl : lv_has ls 1 [(0, .ref (G.2.2.2.2 o))] := hl
  have C : cx p s m args meth c G RX3 cX3_moveMarks 1 none := C
  refine q_aload_n C dX3_moveMarks_0 rfl (lv_at hl 0 rfl) ?_
  refine g_X3_marks C hko w_fl_X3_15 dX3_moveMarks_1 ?_
  refine q_iconst C (v := 0) dX3_moveMarks_4 (by decide) ?_
  refine q_aload_n C dX3_moveMarks_5 rfl (lv_at hl 0 rfl) ?_
  refine g_X3_marks C hko w_fl_X3_15 dX3_moveMarks_6 ?_
  refine q_iconst C (v := 1) dX3_moveMarks_9 (by decide) ?_
  refine q_aload_n C dX3_moveMarks_10 rfl (lv_at hl 0 rfl) ?_
  refine g_X3_plan C hko w_fl_X3_24 dX3_moveMarks_11 ?_
  refine g_X1_cells C (kd_pl hko) w_fl_X3_83 dX3_moveMarks_14 ?_
  refine q_iconst C (v := 1) dX3_moveMarks_17 (by decide) ?_
  refine q_isub C dX3_moveMarks_18 ?_
  obtain ⟨h1, hh1, hK⟩ := cp_so hK
  refine q_cp C (by decide) hl.1 (kd_s2 hko) (kd_s2 hko) hh1 w_ml_X3_28 (Nat.le_of_ble_eq_true rfl) dX3_moveMarks_19 ?_
  refine q_aload_n C dX3_moveMarks_22 rfl (lv_at hl 0 rfl) ?_
  refine g_X3_marks C hko w_fl_X3_15 dX3_moveMarks_23 ?_
  refine q_iconst C (v := 0) dX3_moveMarks_26 (by decide) ?_
  refine q_iconst C (v := 0) dX3_moveMarks_27 (by decide) ?_
  obtain ⟨h2, hh2, hK⟩ := wr_so hK
  refine q_iast C (kd_s2 hko) hh2 dX3_moveMarks_28 ?_
  cases hK
  exact q_vret C dX3_moveMarks_29
theorem s_X3_moveMarks : sv yX3_moveMarks cX3_moveMarks 1 none 0 := ⟨w_co_X3_moveMarks, w_im_X3_moveMarks, w_se_X3_moveMarks, w_in_X3, by decide +kernel, by decide⟩
def f_X3_endAlarm_b46 (o : Nat) (v1 : Int32) (v2 : Int32) (h : PH) : Option (Int32 × PH) := wr h (o + 2) v1 (0 : Int32) (fun h5 => st h5 o 10 (0 : Int32) (fun h6 => bz v2 (some (v2, h6))))
set_option maxHeartbeats 4000000 in
set_option maxRecDepth 100000 in
theorem t_X3_endAlarm_b46 {p : Program} {l : Launch} {e : Env} {s : State} {m : MethodId} {args : Array Value} {below : List Frame} {meth : Method} {c : Code} {G : GG} {o : Nat} {res : Int32 × PH} (C : cx p s m args meth c G RX3 cX3_endAlarm 3 (some .boolean)) (hko : kd o = 2) {v1 : Int32} {v2 : Int32} {h : PH} {ls : Array Slot} (hl : lv_has ls 3 [(0, .ref (G.2.2.2.2 o)), (1, .int v1), (2, .int v2)]) (hK : f_X3_endAlarm_b46 o v1 v2 h = some res) : WW p l e 0 s m args below meth c G h (MQ below (QI G res) args s 0 0 (Ar G)) (F0 m 46 ls []) := by
  unfold f_X3_endAlarm_b46 at hK
  refine q_aload_n C dX3_endAlarm_46 rfl (lv_at hl 0 rfl) ?_
  refine g_X3_marks C hko w_fl_X3_15 dX3_endAlarm_47 ?_
  refine q_iload_n C dX3_endAlarm_50 rfl (lv_at hl 1 rfl) ?_
  refine q_iconst C (v := 0) dX3_endAlarm_51 (by decide) ?_
  obtain ⟨h5, hh5, hK⟩ := wr_so hK
  refine q_iast C (kd_s2 hko) hh5 dX3_endAlarm_52 ?_
  refine q_aload_n C dX3_endAlarm_53 rfl (lv_at hl 0 rfl) ?_
  refine q_iconst C (v := 0) dX3_endAlarm_54 (by decide) ?_
  obtain ⟨h6, hh6, hK⟩ := st_so hK
  refine p_X3_alarm C hko (Or.inl rfl) w_fl_X3_50 hh6 dX3_endAlarm_55 ?_
  refine q_iload_n C dX3_endAlarm_58 rfl (lv_at hl 2 rfl) ?_
  obtain ⟨hz, hK⟩ := bz_so hK
  cases hK
  exact q_zret C hz dX3_endAlarm_59
def f_X3_endAlarm_b24 (o : Nat) (v1 : Int32) (s0 : Int32) (h : PH) : Option (Int32 × PH) := if s0 = 0 then f_X3_endAlarm_b46 o v1 s0 h else wr h (o + 1) v1 (0 : Int32) (fun h3 => st h3 o 16 ((h3.1 o 16) + (1 : Int32)) (fun h4 => f_X3_endAlarm_b46 o v1 s0 h4))
set_option maxHeartbeats 4000000 in
set_option maxRecDepth 100000 in
theorem t_X3_endAlarm_b24 {p : Program} {l : Launch} {e : Env} {s : State} {m : MethodId} {args : Array Value} {below : List Frame} {meth : Method} {c : Code} {G : GG} {o : Nat} {res : Int32 × PH} (C : cx p s m args meth c G RX3 cX3_endAlarm 3 (some .boolean)) (hko : kd o = 2) {v1 : Int32} {s0 : Int32} {h : PH} {ls : Array Slot} (hl : lv_has ls 3 [(0, .ref (G.2.2.2.2 o)), (1, .int v1)]) (hK : f_X3_endAlarm_b24 o v1 s0 h = some res) : WW p l e 0 s m args below meth c G h (MQ below (QI G res) args s 0 0 (Ar G)) (F0 m 24 ls [.int s0]) := by
  unfold f_X3_endAlarm_b24 at hK
  refine q_istore_n C dX3_endAlarm_24 rfl hl (by decide) (lv2 := [(2, .int _), (0, .ref _), (1, .int _)]) rfl (fun ls hl => ?_)
  refine q_iload_n C dX3_endAlarm_25 rfl (lv_at hl 0 rfl) ?_
  refine q_if_eq C dX3_endAlarm_26 (tgt := 46) (by decide) (fun hc => ?_) (fun hc => ?_)
  · replace hK := if_po hc hK
    exact t_X3_endAlarm_b46 C hko (lv_sub hl [1, 2, 0] rfl) hK
  · replace hK := if_ne hc hK
    refine q_aload_n C dX3_endAlarm_29 rfl (lv_at hl 1 rfl) ?_
    refine g_X3_bottles C hko w_fl_X3_9 dX3_endAlarm_30 ?_
    refine q_iload_n C dX3_endAlarm_33 rfl (lv_at hl 2 rfl) ?_
    refine q_iconst C (v := 0) dX3_endAlarm_34 (by decide) ?_
    obtain ⟨h3, hh3, hK⟩ := wr_so hK
    refine q_iast C (kd_s1 hko) hh3 dX3_endAlarm_35 ?_
    refine q_aload_n C dX3_endAlarm_36 rfl (lv_at hl 1 rfl) ?_
    refine q_dup C dX3_endAlarm_37 rfl ?_
    refine g_X3_byHand C hko w_fl_X3_69 dX3_endAlarm_38 ?_
    refine q_iconst C (v := 1) dX3_endAlarm_41 (by decide) ?_
    refine q_iadd C dX3_endAlarm_42 ?_
    obtain ⟨h4, hh4, hK⟩ := st_so hK
    refine p_X3_byHand C hko w_fl_X3_69 hh4 dX3_endAlarm_43 ?_
    exact t_X3_endAlarm_b46 C hko (lv_sub hl [1, 2, 0] rfl) hK
def f_X3_endAlarm (o : Nat) (h : PH) : Option (Int32 × PH) := gd o 2 (rd h ((pl_of o) + 1) (4 : Int32) (fun x1 => rd h (o + 1) x1 (fun x2 => if x2 = 0 then f_X3_endAlarm_b24 o x1 (0 : Int32) h else f_X3_endAlarm_b24 o x1 (1 : Int32) h)))
set_option maxHeartbeats 4000000 in
set_option maxRecDepth 100000 in
theorem c_X3_endAlarm (l : Launch) (G : GG) {o : Nat} {h : PH} {res : Int32 × PH} (hF : f_X3_endAlarm o h = some res) : MI l G yX3_endAlarm cX3_endAlarm 3 .boolean 0 [.ref (G.2.2.2.2 o)] h res := by
  unfold f_X3_endAlarm at hF
  obtain ⟨hko, hF⟩ := gd_so hF
  refine MI_of (by decide +kernel) (Nat.le_of_ble_eq_true rfl) ?_
  intro p e s m args below meth c ls C hl
  have hK := hF
  clear hF
  have hl : lv_has ls 3 [(0, .ref (G.2.2.2.2 o))] := hl
  have C : cx p s m args meth c G RX3 cX3_endAlarm 3 (some .boolean) := C
  refine q_aload_n C dX3_endAlarm_0 rfl (lv_at hl 0 rfl) ?_
  refine g_X3_plan C hko w_fl_X3_24 dX3_endAlarm_1 ?_
  refine g_X1_stations C (kd_pl hko) w_fl_X3_100 dX3_endAlarm_4 ?_
  refine q_iconst C (v := 4) dX3_endAlarm_7 (by decide) ?_
  obtain ⟨x1, hx1, hK⟩ := rd_so hK
  refine q_iald C (kd_p1 (kd_pl hko)) hx1 dX3_endAlarm_8 ?_
  refine q_istore_n C dX3_endAlarm_9 rfl hl (by decide) (lv2 := [(1, .int _), (0, .ref _)]) rfl (fun ls hl => ?_)
  refine q_aload_n C dX3_endAlarm_10 rfl (lv_at hl 1 rfl) ?_
  refine g_X3_bottles C hko w_fl_X3_9 dX3_endAlarm_11 ?_
  refine q_iload_n C dX3_endAlarm_14 rfl (lv_at hl 0 rfl) ?_
  obtain ⟨x2, hx2, hK⟩ := rd_so hK
  refine q_iald C (kd_s1 hko) hx2 dX3_endAlarm_15 ?_
  refine q_if_eq C dX3_endAlarm_16 (tgt := 23) (by decide) (fun hc => ?_) (fun hc => ?_)
  · replace hK := if_po hc hK
    refine q_iconst C (v := 0) dX3_endAlarm_23 (by decide) ?_
    exact t_X3_endAlarm_b24 C hko (lv_sub hl [1, 0] rfl) hK
  · replace hK := if_ne hc hK
    refine q_iconst C (v := 1) dX3_endAlarm_19 (by decide) ?_
    refine q_goto C dX3_endAlarm_20 (tgt := 24) (by decide) ?_
    exact t_X3_endAlarm_b24 C hko (lv_sub hl [1, 0] rfl) hK
theorem s_X3_endAlarm : sv yX3_endAlarm cX3_endAlarm 3 (some .boolean) 0 := ⟨w_co_X3_endAlarm, w_im_X3_endAlarm, w_se_X3_endAlarm, w_in_X3, by decide +kernel, by decide⟩
def f_X3_markBeforeScale_b2 (o : Nat) : Nat → Int32 → PH → Option (Unit × PH)
  | 0, _, _ => none
  | n + 1, v1, h => rd h ((pl_of o) + 1) (0 : Int32) (fun x1 => if x1 < v1 then some ((), h) else rd h (o + 1) v1 (fun x2 => if x2 = 0 then (f_X3_markBeforeScale_b2 o n) (v1 + 1) h else wr h (o + 2) v1 (1 : Int32) (fun h3 => (f_X3_markBeforeScale_b2 o n) (v1 + 1) h3)))
set_option maxHeartbeats 4000000 in
set_option maxRecDepth 100000 in
theorem t_X3_markBeforeScale_b2 {p : Program} {l : Launch} {e : Env} {s : State} {m : MethodId} {args : Array Value} {below : List Frame} {meth : Method} {c : Code} {G : GG} {o : Nat} {res : Unit × PH} (C : cx p s m args meth c G RX3 cX3_markBeforeScale 2 none) (hko : kd o = 2) (n : Nat) : ∀ (v1 : Int32) (h : PH) (ls : Array Slot), lv_has ls 2 [(0, .ref (G.2.2.2.2 o)), (1, .int v1)] → f_X3_markBeforeScale_b2 o n v1 h = some res → WW p l e 0 s m args below meth c G h (MQ below (QV G res) args s 0 0 (Ar G)) (F0 m 2 ls []) := by
  induction n with
  | zero => intro v1 h ls hl hK; cases hK
  | succ n ih =>
    intro v1 h ls hl hK
    unfold f_X3_markBeforeScale_b2 at hK
    refine q_iload_n C dX3_markBeforeScale_2 rfl (lv_at hl 1 rfl) ?_
    refine q_aload_n C dX3_markBeforeScale_3 rfl (lv_at hl 0 rfl) ?_
    refine g_X3_plan C hko w_fl_X3_24 dX3_markBeforeScale_4 ?_
    refine g_X1_stations C (kd_pl hko) w_fl_X3_100 dX3_markBeforeScale_7 ?_
    refine q_iconst C (v := 0) dX3_markBeforeScale_10 (by decide) ?_
    obtain ⟨x1, hx1, hK⟩ := rd_so hK
    refine q_iald C (kd_p1 (kd_pl hko)) hx1 dX3_markBeforeScale_11 ?_
    refine q_icmp_gt C dX3_markBeforeScale_12 (tgt := 37) (by decide) (fun hc => ?_) (fun hc => ?_)
    · replace hK := if_po hc hK
      cases hK
      exact q_vret C dX3_markBeforeScale_37
    · replace hK := if_ne hc hK
      refine q_aload_n C dX3_markBeforeScale_15 rfl (lv_at hl 0 rfl) ?_
      refine g_X3_bottles C hko w_fl_X3_9 dX3_markBeforeScale_16 ?_
      refine q_iload_n C dX3_markBeforeScale_19 rfl (lv_at hl 1 rfl) ?_
      obtain ⟨x2, hx2, hK⟩ := rd_so hK
      refine q_iald C (kd_s1 hko) hx2 dX3_markBeforeScale_20 ?_
      refine q_if_eq C dX3_markBeforeScale_21 (tgt := 31) (by decide) (fun hc => ?_) (fun hc => ?_)
      · replace hK := if_po hc hK
        refine q_iinc C dX3_markBeforeScale_31 hl (j := 1) (v := (v1 + 1)) rfl rfl (by decide) (lv2 := [(1, .int _), (0, .ref _)]) rfl (fun ls hl => ?_)
        refine q_goto C dX3_markBeforeScale_34 (tgt := 2) (by decide) ?_
        exact ih _ _ _ (lv_sub hl [1, 0] rfl) hK
      · replace hK := if_ne hc hK
        refine q_aload_n C dX3_markBeforeScale_24 rfl (lv_at hl 0 rfl) ?_
        refine g_X3_marks C hko w_fl_X3_15 dX3_markBeforeScale_25 ?_
        refine q_iload_n C dX3_markBeforeScale_28 rfl (lv_at hl 1 rfl) ?_
        refine q_iconst C (v := 1) dX3_markBeforeScale_29 (by decide) ?_
        obtain ⟨h3, hh3, hK⟩ := wr_so hK
        refine q_iast C (kd_s2 hko) hh3 dX3_markBeforeScale_30 ?_
        refine q_iinc C dX3_markBeforeScale_31 hl (j := 1) (v := (v1 + 1)) rfl rfl (by decide) (lv2 := [(1, .int _), (0, .ref _)]) rfl (fun ls hl => ?_)
        refine q_goto C dX3_markBeforeScale_34 (tgt := 2) (by decide) ?_
        exact ih _ _ _ (lv_sub hl [1, 0] rfl) hK
def f_X3_markBeforeScale (o : Nat) (h : PH) : Option (Unit × PH) := gd o 2 (f_X3_markBeforeScale_b2 o 200 (0 : Int32) h)
set_option maxHeartbeats 4000000 in
set_option maxRecDepth 100000 in
theorem c_X3_markBeforeScale (l : Launch) (G : GG) {o : Nat} {h : PH} {res : Unit × PH} (hF : f_X3_markBeforeScale o h = some res) : MV l G yX3_markBeforeScale cX3_markBeforeScale 2 0 [.ref (G.2.2.2.2 o)] h res := by
  unfold f_X3_markBeforeScale at hF
  obtain ⟨hko, hF⟩ := gd_so hF
  refine MV_of (by decide +kernel) (Nat.le_of_ble_eq_true rfl) ?_
  intro p e s m args below meth c ls C hl
  have hK := hF
  clear hF
  have hl : lv_has ls 2 [(0, .ref (G.2.2.2.2 o))] := hl
  have C : cx p s m args meth c G RX3 cX3_markBeforeScale 2 none := C
  refine q_iconst C (v := 0) dX3_markBeforeScale_0 (by decide) ?_
  refine q_istore_n C dX3_markBeforeScale_1 rfl hl (by decide) (lv2 := [(1, .int _), (0, .ref _)]) rfl (fun ls hl => ?_)
  exact t_X3_markBeforeScale_b2 C hko 200 _ _ _ (lv_sub hl [1, 0] rfl) hK
theorem s_X3_markBeforeScale : sv yX3_markBeforeScale cX3_markBeforeScale 2 none 0 := ⟨w_co_X3_markBeforeScale, w_im_X3_markBeforeScale, w_se_X3_markBeforeScale, w_in_X3, by decide +kernel, by decide⟩
def f_X3_leave (o : Nat) (h : PH) : Option (Unit × PH) := gd o 2 (rd h (o + 1) ((h.1 (pl_of o) 0) - (1 : Int32)) (fun x1 => if x1 = 0 then some ((), h) else bd (f_X1_isGood (pl_of o) x1 h) (fun r2 h3 => if r2 = 0 then st h3 o 13 ((h3.1 o 13) + (1 : Int32)) (fun h4 => some ((), h4)) else st h3 o 12 ((h3.1 o 12) + (1 : Int32)) (fun h5 => some ((), h5)))))
set_option maxHeartbeats 4000000 in
set_option maxRecDepth 100000 in
theorem c_X3_leave (l : Launch) (G : GG) {o : Nat} {h : PH} {res : Unit × PH} (hF : f_X3_leave o h = some res) : MV l G yX3_leave cX3_leave 2 2 [.ref (G.2.2.2.2 o)] h res := by
  unfold f_X3_leave at hF
  obtain ⟨hko, hF⟩ := gd_so hF
  refine MV_of (by decide +kernel) (Nat.le_of_ble_eq_true rfl) ?_
  intro p e s m args below meth c ls C hl
  have hK := hF
  clear hF
  have hl : lv_has ls 2 [(0, .ref (G.2.2.2.2 o))] := hl
  have C : cx p s m args meth c G RX3 cX3_leave 2 none := C
  refine q_aload_n C dX3_leave_0 rfl (lv_at hl 0 rfl) ?_
  refine g_X3_bottles C hko w_fl_X3_9 dX3_leave_1 ?_
  refine q_aload_n C dX3_leave_4 rfl (lv_at hl 0 rfl) ?_
  refine g_X3_plan C hko w_fl_X3_24 dX3_leave_5 ?_
  refine g_X1_cells C (kd_pl hko) w_fl_X3_83 dX3_leave_8 ?_
  refine q_iconst C (v := 1) dX3_leave_11 (by decide) ?_
  refine q_isub C dX3_leave_12 ?_
  obtain ⟨x1, hx1, hK⟩ := rd_so hK
  refine q_iald C (kd_s1 hko) hx1 dX3_leave_13 ?_
  refine q_istore_n C dX3_leave_14 rfl hl (by decide) (lv2 := [(1, .int _), (0, .ref _)]) rfl (fun ls hl => ?_)
  refine q_iload_n C dX3_leave_15 rfl (lv_at hl 0 rfl) ?_
  refine q_if_ne C dX3_leave_16 (tgt := 20) (by decide) (fun hc => ?_) (fun hc => ?_)
  · replace hK := if_ne hc hK
    refine q_aload_n C dX3_leave_20 rfl (lv_at hl 1 rfl) ?_
    refine g_X3_plan C hko w_fl_X3_24 dX3_leave_21 ?_
    refine q_iload_n C dX3_leave_24 rfl (lv_at hl 0 rfl) ?_
    obtain ⟨r2, h3, hfr2, hK⟩ := bd_so hK
    refine q_callVi C s_X1_isGood w_ml_X3_129 (c_X1_isGood l G hfr2) (kd_pl hko) rfl (by decide) (ce_0 (kd_pl hko)) (by decide) hl.1 rfl rfl (Nat.le_of_ble_eq_true rfl) dX3_leave_25 ?_
    refine q_if_eq C dX3_leave_28 (tgt := 44) (by decide) (fun hc => ?_) (fun hc => ?_)
    · replace hK := if_po hc hK
      refine q_aload_n C dX3_leave_44 rfl (lv_at hl 1 rfl) ?_
      refine q_dup C dX3_leave_45 rfl ?_
      refine g_X3_escaped C hko w_fl_X3_60 dX3_leave_46 ?_
      refine q_iconst C (v := 1) dX3_leave_49 (by decide) ?_
      refine q_iadd C dX3_leave_50 ?_
      obtain ⟨h4, hh4, hK⟩ := st_so hK
      refine p_X3_escaped C hko w_fl_X3_60 hh4 dX3_leave_51 ?_
      cases hK
      exact q_vret C dX3_leave_54
    · replace hK := if_ne hc hK
      refine q_aload_n C dX3_leave_31 rfl (lv_at hl 1 rfl) ?_
      refine q_dup C dX3_leave_32 rfl ?_
      refine g_X3_out C hko w_fl_X3_57 dX3_leave_33 ?_
      refine q_iconst C (v := 1) dX3_leave_36 (by decide) ?_
      refine q_iadd C dX3_leave_37 ?_
      obtain ⟨h5, hh5, hK⟩ := st_so hK
      refine p_X3_out C hko w_fl_X3_57 hh5 dX3_leave_38 ?_
      refine q_goto C dX3_leave_41 (tgt := 54) (by decide) ?_
      cases hK
      exact q_vret C dX3_leave_54
  · replace hK := if_po hc hK
    cases hK
    exact q_vret C dX3_leave_19
theorem s_X3_leave : sv yX3_leave cX3_leave 2 none 0 := ⟨w_co_X3_leave, w_im_X3_leave, w_se_X3_leave, w_in_X3, by decide +kernel, by decide⟩
def f_X3_moveOn (o : Nat) (h : PH) : Option (Unit × PH) := gd o 2 (cp h (o + 1) (0 : Int32) (o + 1) (1 : Int32) ((h.1 (pl_of o) 0) - (1 : Int32)) (fun h1 => wr h1 (o + 1) (0 : Int32) (0 : Int32) (fun h2 => bd (f_X3_moveMarks o h2) (fun _ h4 => if (h4.1 o 6) ≤ 0 then some ((), h4) else rd h4 (o + 4) (0 : Int32) (fun x5 => bd (f_X0_ofEntry x5 h4) (fun r6 h7 => wr h7 (o + 1) (0 : Int32) r6 (fun h8 => st h8 o 6 ((h8.1 o 6) - (1 : Int32)) (fun h9 => cp h9 (o + 4) (1 : Int32) (o + 4) (0 : Int32) (h9.1 o 6) (fun h10 => some ((), h10))))))))))
set_option maxHeartbeats 4000000 in
set_option maxRecDepth 100000 in
theorem c_X3_moveOn (l : Launch) (G : GG) {o : Nat} {h : PH} {res : Unit × PH} (hF : f_X3_moveOn o h = some res) : MV l G yX3_moveOn cX3_moveOn 1 2 [.ref (G.2.2.2.2 o)] h res := by
  unfold f_X3_moveOn at hF
  obtain ⟨hko, hF⟩ := gd_so hF
  refine MV_of (by decide +kernel) (Nat.le_of_ble_eq_true rfl) ?_
  intro p e s m args below meth c ls C hl
  have hK := hF
  clear hF
  have hl : lv_has ls 1 [(0, .ref (G.2.2.2.2 o))] := hl
  have C : cx p s m args meth c G RX3 cX3_moveOn 1 none := C
  refine q_aload_n C dX3_moveOn_0 rfl (lv_at hl 0 rfl) ?_
  refine g_X3_bottles C hko w_fl_X3_9 dX3_moveOn_1 ?_
  refine q_iconst C (v := 0) dX3_moveOn_4 (by decide) ?_
  refine q_aload_n C dX3_moveOn_5 rfl (lv_at hl 0 rfl) ?_
  refine g_X3_bottles C hko w_fl_X3_9 dX3_moveOn_6 ?_
  refine q_iconst C (v := 1) dX3_moveOn_9 (by decide) ?_
  refine q_aload_n C dX3_moveOn_10 rfl (lv_at hl 0 rfl) ?_
  refine g_X3_plan C hko w_fl_X3_24 dX3_moveOn_11 ?_
  refine g_X1_cells C (kd_pl hko) w_fl_X3_83 dX3_moveOn_14 ?_
  refine q_iconst C (v := 1) dX3_moveOn_17 (by decide) ?_
  refine q_isub C dX3_moveOn_18 ?_
  obtain ⟨h1, hh1, hK⟩ := cp_so hK
  refine q_cp C (by decide) hl.1 (kd_s1 hko) (kd_s1 hko) hh1 w_ml_X3_28 (Nat.le_of_ble_eq_true rfl) dX3_moveOn_19 ?_
  refine q_aload_n C dX3_moveOn_22 rfl (lv_at hl 0 rfl) ?_
  refine g_X3_bottles C hko w_fl_X3_9 dX3_moveOn_23 ?_
  refine q_iconst C (v := 0) dX3_moveOn_26 (by decide) ?_
  refine q_iconst C (v := 0) dX3_moveOn_27 (by decide) ?_
  obtain ⟨h2, hh2, hK⟩ := wr_so hK
  refine q_iast C (kd_s1 hko) hh2 dX3_moveOn_28 ?_
  refine q_aload_n C dX3_moveOn_29 rfl (lv_at hl 0 rfl) ?_
  obtain ⟨r3, h4, hfr3, hK⟩ := bd_so hK
  refine q_callVv C s_X3_moveMarks w_ml_X3_133 (c_X3_moveMarks l G hfr3) hko rfl (by decide) (ce_2 hko) (by decide) hl.1 rfl rfl (Nat.le_of_ble_eq_true rfl) dX3_moveOn_30 ?_
  refine q_aload_n C dX3_moveOn_33 rfl (lv_at hl 0 rfl) ?_
  refine g_X3_entryCount C hko w_fl_X3_38 dX3_moveOn_34 ?_
  refine q_if_le C dX3_moveOn_37 (tgt := 82) (by decide) (fun hc => ?_) (fun hc => ?_)
  · replace hK := if_po hc hK
    cases hK
    exact q_vret C dX3_moveOn_82
  · replace hK := if_ne hc hK
    refine q_aload_n C dX3_moveOn_40 rfl (lv_at hl 0 rfl) ?_
    refine g_X3_bottles C hko w_fl_X3_9 dX3_moveOn_41 ?_
    refine q_iconst C (v := 0) dX3_moveOn_44 (by decide) ?_
    refine q_aload_n C dX3_moveOn_45 rfl (lv_at hl 0 rfl) ?_
    refine g_X3_entries C hko w_fl_X3_21 dX3_moveOn_46 ?_
    refine q_iconst C (v := 0) dX3_moveOn_49 (by decide) ?_
    obtain ⟨x5, hx5, hK⟩ := rd_so hK
    refine q_iald C (kd_s4 hko) hx5 dX3_moveOn_50 ?_
    obtain ⟨r6, h7, hfr6, hK⟩ := bd_so hK
    refine q_callSi C s_X0_ofEntry w_ml_X3_136 (c_X0_ofEntry l G hfr6) (by decide) hl.1 rfl rfl (Nat.le_of_ble_eq_true rfl) dX3_moveOn_51 ?_
    obtain ⟨h8, hh8, hK⟩ := wr_so hK
    refine q_iast C (kd_s1 hko) hh8 dX3_moveOn_54 ?_
    refine q_aload_n C dX3_moveOn_55 rfl (lv_at hl 0 rfl) ?_
    refine q_dup C dX3_moveOn_56 rfl ?_
    refine g_X3_entryCount C hko w_fl_X3_38 dX3_moveOn_57 ?_
    refine q_iconst C (v := 1) dX3_moveOn_60 (by decide) ?_
    refine q_isub C dX3_moveOn_61 ?_
    obtain ⟨h9, hh9, hK⟩ := st_so hK
    refine p_X3_entryCount C hko w_fl_X3_38 hh9 dX3_moveOn_62 ?_
    refine q_aload_n C dX3_moveOn_65 rfl (lv_at hl 0 rfl) ?_
    refine g_X3_entries C hko w_fl_X3_21 dX3_moveOn_66 ?_
    refine q_iconst C (v := 1) dX3_moveOn_69 (by decide) ?_
    refine q_aload_n C dX3_moveOn_70 rfl (lv_at hl 0 rfl) ?_
    refine g_X3_entries C hko w_fl_X3_21 dX3_moveOn_71 ?_
    refine q_iconst C (v := 0) dX3_moveOn_74 (by decide) ?_
    refine q_aload_n C dX3_moveOn_75 rfl (lv_at hl 0 rfl) ?_
    refine g_X3_entryCount C hko w_fl_X3_38 dX3_moveOn_76 ?_
    obtain ⟨h10, hh10, hK⟩ := cp_so hK
    refine q_cp C (by decide) hl.1 (kd_s4 hko) (kd_s4 hko) hh10 w_ml_X3_28 (Nat.le_of_ble_eq_true rfl) dX3_moveOn_79 ?_
    cases hK
    exact q_vret C dX3_moveOn_82
theorem s_X3_moveOn : sv yX3_moveOn cX3_moveOn 1 none 0 := ⟨w_co_X3_moveOn, w_im_X3_moveOn, w_se_X3_moveOn, w_in_X3, by decide +kernel, by decide⟩
def f_X3_leak_b2 (o : Nat) : Nat → Int32 → PH → Option (Unit × PH)
  | 0, _, _ => none
  | n + 1, v1, h => if (h.1 (pl_of o) 0) ≤ v1 then some ((), h) else rd h (o + 1) v1 (fun x1 => bd (f_X0_has x1 (4096 : Int32) h) (fun r2 h3 => if r2 = 0 then (f_X3_leak_b2 o n) (v1 + 1) h3 else bd (f_X0_fillOf x1 h3) (fun r4 h5 => if r4 ≤ 0 then (f_X3_leak_b2 o n) (v1 + 1) h5 else bd (f_X0_leaked x1 h5) (fun r6 h7 => wr h7 (o + 1) v1 r6 (fun h8 => (f_X3_leak_b2 o n) (v1 + 1) h8)))))
set_option maxHeartbeats 4000000 in
set_option maxRecDepth 100000 in
theorem t_X3_leak_b2 {p : Program} {l : Launch} {e : Env} {s : State} {m : MethodId} {args : Array Value} {below : List Frame} {meth : Method} {c : Code} {G : GG} {o : Nat} {res : Unit × PH} (C : cx p s m args meth c G RX3 cX3_leak 3 none) (hko : kd o = 2) (n : Nat) : ∀ (v1 : Int32) (h : PH) (ls : Array Slot), lv_has ls 3 [(0, .ref (G.2.2.2.2 o)), (1, .int v1)] → f_X3_leak_b2 o n v1 h = some res → WW p l e 1 s m args below meth c G h (MQ below (QV G res) args s 0 0 (Ar G)) (F0 m 2 ls []) := by
  induction n with
  | zero => intro v1 h ls hl hK; cases hK
  | succ n ih =>
    intro v1 h ls hl hK
    unfold f_X3_leak_b2 at hK
    refine q_iload_n C dX3_leak_2 rfl (lv_at hl 1 rfl) ?_
    refine q_aload_n C dX3_leak_3 rfl (lv_at hl 0 rfl) ?_
    refine g_X3_plan C hko w_fl_X3_24 dX3_leak_4 ?_
    refine g_X1_cells C (kd_pl hko) w_fl_X3_83 dX3_leak_7 ?_
    refine q_icmp_ge C dX3_leak_10 (tgt := 53) (by decide) (fun hc => ?_) (fun hc => ?_)
    · replace hK := if_po hc hK
      cases hK
      exact q_vret C dX3_leak_53
    · replace hK := if_ne hc hK
      refine q_aload_n C dX3_leak_13 rfl (lv_at hl 0 rfl) ?_
      refine g_X3_bottles C hko w_fl_X3_9 dX3_leak_14 ?_
      refine q_iload_n C dX3_leak_17 rfl (lv_at hl 1 rfl) ?_
      obtain ⟨x1, hx1, hK⟩ := rd_so hK
      refine q_iald C (kd_s1 hko) hx1 dX3_leak_18 ?_
      refine q_istore_n C dX3_leak_19 rfl hl (by decide) (lv2 := [(2, .int _), (0, .ref _), (1, .int _)]) rfl (fun ls hl => ?_)
      refine q_iload_n C dX3_leak_20 rfl (lv_at hl 0 rfl) ?_
      refine q_sipush C (v := 4096) dX3_leak_21 (by decide) ?_
      obtain ⟨r2, h3, hfr2, hK⟩ := bd_so hK
      refine q_callSi C s_X0_has w_ml_X3_140 (c_X0_has l G hfr2) (by decide) hl.1 rfl rfl (Nat.le_of_ble_eq_true rfl) dX3_leak_24 ?_
      refine q_if_eq C dX3_leak_27 (tgt := 47) (by decide) (fun hc => ?_) (fun hc => ?_)
      · replace hK := if_po hc hK
        refine q_iinc C dX3_leak_47 hl (j := 2) (v := (v1 + 1)) rfl rfl (by decide) (lv2 := [(1, .int _), (2, .int _), (0, .ref _)]) rfl (fun ls hl => ?_)
        refine q_goto C dX3_leak_50 (tgt := 2) (by decide) ?_
        exact ih _ _ _ (lv_sub hl [2, 0] rfl) hK
      · replace hK := if_ne hc hK
        refine q_iload_n C dX3_leak_30 rfl (lv_at hl 0 rfl) ?_
        obtain ⟨r4, h5, hfr4, hK⟩ := bd_so hK
        refine q_callSi C s_X0_fillOf w_ml_X3_144 (c_X0_fillOf l G hfr4) (by decide) hl.1 rfl rfl (Nat.le_of_ble_eq_true rfl) dX3_leak_31 ?_
        refine q_if_le C dX3_leak_34 (tgt := 47) (by decide) (fun hc => ?_) (fun hc => ?_)
        · replace hK := if_po hc hK
          refine q_iinc C dX3_leak_47 hl (j := 2) (v := (v1 + 1)) rfl rfl (by decide) (lv2 := [(1, .int _), (2, .int _), (0, .ref _)]) rfl (fun ls hl => ?_)
          refine q_goto C dX3_leak_50 (tgt := 2) (by decide) ?_
          exact ih _ _ _ (lv_sub hl [2, 0] rfl) hK
        · replace hK := if_ne hc hK
          refine q_aload_n C dX3_leak_37 rfl (lv_at hl 1 rfl) ?_
          refine g_X3_bottles C hko w_fl_X3_9 dX3_leak_38 ?_
          refine q_iload_n C dX3_leak_41 rfl (lv_at hl 2 rfl) ?_
          refine q_iload_n C dX3_leak_42 rfl (lv_at hl 0 rfl) ?_
          obtain ⟨r6, h7, hfr6, hK⟩ := bd_so hK
          refine q_callSi C s_X0_leaked w_ml_X3_147 (c_X0_leaked l G hfr6) (by decide) hl.1 rfl rfl (Nat.le_of_ble_eq_true rfl) dX3_leak_43 ?_
          obtain ⟨h8, hh8, hK⟩ := wr_so hK
          refine q_iast C (kd_s1 hko) hh8 dX3_leak_46 ?_
          refine q_iinc C dX3_leak_47 hl (j := 2) (v := (v1 + 1)) rfl rfl (by decide) (lv2 := [(1, .int _), (2, .int _), (0, .ref _)]) rfl (fun ls hl => ?_)
          refine q_goto C dX3_leak_50 (tgt := 2) (by decide) ?_
          exact ih _ _ _ (lv_sub hl [2, 0] rfl) hK
def f_X3_leak (o : Nat) (h : PH) : Option (Unit × PH) := gd o 2 (f_X3_leak_b2 o 200 (0 : Int32) h)
set_option maxHeartbeats 4000000 in
set_option maxRecDepth 100000 in
theorem c_X3_leak (l : Launch) (G : GG) {o : Nat} {h : PH} {res : Unit × PH} (hF : f_X3_leak o h = some res) : MV l G yX3_leak cX3_leak 3 1 [.ref (G.2.2.2.2 o)] h res := by
  unfold f_X3_leak at hF
  obtain ⟨hko, hF⟩ := gd_so hF
  refine MV_of (by decide +kernel) (Nat.le_of_ble_eq_true rfl) ?_
  intro p e s m args below meth c ls C hl
  have hK := hF
  clear hF
  have hl : lv_has ls 3 [(0, .ref (G.2.2.2.2 o))] := hl
  have C : cx p s m args meth c G RX3 cX3_leak 3 none := C
  refine q_iconst C (v := 0) dX3_leak_0 (by decide) ?_
  refine q_istore_n C dX3_leak_1 rfl hl (by decide) (lv2 := [(1, .int _), (0, .ref _)]) rfl (fun ls hl => ?_)
  exact t_X3_leak_b2 C hko 200 _ _ _ (lv_sub hl [1, 0] rfl) hK
theorem s_X3_leak : sv yX3_leak cX3_leak 3 none 0 := ⟨w_co_X3_leak, w_im_X3_leak, w_se_X3_leak, w_in_X3, by decide +kernel, by decide⟩
def f_X3_isOff (o : Nat) (a1 : Int32) (h : PH) : Option (Int32 × PH) := gd o 2 (if (((h.1 o 4) >>> (a1 &&& 31)) &&& (1 : Int32)) = 0 then some ((0 : Int32), h) else some ((1 : Int32), h))
set_option maxHeartbeats 4000000 in
set_option maxRecDepth 100000 in
theorem c_X3_isOff (l : Launch) (G : GG) {o : Nat} {a1 : Int32} {h : PH} {res : Int32 × PH} (hF : f_X3_isOff o a1 h = some res) : MI l G yX3_isOff cX3_isOff 2 .boolean 0 [.ref (G.2.2.2.2 o), .int a1] h res := by
  unfold f_X3_isOff at hF
  obtain ⟨hko, hF⟩ := gd_so hF
  refine MI_of (by decide +kernel) (Nat.le_of_ble_eq_true rfl) ?_
  intro p e s m args below meth c ls C hl
  have hK := hF
  clear hF
  have hl : lv_has ls 2 [(0, .ref (G.2.2.2.2 o)), (1, .int a1)] := hl
  have C : cx p s m args meth c G RX3 cX3_isOff 2 (some .boolean) := C
  refine q_aload_n C dX3_isOff_0 rfl (lv_at hl 0 rfl) ?_
  refine g_X3_off C hko w_fl_X3_34 dX3_isOff_1 ?_
  refine q_iload_n C dX3_isOff_4 rfl (lv_at hl 1 rfl) ?_
  refine q_ishr C dX3_isOff_5 ?_
  refine q_iconst C (v := 1) dX3_isOff_6 (by decide) ?_
  refine q_iand C dX3_isOff_7 ?_
  refine q_if_eq C dX3_isOff_8 (tgt := 15) (by decide) (fun hc => ?_) (fun hc => ?_)
  · replace hK := if_po hc hK
    refine q_iconst C (v := 0) dX3_isOff_15 (by decide) ?_
    cases hK
    exact q_zret C (Or.inl rfl) dX3_isOff_16
  · replace hK := if_ne hc hK
    refine q_iconst C (v := 1) dX3_isOff_11 (by decide) ?_
    refine q_goto C dX3_isOff_12 (tgt := 16) (by decide) ?_
    cases hK
    exact q_zret C (Or.inr rfl) dX3_isOff_16
theorem s_X3_isOff : sv yX3_isOff cX3_isOff 2 (some .boolean) 1 := ⟨w_co_X3_isOff, w_im_X3_isOff, w_se_X3_isOff, w_in_X3, by decide +kernel, by decide⟩
def f_X3_fill_b57 (o : Nat) (v1 : Int32) (s0 : Int32) (h : PH) : Option (Unit × PH) := rd h (o + 1) (0 : Int32) (fun x12 => bd (f_X0_filled x12 v1 s0 h) (fun r13 h14 => wr h14 (o + 1) (0 : Int32) r13 (fun h15 => some ((), h15))))
set_option maxHeartbeats 4000000 in
set_option maxRecDepth 100000 in
theorem t_X3_fill_b57 {p : Program} {l : Launch} {e : Env} {s : State} {m : MethodId} {args : Array Value} {below : List Frame} {meth : Method} {c : Code} {G : GG} {o : Nat} {res : Unit × PH} (C : cx p s m args meth c G RX3 cX3_fill 3 none) (hko : kd o = 2) {v1 : Int32} {s0 : Int32} {h : PH} {ls : Array Slot} (hl : lv_has ls 3 [(0, .ref (G.2.2.2.2 o)), (1, .int v1)]) (hK : f_X3_fill_b57 o v1 s0 h = some res) : WW p l e 2 s m args below meth c G h (MQ below (QV G res) args s 0 0 (Ar G)) (F0 m 57 ls [.int s0]) := by
  unfold f_X3_fill_b57 at hK
  refine q_istore_n C dX3_fill_57 rfl hl (by decide) (lv2 := [(2, .int _), (0, .ref _), (1, .int _)]) rfl (fun ls hl => ?_)
  refine q_aload_n C dX3_fill_58 rfl (lv_at hl 1 rfl) ?_
  refine g_X3_bottles C hko w_fl_X3_9 dX3_fill_59 ?_
  refine q_iconst C (v := 0) dX3_fill_62 (by decide) ?_
  refine q_aload_n C dX3_fill_63 rfl (lv_at hl 1 rfl) ?_
  refine g_X3_bottles C hko w_fl_X3_9 dX3_fill_64 ?_
  refine q_iconst C (v := 0) dX3_fill_67 (by decide) ?_
  obtain ⟨x12, hx12, hK⟩ := rd_so hK
  refine q_iald C (kd_s1 hko) hx12 dX3_fill_68 ?_
  refine q_iload_n C dX3_fill_69 rfl (lv_at hl 2 rfl) ?_
  refine q_iload_n C dX3_fill_70 rfl (lv_at hl 0 rfl) ?_
  obtain ⟨r13, h14, hfr13, hK⟩ := bd_so hK
  refine q_callSi C s_X0_filled w_ml_X3_165 (c_X0_filled l G hfr13) (by decide) hl.1 rfl rfl (Nat.le_of_ble_eq_true rfl) dX3_fill_71 ?_
  obtain ⟨h15, hh15, hK⟩ := wr_so hK
  refine q_iast C (kd_s1 hko) hh15 dX3_fill_74 ?_
  cases hK
  exact q_vret C dX3_fill_75
def f_X3_fill (o : Nat) (h : PH) : Option (Unit × PH) := gd o 2 (bd (f_X3_nextValve o h) (fun r1 h2 => rd h2 (o + 1) (0 : Int32) (fun x3 => if x3 = 0 then some ((), h2) else bd (f_X1_hasValve (pl_of o) r1 h2) (fun r4 h5 => if r4 = 0 then some ((), h5) else bd (f_X3_isOff o r1 h5) (fun r6 h7 => if r6 = 0 then rd h7 (o + 3) r1 (fun x8 => rd h7 ((pl_of o) + 2) r1 (fun x9 => bd (f_X4_limited (x8 + x9) h7) (fun r10 h11 => f_X3_fill_b57 o r1 r10 h11))) else f_X3_fill_b57 o r1 (0 : Int32) h7)))))
set_option maxHeartbeats 4000000 in
set_option maxRecDepth 100000 in
theorem c_X3_fill (l : Launch) (G : GG) {o : Nat} {h : PH} {res : Unit × PH} (hF : f_X3_fill o h = some res) : MV l G yX3_fill cX3_fill 3 2 [.ref (G.2.2.2.2 o)] h res := by
  unfold f_X3_fill at hF
  obtain ⟨hko, hF⟩ := gd_so hF
  refine MV_of (by decide +kernel) (Nat.le_of_ble_eq_true rfl) ?_
  intro p e s m args below meth c ls C hl
  have hK := hF
  clear hF
  have hl : lv_has ls 3 [(0, .ref (G.2.2.2.2 o))] := hl
  have C : cx p s m args meth c G RX3 cX3_fill 3 none := C
  refine q_aload_n C dX3_fill_0 rfl (lv_at hl 0 rfl) ?_
  obtain ⟨r1, h2, hfr1, hK⟩ := bd_so hK
  refine q_callVi C s_X3_nextValve w_ml_X3_150 (c_X3_nextValve l G hfr1) hko rfl (by decide) (ce_2 hko) (by decide) hl.1 rfl rfl (Nat.le_of_ble_eq_true rfl) dX3_fill_1 ?_
  refine q_istore_n C dX3_fill_4 rfl hl (by decide) (lv2 := [(1, .int _), (0, .ref _)]) rfl (fun ls hl => ?_)
  refine q_aload_n C dX3_fill_5 rfl (lv_at hl 1 rfl) ?_
  refine g_X3_bottles C hko w_fl_X3_9 dX3_fill_6 ?_
  refine q_iconst C (v := 0) dX3_fill_9 (by decide) ?_
  obtain ⟨x3, hx3, hK⟩ := rd_so hK
  refine q_iald C (kd_s1 hko) hx3 dX3_fill_10 ?_
  refine q_if_eq C dX3_fill_11 (tgt := 25) (by decide) (fun hc => ?_) (fun hc => ?_)
  · replace hK := if_po hc hK
    cases hK
    exact q_vret C dX3_fill_25
  · replace hK := if_ne hc hK
    refine q_aload_n C dX3_fill_14 rfl (lv_at hl 1 rfl) ?_
    refine g_X3_plan C hko w_fl_X3_24 dX3_fill_15 ?_
    refine q_iload_n C dX3_fill_18 rfl (lv_at hl 0 rfl) ?_
    obtain ⟨r4, h5, hfr4, hK⟩ := bd_so hK
    refine q_callVi C s_X1_hasValve w_ml_X3_153 (c_X1_hasValve l G hfr4) (kd_pl hko) rfl (by decide) (ce_0 (kd_pl hko)) (by decide) hl.1 rfl rfl (Nat.le_of_ble_eq_true rfl) dX3_fill_19 ?_
    refine q_if_ne C dX3_fill_22 (tgt := 26) (by decide) (fun hc => ?_) (fun hc => ?_)
    · replace hK := if_ne hc hK
      refine q_aload_n C dX3_fill_26 rfl (lv_at hl 1 rfl) ?_
      refine q_iload_n C dX3_fill_27 rfl (lv_at hl 0 rfl) ?_
      obtain ⟨r6, h7, hfr6, hK⟩ := bd_so hK
      refine q_callVi C s_X3_isOff w_ml_X3_156 (c_X3_isOff l G hfr6) hko rfl (by decide) (ce_2 hko) (by decide) hl.1 rfl rfl (Nat.le_of_ble_eq_true rfl) dX3_fill_28 ?_
      refine q_if_eq C dX3_fill_31 (tgt := 38) (by decide) (fun hc => ?_) (fun hc => ?_)
      · replace hK := if_po hc hK
        refine q_aload_n C dX3_fill_38 rfl (lv_at hl 1 rfl) ?_
        refine g_X3_settings C hko w_fl_X3_18 dX3_fill_39 ?_
        refine q_iload_n C dX3_fill_42 rfl (lv_at hl 0 rfl) ?_
        obtain ⟨x8, hx8, hK⟩ := rd_so hK
        refine q_iald C (kd_s3 hko) hx8 dX3_fill_43 ?_
        refine q_aload_n C dX3_fill_44 rfl (lv_at hl 1 rfl) ?_
        refine g_X3_plan C hko w_fl_X3_24 dX3_fill_45 ?_
        refine g_X1_drifts C (kd_pl hko) w_fl_X3_159 dX3_fill_48 ?_
        refine q_iload_n C dX3_fill_51 rfl (lv_at hl 0 rfl) ?_
        obtain ⟨x9, hx9, hK⟩ := rd_so hK
        refine q_iald C (kd_p2 (kd_pl hko)) hx9 dX3_fill_52 ?_
        refine q_iadd C dX3_fill_53 ?_
        obtain ⟨r10, h11, hfr10, hK⟩ := bd_so hK
        refine q_callNi C s_X4_limited w_ml_X3_162 (c_X4_limited l G hfr10) (by decide) hl.1 rfl rfl (Nat.le_of_ble_eq_true rfl) dX3_fill_54 ?_
        exact t_X3_fill_b57 C hko (lv_sub hl [1, 0] rfl) hK
      · replace hK := if_ne hc hK
        refine q_iconst C (v := 0) dX3_fill_34 (by decide) ?_
        refine q_goto C dX3_fill_35 (tgt := 57) (by decide) ?_
        exact t_X3_fill_b57 C hko (lv_sub hl [1, 0] rfl) hK
    · replace hK := if_po hc hK
      cases hK
      exact q_vret C dX3_fill_25
theorem s_X3_fill : sv yX3_fill cX3_fill 3 none 0 := ⟨w_co_X3_fill, w_im_X3_fill, w_se_X3_fill, w_in_X3, by decide +kernel, by decide⟩
def f_X3_weigh (o : Nat) (h : PH) : Option (Unit × PH) := gd o 2 (rd h ((pl_of o) + 1) (0 : Int32) (fun x1 => rd h (o + 1) x1 (fun x2 => bd (f_X0_valveOf x2 h) (fun r3 h4 => bd (f_X1_hasValve (pl_of o) r3 h4) (fun r5 h6 => if r5 = 0 then some ((), h6) else bd (f_X3_isOff o r3 h6) (fun r7 h8 => if r7 = 0 then bd (f_X0_fillOf x2 h8) (fun r9 h10 => rd h10 (o + 3) r3 (fun x11 => bd (f_X4_limited (x11 + (((h8.1 (pl_of o) 2) - r9) / (2 : Int32))) h10) (fun r12 h13 => wr h13 (o + 3) r3 r12 (fun h14 => some ((), h14))))) else some ((), h8)))))))
set_option maxHeartbeats 4000000 in
set_option maxRecDepth 100000 in
theorem c_X3_weigh (l : Launch) (G : GG) {o : Nat} {h : PH} {res : Unit × PH} (hF : f_X3_weigh o h = some res) : MV l G yX3_weigh cX3_weigh 4 2 [.ref (G.2.2.2.2 o)] h res := by
  unfold f_X3_weigh at hF
  obtain ⟨hko, hF⟩ := gd_so hF
  refine MV_of (by decide +kernel) (Nat.le_of_ble_eq_true rfl) ?_
  intro p e s m args below meth c ls C hl
  have hK := hF
  clear hF
  have hl : lv_has ls 4 [(0, .ref (G.2.2.2.2 o))] := hl
  have C : cx p s m args meth c G RX3 cX3_weigh 4 none := C
  refine q_aload_n C dX3_weigh_0 rfl (lv_at hl 0 rfl) ?_
  refine g_X3_bottles C hko w_fl_X3_9 dX3_weigh_1 ?_
  refine q_aload_n C dX3_weigh_4 rfl (lv_at hl 0 rfl) ?_
  refine g_X3_plan C hko w_fl_X3_24 dX3_weigh_5 ?_
  refine g_X1_stations C (kd_pl hko) w_fl_X3_100 dX3_weigh_8 ?_
  refine q_iconst C (v := 0) dX3_weigh_11 (by decide) ?_
  obtain ⟨x1, hx1, hK⟩ := rd_so hK
  refine q_iald C (kd_p1 (kd_pl hko)) hx1 dX3_weigh_12 ?_
  obtain ⟨x2, hx2, hK⟩ := rd_so hK
  refine q_iald C (kd_s1 hko) hx2 dX3_weigh_13 ?_
  refine q_istore_n C dX3_weigh_14 rfl hl (by decide) (lv2 := [(1, .int _), (0, .ref _)]) rfl (fun ls hl => ?_)
  refine q_iload_n C dX3_weigh_15 rfl (lv_at hl 0 rfl) ?_
  obtain ⟨r3, h4, hfr3, hK⟩ := bd_so hK
  refine q_callSi C s_X0_valveOf w_ml_X3_169 (c_X0_valveOf l G hfr3) (by decide) hl.1 rfl rfl (Nat.le_of_ble_eq_true rfl) dX3_weigh_16 ?_
  refine q_istore_n C dX3_weigh_19 rfl hl (by decide) (lv2 := [(2, .int _), (1, .int _), (0, .ref _)]) rfl (fun ls hl => ?_)
  refine q_aload_n C dX3_weigh_20 rfl (lv_at hl 2 rfl) ?_
  refine g_X3_plan C hko w_fl_X3_24 dX3_weigh_21 ?_
  refine q_iload_n C dX3_weigh_24 rfl (lv_at hl 0 rfl) ?_
  obtain ⟨r5, h6, hfr5, hK⟩ := bd_so hK
  refine q_callVi C s_X1_hasValve w_ml_X3_153 (c_X1_hasValve l G hfr5) (kd_pl hko) rfl (by decide) (ce_0 (kd_pl hko)) (by decide) hl.1 rfl rfl (Nat.le_of_ble_eq_true rfl) dX3_weigh_25 ?_
  refine q_if_eq C dX3_weigh_28 (tgt := 71) (by decide) (fun hc => ?_) (fun hc => ?_)
  · replace hK := if_po hc hK
    cases hK
    exact q_vret C dX3_weigh_71
  · replace hK := if_ne hc hK
    refine q_aload_n C dX3_weigh_31 rfl (lv_at hl 2 rfl) ?_
    refine q_iload_n C dX3_weigh_32 rfl (lv_at hl 0 rfl) ?_
    obtain ⟨r7, h8, hfr7, hK⟩ := bd_so hK
    refine q_callVi C s_X3_isOff w_ml_X3_156 (c_X3_isOff l G hfr7) hko rfl (by decide) (ce_2 hko) (by decide) hl.1 rfl rfl (Nat.le_of_ble_eq_true rfl) dX3_weigh_33 ?_
    refine q_if_ne C dX3_weigh_36 (tgt := 71) (by decide) (fun hc => ?_) (fun hc => ?_)
    · replace hK := if_ne hc hK
      cases hK
      exact q_vret C dX3_weigh_71
    · replace hK := if_po hc hK
      refine q_aload_n C dX3_weigh_39 rfl (lv_at hl 2 rfl) ?_
      refine g_X3_plan C hko w_fl_X3_24 dX3_weigh_40 ?_
      refine g_X1_target C (kd_pl hko) w_fl_X3_172 dX3_weigh_43 ?_
      refine q_iload_n C dX3_weigh_46 rfl (lv_at hl 1 rfl) ?_
      obtain ⟨r9, h10, hfr9, hK⟩ := bd_so hK
      refine q_callSi C s_X0_fillOf w_ml_X3_144 (c_X0_fillOf l G hfr9) (by decide) hl.1 rfl rfl (Nat.le_of_ble_eq_true rfl) dX3_weigh_47 ?_
      refine q_isub C dX3_weigh_50 ?_
      refine q_iconst C (v := 2) dX3_weigh_51 (by decide) ?_
      refine q_idiv C dX3_weigh_52 (by decide) ?_
      refine q_istore_n C dX3_weigh_53 rfl hl (by decide) (lv2 := [(3, .int _), (2, .int _), (1, .int _), (0, .ref _)]) rfl (fun ls hl => ?_)
      refine q_aload_n C dX3_weigh_54 rfl (lv_at hl 3 rfl) ?_
      refine g_X3_settings C hko w_fl_X3_18 dX3_weigh_55 ?_
      refine q_iload_n C dX3_weigh_58 rfl (lv_at hl 1 rfl) ?_
      refine q_aload_n C dX3_weigh_59 rfl (lv_at hl 3 rfl) ?_
      refine g_X3_settings C hko w_fl_X3_18 dX3_weigh_60 ?_
      refine q_iload_n C dX3_weigh_63 rfl (lv_at hl 1 rfl) ?_
      obtain ⟨x11, hx11, hK⟩ := rd_so hK
      refine q_iald C (kd_s3 hko) hx11 dX3_weigh_64 ?_
      refine q_iload_n C dX3_weigh_65 rfl (lv_at hl 0 rfl) ?_
      refine q_iadd C dX3_weigh_66 ?_
      obtain ⟨r12, h13, hfr12, hK⟩ := bd_so hK
      refine q_callNi C s_X4_limited w_ml_X3_162 (c_X4_limited l G hfr12) (by decide) hl.1 rfl rfl (Nat.le_of_ble_eq_true rfl) dX3_weigh_67 ?_
      obtain ⟨h14, hh14, hK⟩ := wr_so hK
      refine q_iast C (kd_s3 hko) hh14 dX3_weigh_70 ?_
      cases hK
      exact q_vret C dX3_weigh_71
theorem s_X3_weigh : sv yX3_weigh cX3_weigh 4 none 0 := ⟨w_co_X3_weigh, w_im_X3_weigh, w_se_X3_weigh, w_in_X3, by decide +kernel, by decide⟩
def f_X3_equip_b48 (o : Nat) (h : PH) : Option (Unit × PH) := rd h ((pl_of o) + 1) (2 : Int32) (fun x6 => rd h (o + 1) x6 (fun x7 => if x7 = 0 then some ((), h) else if (h.1 o 8) ≤ 0 then some ((), h) else rd h (o + 1) x6 (fun x8 => wr h (o + 1) x6 (x8 ||| (2048 : Int32)) (fun h9 => st h9 o 8 ((h9.1 o 8) - (1 : Int32)) (fun h10 => some ((), h10))))))
set_option maxHeartbeats 4000000 in
set_option maxRecDepth 100000 in
theorem t_X3_equip_b48 {p : Program} {l : Launch} {e : Env} {s : State} {m : MethodId} {args : Array Value} {below : List Frame} {meth : Method} {c : Code} {G : GG} {o : Nat} {res : Unit × PH} (C : cx p s m args meth c G RX3 cX3_equip 3 none) (hko : kd o = 2) {h : PH} {ls : Array Slot} (hl : lv_has ls 3 [(0, .ref (G.2.2.2.2 o))]) (hK : f_X3_equip_b48 o h = some res) : WW p l e 0 s m args below meth c G h (MQ below (QV G res) args s 0 0 (Ar G)) (F0 m 48 ls []) := by
  unfold f_X3_equip_b48 at hK
  refine q_aload_n C dX3_equip_48 rfl (lv_at hl 0 rfl) ?_
  refine g_X3_plan C hko w_fl_X3_24 dX3_equip_49 ?_
  refine g_X1_stations C (kd_pl hko) w_fl_X3_100 dX3_equip_52 ?_
  refine q_iconst C (v := 2) dX3_equip_55 (by decide) ?_
  obtain ⟨x6, hx6, hK⟩ := rd_so hK
  refine q_iald C (kd_p1 (kd_pl hko)) hx6 dX3_equip_56 ?_
  refine q_istore_n C dX3_equip_57 rfl hl (by decide) (lv2 := [(2, .int _), (0, .ref _)]) rfl (fun ls hl => ?_)
  refine q_aload_n C dX3_equip_58 rfl (lv_at hl 1 rfl) ?_
  refine g_X3_bottles C hko w_fl_X3_9 dX3_equip_59 ?_
  refine q_iload_n C dX3_equip_62 rfl (lv_at hl 0 rfl) ?_
  obtain ⟨x7, hx7, hK⟩ := rd_so hK
  refine q_iald C (kd_s1 hko) hx7 dX3_equip_63 ?_
  refine q_if_eq C dX3_equip_64 (tgt := 96) (by decide) (fun hc => ?_) (fun hc => ?_)
  · replace hK := if_po hc hK
    cases hK
    exact q_vret C dX3_equip_96
  · replace hK := if_ne hc hK
    refine q_aload_n C dX3_equip_67 rfl (lv_at hl 1 rfl) ?_
    refine g_X3_labels C hko w_fl_X3_44 dX3_equip_68 ?_
    refine q_if_le C dX3_equip_71 (tgt := 96) (by decide) (fun hc => ?_) (fun hc => ?_)
    · replace hK := if_po hc hK
      cases hK
      exact q_vret C dX3_equip_96
    · replace hK := if_ne hc hK
      refine q_aload_n C dX3_equip_74 rfl (lv_at hl 1 rfl) ?_
      refine g_X3_bottles C hko w_fl_X3_9 dX3_equip_75 ?_
      refine q_iload_n C dX3_equip_78 rfl (lv_at hl 0 rfl) ?_
      refine q_dup2 C dX3_equip_79 rfl rfl ?_
      obtain ⟨x8, hx8, hK⟩ := rd_so hK
      refine q_iald C (kd_s1 hko) hx8 dX3_equip_80 ?_
      refine q_sipush C (v := 2048) dX3_equip_81 (by decide) ?_
      refine q_ior C dX3_equip_84 ?_
      obtain ⟨h9, hh9, hK⟩ := wr_so hK
      refine q_iast C (kd_s1 hko) hh9 dX3_equip_85 ?_
      refine q_aload_n C dX3_equip_86 rfl (lv_at hl 1 rfl) ?_
      refine q_dup C dX3_equip_87 rfl ?_
      refine g_X3_labels C hko w_fl_X3_44 dX3_equip_88 ?_
      refine q_iconst C (v := 1) dX3_equip_91 (by decide) ?_
      refine q_isub C dX3_equip_92 ?_
      obtain ⟨h10, hh10, hK⟩ := st_so hK
      refine p_X3_labels C hko w_fl_X3_44 hh10 dX3_equip_93 ?_
      cases hK
      exact q_vret C dX3_equip_96
def f_X3_equip (o : Nat) (h : PH) : Option (Unit × PH) := gd o 2 (rd h ((pl_of o) + 1) (1 : Int32) (fun x1 => rd h (o + 1) x1 (fun x2 => if x2 = 0 then f_X3_equip_b48 o h else if (h.1 o 7) ≤ 0 then f_X3_equip_b48 o h else rd h (o + 1) x1 (fun x3 => wr h (o + 1) x1 (x3 ||| (1024 : Int32)) (fun h4 => st h4 o 7 ((h4.1 o 7) - (1 : Int32)) (fun h5 => f_X3_equip_b48 o h5))))))
set_option maxHeartbeats 4000000 in
set_option maxRecDepth 100000 in
theorem c_X3_equip (l : Launch) (G : GG) {o : Nat} {h : PH} {res : Unit × PH} (hF : f_X3_equip o h = some res) : MV l G yX3_equip cX3_equip 3 0 [.ref (G.2.2.2.2 o)] h res := by
  unfold f_X3_equip at hF
  obtain ⟨hko, hF⟩ := gd_so hF
  refine MV_of (by decide +kernel) (Nat.le_of_ble_eq_true rfl) ?_
  intro p e s m args below meth c ls C hl
  have hK := hF
  clear hF
  have hl : lv_has ls 3 [(0, .ref (G.2.2.2.2 o))] := hl
  have C : cx p s m args meth c G RX3 cX3_equip 3 none := C
  refine q_aload_n C dX3_equip_0 rfl (lv_at hl 0 rfl) ?_
  refine g_X3_plan C hko w_fl_X3_24 dX3_equip_1 ?_
  refine g_X1_stations C (kd_pl hko) w_fl_X3_100 dX3_equip_4 ?_
  refine q_iconst C (v := 1) dX3_equip_7 (by decide) ?_
  obtain ⟨x1, hx1, hK⟩ := rd_so hK
  refine q_iald C (kd_p1 (kd_pl hko)) hx1 dX3_equip_8 ?_
  refine q_istore_n C dX3_equip_9 rfl hl (by decide) (lv2 := [(1, .int _), (0, .ref _)]) rfl (fun ls hl => ?_)
  refine q_aload_n C dX3_equip_10 rfl (lv_at hl 1 rfl) ?_
  refine g_X3_bottles C hko w_fl_X3_9 dX3_equip_11 ?_
  refine q_iload_n C dX3_equip_14 rfl (lv_at hl 0 rfl) ?_
  obtain ⟨x2, hx2, hK⟩ := rd_so hK
  refine q_iald C (kd_s1 hko) hx2 dX3_equip_15 ?_
  refine q_if_eq C dX3_equip_16 (tgt := 48) (by decide) (fun hc => ?_) (fun hc => ?_)
  · replace hK := if_po hc hK
    exact t_X3_equip_b48 C hko (lv_sub hl [1] rfl) hK
  · replace hK := if_ne hc hK
    refine q_aload_n C dX3_equip_19 rfl (lv_at hl 1 rfl) ?_
    refine g_X3_caps C hko w_fl_X3_41 dX3_equip_20 ?_
    refine q_if_le C dX3_equip_23 (tgt := 48) (by decide) (fun hc => ?_) (fun hc => ?_)
    · replace hK := if_po hc hK
      exact t_X3_equip_b48 C hko (lv_sub hl [1] rfl) hK
    · replace hK := if_ne hc hK
      refine q_aload_n C dX3_equip_26 rfl (lv_at hl 1 rfl) ?_
      refine g_X3_bottles C hko w_fl_X3_9 dX3_equip_27 ?_
      refine q_iload_n C dX3_equip_30 rfl (lv_at hl 0 rfl) ?_
      refine q_dup2 C dX3_equip_31 rfl rfl ?_
      obtain ⟨x3, hx3, hK⟩ := rd_so hK
      refine q_iald C (kd_s1 hko) hx3 dX3_equip_32 ?_
      refine q_sipush C (v := 1024) dX3_equip_33 (by decide) ?_
      refine q_ior C dX3_equip_36 ?_
      obtain ⟨h4, hh4, hK⟩ := wr_so hK
      refine q_iast C (kd_s1 hko) hh4 dX3_equip_37 ?_
      refine q_aload_n C dX3_equip_38 rfl (lv_at hl 1 rfl) ?_
      refine q_dup C dX3_equip_39 rfl ?_
      refine g_X3_caps C hko w_fl_X3_41 dX3_equip_40 ?_
      refine q_iconst C (v := 1) dX3_equip_43 (by decide) ?_
      refine q_isub C dX3_equip_44 ?_
      obtain ⟨h5, hh5, hK⟩ := st_so hK
      refine p_X3_caps C hko w_fl_X3_41 hh5 dX3_equip_45 ?_
      exact t_X3_equip_b48 C hko (lv_sub hl [1] rfl) hK
theorem s_X3_equip : sv yX3_equip cX3_equip 3 none 0 := ⟨w_co_X3_equip, w_im_X3_equip, w_se_X3_equip, w_in_X3, by decide +kernel, by decide⟩
def f_X3_check (o : Nat) (h : PH) : Option (Unit × PH) := gd o 2 (rd h ((pl_of o) + 1) (3 : Int32) (fun x1 => rd h (o + 1) x1 (fun x2 => if x2 = 0 then some ((), h) else rd h (o + 1) x1 (fun x3 => bd (f_X1_isGood (pl_of o) x3 h) (fun r4 h5 => if r4 = 0 then wr h5 (o + 2) x1 (1 : Int32) (fun h10 => some ((), h10)) else rd h5 (o + 2) x1 (fun x6 => if x6 = 0 then st h5 o 17 ((h5.1 o 17) + (1 : Int32)) (fun h7 => if (h7.1 (pl_of o) 4) = 0 then some ((), h7) else nz (h7.1 (pl_of o) 4) (if (irm (h7.1 o 17) (h7.1 (pl_of o) 4)) = 0 then wr h7 (o + 2) x1 (2 : Int32) (fun h9 => some ((), h9)) else some ((), h7))) else some ((), h5)))))))
set_option maxHeartbeats 4000000 in
set_option maxRecDepth 100000 in
theorem c_X3_check (l : Launch) (G : GG) {o : Nat} {h : PH} {res : Unit × PH} (hF : f_X3_check o h = some res) : MV l G yX3_check cX3_check 2 2 [.ref (G.2.2.2.2 o)] h res := by
  unfold f_X3_check at hF
  obtain ⟨hko, hF⟩ := gd_so hF
  refine MV_of (by decide +kernel) (Nat.le_of_ble_eq_true rfl) ?_
  intro p e s m args below meth c ls C hl
  have hK := hF
  clear hF
  have hl : lv_has ls 2 [(0, .ref (G.2.2.2.2 o))] := hl
  have C : cx p s m args meth c G RX3 cX3_check 2 none := C
  refine q_aload_n C dX3_check_0 rfl (lv_at hl 0 rfl) ?_
  refine g_X3_plan C hko w_fl_X3_24 dX3_check_1 ?_
  refine g_X1_stations C (kd_pl hko) w_fl_X3_100 dX3_check_4 ?_
  refine q_iconst C (v := 3) dX3_check_7 (by decide) ?_
  obtain ⟨x1, hx1, hK⟩ := rd_so hK
  refine q_iald C (kd_p1 (kd_pl hko)) hx1 dX3_check_8 ?_
  refine q_istore_n C dX3_check_9 rfl hl (by decide) (lv2 := [(1, .int _), (0, .ref _)]) rfl (fun ls hl => ?_)
  refine q_aload_n C dX3_check_10 rfl (lv_at hl 1 rfl) ?_
  refine g_X3_bottles C hko w_fl_X3_9 dX3_check_11 ?_
  refine q_iload_n C dX3_check_14 rfl (lv_at hl 0 rfl) ?_
  obtain ⟨x2, hx2, hK⟩ := rd_so hK
  refine q_iald C (kd_s1 hko) hx2 dX3_check_15 ?_
  refine q_if_ne C dX3_check_16 (tgt := 20) (by decide) (fun hc => ?_) (fun hc => ?_)
  · replace hK := if_ne hc hK
    refine q_aload_n C dX3_check_20 rfl (lv_at hl 1 rfl) ?_
    refine g_X3_plan C hko w_fl_X3_24 dX3_check_21 ?_
    refine q_aload_n C dX3_check_24 rfl (lv_at hl 1 rfl) ?_
    refine g_X3_bottles C hko w_fl_X3_9 dX3_check_25 ?_
    refine q_iload_n C dX3_check_28 rfl (lv_at hl 0 rfl) ?_
    obtain ⟨x3, hx3, hK⟩ := rd_so hK
    refine q_iald C (kd_s1 hko) hx3 dX3_check_29 ?_
    obtain ⟨r4, h5, hfr4, hK⟩ := bd_so hK
    refine q_callVi C s_X1_isGood w_ml_X3_129 (c_X1_isGood l G hfr4) (kd_pl hko) rfl (by decide) (ce_0 (kd_pl hko)) (by decide) hl.1 rfl rfl (Nat.le_of_ble_eq_true rfl) dX3_check_30 ?_
    refine q_if_ne C dX3_check_33 (tgt := 46) (by decide) (fun hc => ?_) (fun hc => ?_)
    · replace hK := if_ne hc hK
      refine q_aload_n C dX3_check_46 rfl (lv_at hl 1 rfl) ?_
      refine g_X3_marks C hko w_fl_X3_15 dX3_check_47 ?_
      refine q_iload_n C dX3_check_50 rfl (lv_at hl 0 rfl) ?_
      obtain ⟨x6, hx6, hK⟩ := rd_so hK
      refine q_iald C (kd_s2 hko) hx6 dX3_check_51 ?_
      refine q_if_ne C dX3_check_52 (tgt := 97) (by decide) (fun hc => ?_) (fun hc => ?_)
      · replace hK := if_ne hc hK
        cases hK
        exact q_vret C dX3_check_97
      · replace hK := if_po hc hK
        refine q_aload_n C dX3_check_55 rfl (lv_at hl 1 rfl) ?_
        refine q_dup C dX3_check_56 rfl ?_
        refine g_X3_passed C hko w_fl_X3_72 dX3_check_57 ?_
        refine q_iconst C (v := 1) dX3_check_60 (by decide) ?_
        refine q_iadd C dX3_check_61 ?_
        obtain ⟨h7, hh7, hK⟩ := st_so hK
        refine p_X3_passed C hko w_fl_X3_72 hh7 dX3_check_62 ?_
        refine q_aload_n C dX3_check_65 rfl (lv_at hl 1 rfl) ?_
        refine g_X3_plan C hko w_fl_X3_24 dX3_check_66 ?_
        refine g_X1_each C (kd_pl hko) w_fl_X3_175 dX3_check_69 ?_
        refine q_if_eq C dX3_check_72 (tgt := 97) (by decide) (fun hc => ?_) (fun hc => ?_)
        · replace hK := if_po hc hK
          cases hK
          exact q_vret C dX3_check_97
        · replace hK := if_ne hc hK
          refine q_aload_n C dX3_check_75 rfl (lv_at hl 1 rfl) ?_
          refine g_X3_passed C hko w_fl_X3_72 dX3_check_76 ?_
          refine q_aload_n C dX3_check_79 rfl (lv_at hl 1 rfl) ?_
          refine g_X3_plan C hko w_fl_X3_24 dX3_check_80 ?_
          refine g_X1_each C (kd_pl hko) w_fl_X3_175 dX3_check_83 ?_
          obtain ⟨hn8, hK⟩ := nz_so hK
          refine q_irem C dX3_check_86 hn8 ?_
          refine q_if_ne C dX3_check_87 (tgt := 97) (by decide) (fun hc => ?_) (fun hc => ?_)
          · replace hK := if_ne hc hK
            cases hK
            exact q_vret C dX3_check_97
          · replace hK := if_po hc hK
            refine q_aload_n C dX3_check_90 rfl (lv_at hl 1 rfl) ?_
            refine g_X3_marks C hko w_fl_X3_15 dX3_check_91 ?_
            refine q_iload_n C dX3_check_94 rfl (lv_at hl 0 rfl) ?_
            refine q_iconst C (v := 2) dX3_check_95 (by decide) ?_
            obtain ⟨h9, hh9, hK⟩ := wr_so hK
            refine q_iast C (kd_s2 hko) hh9 dX3_check_96 ?_
            cases hK
            exact q_vret C dX3_check_97
    · replace hK := if_po hc hK
      refine q_aload_n C dX3_check_36 rfl (lv_at hl 1 rfl) ?_
      refine g_X3_marks C hko w_fl_X3_15 dX3_check_37 ?_
      refine q_iload_n C dX3_check_40 rfl (lv_at hl 0 rfl) ?_
      refine q_iconst C (v := 1) dX3_check_41 (by decide) ?_
      obtain ⟨h10, hh10, hK⟩ := wr_so hK
      refine q_iast C (kd_s2 hko) hh10 dX3_check_42 ?_
      refine q_goto C dX3_check_43 (tgt := 97) (by decide) ?_
      cases hK
      exact q_vret C dX3_check_97
  · replace hK := if_po hc hK
    cases hK
    exact q_vret C dX3_check_19
theorem s_X3_check : sv yX3_check cX3_check 2 none 0 := ⟨w_co_X3_check, w_im_X3_check, w_se_X3_check, w_in_X3, by decide +kernel, by decide⟩
def f_X3_push_b75 (o : Nat) (v1 : Int32) (h : PH) : Option (Unit × PH) := wr h (o + 1) v1 (0 : Int32) (fun h9 => wr h9 (o + 2) v1 (0 : Int32) (fun h10 => some ((), h10)))
set_option maxHeartbeats 4000000 in
set_option maxRecDepth 100000 in
theorem t_X3_push_b75 {p : Program} {l : Launch} {e : Env} {s : State} {m : MethodId} {args : Array Value} {below : List Frame} {meth : Method} {c : Code} {G : GG} {o : Nat} {res : Unit × PH} (C : cx p s m args meth c G RX3 cX3_push 2 none) (hko : kd o = 2) {v1 : Int32} {h : PH} {ls : Array Slot} (hl : lv_has ls 2 [(0, .ref (G.2.2.2.2 o)), (1, .int v1)]) (hK : f_X3_push_b75 o v1 h = some res) : WW p l e 0 s m args below meth c G h (MQ below (QV G res) args s 0 0 (Ar G)) (F0 m 75 ls []) := by
  unfold f_X3_push_b75 at hK
  refine q_aload_n C dX3_push_75 rfl (lv_at hl 0 rfl) ?_
  refine g_X3_bottles C hko w_fl_X3_9 dX3_push_76 ?_
  refine q_iload_n C dX3_push_79 rfl (lv_at hl 1 rfl) ?_
  refine q_iconst C (v := 0) dX3_push_80 (by decide) ?_
  obtain ⟨h9, hh9, hK⟩ := wr_so hK
  refine q_iast C (kd_s1 hko) hh9 dX3_push_81 ?_
  refine q_aload_n C dX3_push_82 rfl (lv_at hl 0 rfl) ?_
  refine g_X3_marks C hko w_fl_X3_15 dX3_push_83 ?_
  refine q_iload_n C dX3_push_86 rfl (lv_at hl 1 rfl) ?_
  refine q_iconst C (v := 0) dX3_push_87 (by decide) ?_
  obtain ⟨h10, hh10, hK⟩ := wr_so hK
  refine q_iast C (kd_s2 hko) hh10 dX3_push_88 ?_
  cases hK
  exact q_vret C dX3_push_89
def f_X3_push (o : Nat) (h : PH) : Option (Unit × PH) := gd o 2 (rd h ((pl_of o) + 1) (4 : Int32) (fun x1 => rd h (o + 2) x1 (fun x2 => if x2 = 0 then some ((), h) else rd h (o + 1) x1 (fun x3 => if x3 = 0 then st h o 10 (1 : Int32) (fun h4 => some ((), h4)) else if (h.1 o 11) = 0 then rd h (o + 2) x1 (fun x5 => if x5 = (1 : Int32) then st h o 14 ((h.1 o 14) + (1 : Int32)) (fun h7 => f_X3_push_b75 o x1 h7) else st h o 15 ((h.1 o 15) + (1 : Int32)) (fun h6 => f_X3_push_b75 o x1 h6)) else st h o 10 (1 : Int32) (fun h8 => some ((), h8))))))
set_option maxHeartbeats 4000000 in
set_option maxRecDepth 100000 in
theorem c_X3_push (l : Launch) (G : GG) {o : Nat} {h : PH} {res : Unit × PH} (hF : f_X3_push o h = some res) : MV l G yX3_push cX3_push 2 0 [.ref (G.2.2.2.2 o)] h res := by
  unfold f_X3_push at hF
  obtain ⟨hko, hF⟩ := gd_so hF
  refine MV_of (by decide +kernel) (Nat.le_of_ble_eq_true rfl) ?_
  intro p e s m args below meth c ls C hl
  have hK := hF
  clear hF
  have hl : lv_has ls 2 [(0, .ref (G.2.2.2.2 o))] := hl
  have C : cx p s m args meth c G RX3 cX3_push 2 none := C
  refine q_aload_n C dX3_push_0 rfl (lv_at hl 0 rfl) ?_
  refine g_X3_plan C hko w_fl_X3_24 dX3_push_1 ?_
  refine g_X1_stations C (kd_pl hko) w_fl_X3_100 dX3_push_4 ?_
  refine q_iconst C (v := 4) dX3_push_7 (by decide) ?_
  obtain ⟨x1, hx1, hK⟩ := rd_so hK
  refine q_iald C (kd_p1 (kd_pl hko)) hx1 dX3_push_8 ?_
  refine q_istore_n C dX3_push_9 rfl hl (by decide) (lv2 := [(1, .int _), (0, .ref _)]) rfl (fun ls hl => ?_)
  refine q_aload_n C dX3_push_10 rfl (lv_at hl 1 rfl) ?_
  refine g_X3_marks C hko w_fl_X3_15 dX3_push_11 ?_
  refine q_iload_n C dX3_push_14 rfl (lv_at hl 0 rfl) ?_
  obtain ⟨x2, hx2, hK⟩ := rd_so hK
  refine q_iald C (kd_s2 hko) hx2 dX3_push_15 ?_
  refine q_if_ne C dX3_push_16 (tgt := 20) (by decide) (fun hc => ?_) (fun hc => ?_)
  · replace hK := if_ne hc hK
    refine q_aload_n C dX3_push_20 rfl (lv_at hl 1 rfl) ?_
    refine g_X3_bottles C hko w_fl_X3_9 dX3_push_21 ?_
    refine q_iload_n C dX3_push_24 rfl (lv_at hl 0 rfl) ?_
    obtain ⟨x3, hx3, hK⟩ := rd_so hK
    refine q_iald C (kd_s1 hko) hx3 dX3_push_25 ?_
    refine q_if_eq C dX3_push_26 (tgt := 36) (by decide) (fun hc => ?_) (fun hc => ?_)
    · replace hK := if_po hc hK
      refine q_aload_n C dX3_push_36 rfl (lv_at hl 1 rfl) ?_
      refine q_iconst C (v := 1) dX3_push_37 (by decide) ?_
      obtain ⟨h4, hh4, hK⟩ := st_so hK
      refine p_X3_alarm C hko (Or.inr rfl) w_fl_X3_50 hh4 dX3_push_38 ?_
      cases hK
      exact q_vret C dX3_push_41
    · replace hK := if_ne hc hK
      refine q_aload_n C dX3_push_29 rfl (lv_at hl 1 rfl) ?_
      refine g_X3_jammed C hko w_fl_X3_54 dX3_push_30 ?_
      refine q_if_eq C dX3_push_33 (tgt := 42) (by decide) (fun hc => ?_) (fun hc => ?_)
      · replace hK := if_po hc hK
        refine q_aload_n C dX3_push_42 rfl (lv_at hl 1 rfl) ?_
        refine g_X3_marks C hko w_fl_X3_15 dX3_push_43 ?_
        refine q_iload_n C dX3_push_46 rfl (lv_at hl 0 rfl) ?_
        obtain ⟨x5, hx5, hK⟩ := rd_so hK
        refine q_iald C (kd_s2 hko) hx5 dX3_push_47 ?_
        refine q_iconst C (v := 1) dX3_push_48 (by decide) ?_
        refine q_icmp_ne C dX3_push_49 (tgt := 65) (by decide) (fun hc => ?_) (fun hc => ?_)
        · replace hK := if_ne hc hK
          refine q_aload_n C dX3_push_65 rfl (lv_at hl 1 rfl) ?_
          refine q_dup C dX3_push_66 rfl ?_
          refine g_X3_sampled C hko w_fl_X3_66 dX3_push_67 ?_
          refine q_iconst C (v := 1) dX3_push_70 (by decide) ?_
          refine q_iadd C dX3_push_71 ?_
          obtain ⟨h6, hh6, hK⟩ := st_so hK
          refine p_X3_sampled C hko w_fl_X3_66 hh6 dX3_push_72 ?_
          exact t_X3_push_b75 C hko (lv_sub hl [1, 0] rfl) hK
        · replace hK := if_po hc hK
          refine q_aload_n C dX3_push_52 rfl (lv_at hl 1 rfl) ?_
          refine q_dup C dX3_push_53 rfl ?_
          refine g_X3_rejected C hko w_fl_X3_63 dX3_push_54 ?_
          refine q_iconst C (v := 1) dX3_push_57 (by decide) ?_
          refine q_iadd C dX3_push_58 ?_
          obtain ⟨h7, hh7, hK⟩ := st_so hK
          refine p_X3_rejected C hko w_fl_X3_63 hh7 dX3_push_59 ?_
          refine q_goto C dX3_push_62 (tgt := 75) (by decide) ?_
          exact t_X3_push_b75 C hko (lv_sub hl [1, 0] rfl) hK
      · replace hK := if_ne hc hK
        refine q_aload_n C dX3_push_36 rfl (lv_at hl 1 rfl) ?_
        refine q_iconst C (v := 1) dX3_push_37 (by decide) ?_
        obtain ⟨h8, hh8, hK⟩ := st_so hK
        refine p_X3_alarm C hko (Or.inr rfl) w_fl_X3_50 hh8 dX3_push_38 ?_
        cases hK
        exact q_vret C dX3_push_41
  · replace hK := if_po hc hK
    cases hK
    exact q_vret C dX3_push_19
theorem s_X3_push : sv yX3_push cX3_push 2 none 0 := ⟨w_co_X3_push, w_im_X3_push, w_se_X3_push, w_in_X3, by decide +kernel, by decide⟩
def f_X3_advance_b2 (o : Nat) : Nat → Int32 → Int32 → PH → Option (Int32 × PH)
  | 0, _, _, _ => none
  | n + 1, v1, v2, h => if v1 ≤ v2 then some (v2, h) else if (h.1 o 10) = 0 then bd (f_X3_leave o h) (fun _ h2 => bd (f_X3_moveOn o h2) (fun _ h4 => bd (f_X3_leak o h4) (fun _ h6 => bd (f_X3_fill o h6) (fun _ h8 => bd (f_X3_weigh o h8) (fun _ h10 => bd (f_X3_equip o h10) (fun _ h12 => bd (f_X3_check o h12) (fun _ h14 => bd (f_X3_push o h14) (fun _ h16 => st h16 o 9 ((h16.1 o 9) + (1 : Int32)) (fun h17 => (f_X3_advance_b2 o n) v1 (v2 + 1) h17))))))))) else some (v2, h)
set_option maxHeartbeats 4000000 in
set_option maxRecDepth 100000 in
theorem t_X3_advance_b2 {p : Program} {l : Launch} {e : Env} {s : State} {m : MethodId} {args : Array Value} {below : List Frame} {meth : Method} {c : Code} {G : GG} {o : Nat} {res : Int32 × PH} (C : cx p s m args meth c G RX3 cX3_advance 3 (some .int)) (hko : kd o = 2) (n : Nat) : ∀ (v1 : Int32) (v2 : Int32) (h : PH) (ls : Array Slot), lv_has ls 3 [(0, .ref (G.2.2.2.2 o)), (1, .int v1), (2, .int v2)] → f_X3_advance_b2 o n v1 v2 h = some res → WW p l e 3 s m args below meth c G h (MQ below (QI G res) args s 0 0 (Ar G)) (F0 m 2 ls []) := by
  induction n with
  | zero => intro v1 v2 h ls hl hK; cases hK
  | succ n ih =>
    intro v1 v2 h ls hl hK
    unfold f_X3_advance_b2 at hK
    refine q_iload_n C dX3_advance_2 rfl (lv_at hl 2 rfl) ?_
    refine q_iload_n C dX3_advance_3 rfl (lv_at hl 1 rfl) ?_
    refine q_icmp_ge C dX3_advance_4 (tgt := 62) (by decide) (fun hc => ?_) (fun hc => ?_)
    · replace hK := if_po hc hK
      refine q_iload_n C dX3_advance_62 rfl (lv_at hl 2 rfl) ?_
      cases hK
      exact q_iret C dX3_advance_63
    · replace hK := if_ne hc hK
      refine q_aload_n C dX3_advance_7 rfl (lv_at hl 0 rfl) ?_
      refine g_X3_alarm C hko w_fl_X3_50 dX3_advance_8 ?_
      refine q_if_ne C dX3_advance_11 (tgt := 62) (by decide) (fun hc => ?_) (fun hc => ?_)
      · replace hK := if_ne hc hK
        refine q_iload_n C dX3_advance_62 rfl (lv_at hl 2 rfl) ?_
        cases hK
        exact q_iret C dX3_advance_63
      · replace hK := if_po hc hK
        refine q_aload_n C dX3_advance_14 rfl (lv_at hl 0 rfl) ?_
        obtain ⟨r1, h2, hfr1, hK⟩ := bd_so hK
        refine q_callVv C s_X3_leave w_ml_X3_105 (c_X3_leave l G hfr1) hko rfl (by decide) (ce_2 hko) (by decide) hl.1 rfl rfl (Nat.le_of_ble_eq_true rfl) dX3_advance_15 ?_
        refine q_aload_n C dX3_advance_18 rfl (lv_at hl 0 rfl) ?_
        obtain ⟨r3, h4, hfr3, hK⟩ := bd_so hK
        refine q_callVv C s_X3_moveOn w_ml_X3_108 (c_X3_moveOn l G hfr3) hko rfl (by decide) (ce_2 hko) (by decide) hl.1 rfl rfl (Nat.le_of_ble_eq_true rfl) dX3_advance_19 ?_
        refine q_aload_n C dX3_advance_22 rfl (lv_at hl 0 rfl) ?_
        obtain ⟨r5, h6, hfr5, hK⟩ := bd_so hK
        refine q_callVv C s_X3_leak w_ml_X3_111 (c_X3_leak l G hfr5) hko rfl (by decide) (ce_2 hko) (by decide) hl.1 rfl rfl (Nat.le_of_ble_eq_true rfl) dX3_advance_23 ?_
        refine q_aload_n C dX3_advance_26 rfl (lv_at hl 0 rfl) ?_
        obtain ⟨r7, h8, hfr7, hK⟩ := bd_so hK
        refine q_callVv C s_X3_fill w_ml_X3_114 (c_X3_fill l G hfr7) hko rfl (by decide) (ce_2 hko) (by decide) hl.1 rfl rfl (Nat.le_of_ble_eq_true rfl) dX3_advance_27 ?_
        refine q_aload_n C dX3_advance_30 rfl (lv_at hl 0 rfl) ?_
        obtain ⟨r9, h10, hfr9, hK⟩ := bd_so hK
        refine q_callVv C s_X3_weigh w_ml_X3_117 (c_X3_weigh l G hfr9) hko rfl (by decide) (ce_2 hko) (by decide) hl.1 rfl rfl (Nat.le_of_ble_eq_true rfl) dX3_advance_31 ?_
        refine q_aload_n C dX3_advance_34 rfl (lv_at hl 0 rfl) ?_
        obtain ⟨r11, h12, hfr11, hK⟩ := bd_so hK
        refine q_callVv C s_X3_equip w_ml_X3_120 (c_X3_equip l G hfr11) hko rfl (by decide) (ce_2 hko) (by decide) hl.1 rfl rfl (Nat.le_of_ble_eq_true rfl) dX3_advance_35 ?_
        refine q_aload_n C dX3_advance_38 rfl (lv_at hl 0 rfl) ?_
        obtain ⟨r13, h14, hfr13, hK⟩ := bd_so hK
        refine q_callVv C s_X3_check w_ml_X3_123 (c_X3_check l G hfr13) hko rfl (by decide) (ce_2 hko) (by decide) hl.1 rfl rfl (Nat.le_of_ble_eq_true rfl) dX3_advance_39 ?_
        refine q_aload_n C dX3_advance_42 rfl (lv_at hl 0 rfl) ?_
        obtain ⟨r15, h16, hfr15, hK⟩ := bd_so hK
        refine q_callVv C s_X3_push w_ml_X3_126 (c_X3_push l G hfr15) hko rfl (by decide) (ce_2 hko) (by decide) hl.1 rfl rfl (Nat.le_of_ble_eq_true rfl) dX3_advance_43 ?_
        refine q_aload_n C dX3_advance_46 rfl (lv_at hl 0 rfl) ?_
        refine q_dup C dX3_advance_47 rfl ?_
        refine g_X3_steps C hko w_fl_X3_47 dX3_advance_48 ?_
        refine q_iconst C (v := 1) dX3_advance_51 (by decide) ?_
        refine q_iadd C dX3_advance_52 ?_
        obtain ⟨h17, hh17, hK⟩ := st_so hK
        refine p_X3_steps C hko w_fl_X3_47 hh17 dX3_advance_53 ?_
        refine q_iinc C dX3_advance_56 hl (j := 2) (v := (v2 + 1)) rfl rfl (by decide) (lv2 := [(2, .int _), (0, .ref _), (1, .int _)]) rfl (fun ls hl => ?_)
        refine q_goto C dX3_advance_59 (tgt := 2) (by decide) ?_
        exact ih _ _ _ _ (lv_sub hl [1, 2, 0] rfl) hK
def f_X3_advance (o : Nat) (a1 : Int32) (h : PH) : Option (Int32 × PH) := gd o 2 (f_X3_advance_b2 o 200 a1 (0 : Int32) h)
set_option maxHeartbeats 4000000 in
set_option maxRecDepth 100000 in
theorem c_X3_advance (l : Launch) (G : GG) {o : Nat} {a1 : Int32} {h : PH} {res : Int32 × PH} (hF : f_X3_advance o a1 h = some res) : MI l G yX3_advance cX3_advance 3 .int 3 [.ref (G.2.2.2.2 o), .int a1] h res := by
  unfold f_X3_advance at hF
  obtain ⟨hko, hF⟩ := gd_so hF
  refine MI_of (by decide +kernel) (Nat.le_of_ble_eq_true rfl) ?_
  intro p e s m args below meth c ls C hl
  have hK := hF
  clear hF
  have hl : lv_has ls 3 [(0, .ref (G.2.2.2.2 o)), (1, .int a1)] := hl
  have C : cx p s m args meth c G RX3 cX3_advance 3 (some .int) := C
  refine q_iconst C (v := 0) dX3_advance_0 (by decide) ?_
  refine q_istore_n C dX3_advance_1 rfl hl (by decide) (lv2 := [(2, .int _), (0, .ref _), (1, .int _)]) rfl (fun ls hl => ?_)
  exact t_X3_advance_b2 C hko 200 _ _ _ _ (lv_sub hl [1, 2, 0] rfl) hK
theorem s_X3_advance : sv yX3_advance cX3_advance 3 (some .int) 1 := ⟨w_co_X3_advance, w_im_X3_advance, w_se_X3_advance, w_in_X3, by decide +kernel, by decide⟩
