def f_X1_copyFrom (o : Nat) (r1 : Nat) (h : PH) : Option (Unit × PH) := gd o 0 (gd r1 0 (st h o 0 (h.1 r1 0) (fun h1 => cp h1 (r1 + 1) (0 : Int32) (o + 1) (0 : Int32) (5 : Int32) (fun h2 => st h2 o 2 (h2.1 r1 2) (fun h3 => st h3 o 3 (h3.1 r1 3) (fun h4 => st h4 o 4 (h4.1 r1 4) (fun h5 => st h5 o 5 (h5.1 r1 5) (fun h6 => cp h6 (r1 + 2) (0 : Int32) (o + 2) (0 : Int32) (4 : Int32) (fun h7 => some ((), h7))))))))))
set_option maxHeartbeats 4000000 in
set_option maxRecDepth 100000 in
theorem c_X1_copyFrom (l : Launch) (G : GG) {o : Nat} {r1 : Nat} {h : PH} {res : Unit × PH} (hF : f_X1_copyFrom o r1 h = some res) : MV l G yX1_copyFrom cX1_copyFrom 2 1 [.ref (G.2.2.2.2 o), .ref (G.2.2.2.2 r1)] h res := by
  unfold f_X1_copyFrom at hF
  obtain ⟨hko, hF⟩ := gd_so hF
  obtain ⟨hr1, hF⟩ := gd_so hF
  refine MV_of (by decide +kernel) (Nat.le_of_ble_eq_true rfl) ?_
  intro p e s m args below meth c ls C hl
  have hK := hF
  clear hF
  have hl : lv_has ls 2 [(0, .ref (G.2.2.2.2 o)), (1, .ref (G.2.2.2.2 r1))] := hl
  have C : cx p s m args meth c G RX1 cX1_copyFrom 2 none := C
  refine q_aload_n C dX1_copyFrom_0 rfl (lv_at hl 0 rfl) ?_
  refine q_aload_n C dX1_copyFrom_1 rfl (lv_at hl 1 rfl) ?_
  refine g_X1_cells C hr1 w_fl_X1_18 dX1_copyFrom_2 ?_
  obtain ⟨h1, hh1, hK⟩ := st_so hK
  refine p_X1_cells C hko w_fl_X1_18 hh1 dX1_copyFrom_5 ?_
  refine q_aload_n C dX1_copyFrom_8 rfl (lv_at hl 1 rfl) ?_
  refine g_X1_stations C hr1 w_fl_X1_9 dX1_copyFrom_9 ?_
  refine q_iconst C (v := 0) dX1_copyFrom_12 (by decide) ?_
  refine q_aload_n C dX1_copyFrom_13 rfl (lv_at hl 0 rfl) ?_
  refine g_X1_stations C hko w_fl_X1_9 dX1_copyFrom_14 ?_
  refine q_iconst C (v := 0) dX1_copyFrom_17 (by decide) ?_
  refine q_iconst C (v := 5) dX1_copyFrom_18 (by decide) ?_
  obtain ⟨h2, hh2, hK⟩ := cp_so hK
  refine q_cp C (by decide) hl.1 (kd_p1 hr1) (kd_p1 hko) hh2 w_ml_X1_22 (Nat.le_of_ble_eq_true rfl) dX1_copyFrom_19 ?_
  refine q_aload_n C dX1_copyFrom_22 rfl (lv_at hl 0 rfl) ?_
  refine q_aload_n C dX1_copyFrom_23 rfl (lv_at hl 1 rfl) ?_
  refine g_X1_target C hr1 w_fl_X1_28 dX1_copyFrom_24 ?_
  obtain ⟨h3, hh3, hK⟩ := st_so hK
  refine p_X1_target C hko w_fl_X1_28 hh3 dX1_copyFrom_27 ?_
  refine q_aload_n C dX1_copyFrom_30 rfl (lv_at hl 0 rfl) ?_
  refine q_aload_n C dX1_copyFrom_31 rfl (lv_at hl 1 rfl) ?_
  refine g_X1_tolerance C hr1 w_fl_X1_31 dX1_copyFrom_32 ?_
  obtain ⟨h4, hh4, hK⟩ := st_so hK
  refine p_X1_tolerance C hko w_fl_X1_31 hh4 dX1_copyFrom_35 ?_
  refine q_aload_n C dX1_copyFrom_38 rfl (lv_at hl 0 rfl) ?_
  refine q_aload_n C dX1_copyFrom_39 rfl (lv_at hl 1 rfl) ?_
  refine g_X1_each C hr1 w_fl_X1_34 dX1_copyFrom_40 ?_
  obtain ⟨h5, hh5, hK⟩ := st_so hK
  refine p_X1_each C hko w_fl_X1_34 hh5 dX1_copyFrom_43 ?_
  refine q_aload_n C dX1_copyFrom_46 rfl (lv_at hl 0 rfl) ?_
  refine q_aload_n C dX1_copyFrom_47 rfl (lv_at hl 1 rfl) ?_
  refine g_X1_valves C hr1 w_fl_X1_37 dX1_copyFrom_48 ?_
  obtain ⟨h6, hh6, hK⟩ := st_so hK
  refine p_X1_valves C hko w_fl_X1_37 hh6 dX1_copyFrom_51 ?_
  refine q_aload_n C dX1_copyFrom_54 rfl (lv_at hl 1 rfl) ?_
  refine g_X1_drifts C hr1 w_fl_X1_15 dX1_copyFrom_55 ?_
  refine q_iconst C (v := 0) dX1_copyFrom_58 (by decide) ?_
  refine q_aload_n C dX1_copyFrom_59 rfl (lv_at hl 0 rfl) ?_
  refine g_X1_drifts C hko w_fl_X1_15 dX1_copyFrom_60 ?_
  refine q_iconst C (v := 0) dX1_copyFrom_63 (by decide) ?_
  refine q_iconst C (v := 4) dX1_copyFrom_64 (by decide) ?_
  obtain ⟨h7, hh7, hK⟩ := cp_so hK
  refine q_cp C (by decide) hl.1 (kd_p2 hr1) (kd_p2 hko) hh7 w_ml_X1_22 (Nat.le_of_ble_eq_true rfl) dX1_copyFrom_65 ?_
  cases hK
  exact q_vret C dX1_copyFrom_68
theorem s_X1_copyFrom : sv yX1_copyFrom cX1_copyFrom 2 none 1 := ⟨w_co_X1_copyFrom, w_im_X1_copyFrom, w_se_X1_copyFrom, w_in_X1, by decide +kernel, by decide⟩
def f_X1_hasCell (o : Nat) (a1 : Int32) (h : PH) : Option (Int32 × PH) := gd o 0 (bd (f_X4_isWithin a1 (0 : Int32) ((h.1 o 0) - (1 : Int32)) h) (fun r1 h2 => bz r1 (some (r1, h2))))
set_option maxHeartbeats 4000000 in
set_option maxRecDepth 100000 in
theorem c_X1_hasCell (l : Launch) (G : GG) {o : Nat} {a1 : Int32} {h : PH} {res : Int32 × PH} (hF : f_X1_hasCell o a1 h = some res) : MI l G yX1_hasCell cX1_hasCell 2 .boolean 1 [.ref (G.2.2.2.2 o), .int a1] h res := by
  unfold f_X1_hasCell at hF
  obtain ⟨hko, hF⟩ := gd_so hF
  refine MI_of (by decide +kernel) (Nat.le_of_ble_eq_true rfl) ?_
  intro p e s m args below meth c ls C hl
  have hK := hF
  clear hF
  have hl : lv_has ls 2 [(0, .ref (G.2.2.2.2 o)), (1, .int a1)] := hl
  have C : cx p s m args meth c G RX1 cX1_hasCell 2 (some .boolean) := C
  refine q_iload_n C dX1_hasCell_0 rfl (lv_at hl 1 rfl) ?_
  refine q_iconst C (v := 0) dX1_hasCell_1 (by decide) ?_
  refine q_aload_n C dX1_hasCell_2 rfl (lv_at hl 0 rfl) ?_
  refine g_X1_cells C hko w_fl_X1_18 dX1_hasCell_3 ?_
  refine q_iconst C (v := 1) dX1_hasCell_6 (by decide) ?_
  refine q_isub C dX1_hasCell_7 ?_
  obtain ⟨r1, h2, hfr1, hK⟩ := bd_so hK
  refine q_callNi C s_X4_isWithin w_ml_X1_40 (c_X4_isWithin l G hfr1) (by decide) hl.1 rfl rfl (Nat.le_of_ble_eq_true rfl) dX1_hasCell_8 ?_
  obtain ⟨hz, hK⟩ := bz_so hK
  cases hK
  exact q_zret C hz dX1_hasCell_11
theorem s_X1_hasCell : sv yX1_hasCell cX1_hasCell 2 (some .boolean) 1 := ⟨w_co_X1_hasCell, w_im_X1_hasCell, w_se_X1_hasCell, w_in_X1, by decide +kernel, by decide⟩
def f_X1_hasValve (o : Nat) (a1 : Int32) (h : PH) : Option (Int32 × PH) := gd o 0 (bd (f_X4_isWithin a1 (0 : Int32) ((h.1 o 5) - (1 : Int32)) h) (fun r1 h2 => bz r1 (some (r1, h2))))
set_option maxHeartbeats 4000000 in
set_option maxRecDepth 100000 in
theorem c_X1_hasValve (l : Launch) (G : GG) {o : Nat} {a1 : Int32} {h : PH} {res : Int32 × PH} (hF : f_X1_hasValve o a1 h = some res) : MI l G yX1_hasValve cX1_hasValve 2 .boolean 1 [.ref (G.2.2.2.2 o), .int a1] h res := by
  unfold f_X1_hasValve at hF
  obtain ⟨hko, hF⟩ := gd_so hF
  refine MI_of (by decide +kernel) (Nat.le_of_ble_eq_true rfl) ?_
  intro p e s m args below meth c ls C hl
  have hK := hF
  clear hF
  have hl : lv_has ls 2 [(0, .ref (G.2.2.2.2 o)), (1, .int a1)] := hl
  have C : cx p s m args meth c G RX1 cX1_hasValve 2 (some .boolean) := C
  refine q_iload_n C dX1_hasValve_0 rfl (lv_at hl 1 rfl) ?_
  refine q_iconst C (v := 0) dX1_hasValve_1 (by decide) ?_
  refine q_aload_n C dX1_hasValve_2 rfl (lv_at hl 0 rfl) ?_
  refine g_X1_valves C hko w_fl_X1_37 dX1_hasValve_3 ?_
  refine q_iconst C (v := 1) dX1_hasValve_6 (by decide) ?_
  refine q_isub C dX1_hasValve_7 ?_
  obtain ⟨r1, h2, hfr1, hK⟩ := bd_so hK
  refine q_callNi C s_X4_isWithin w_ml_X1_40 (c_X4_isWithin l G hfr1) (by decide) hl.1 rfl rfl (Nat.le_of_ble_eq_true rfl) dX1_hasValve_8 ?_
  obtain ⟨hz, hK⟩ := bz_so hK
  cases hK
  exact q_zret C hz dX1_hasValve_11
theorem s_X1_hasValve : sv yX1_hasValve cX1_hasValve 2 (some .boolean) 1 := ⟨w_co_X1_hasValve, w_im_X1_hasValve, w_se_X1_hasValve, w_in_X1, by decide +kernel, by decide⟩
def f_X1_isGood (o : Nat) (a1 : Int32) (h : PH) : Option (Int32 × PH) := gd o 0 (bd (f_X0_has a1 (1024 : Int32) h) (fun r1 h2 => if r1 = 0 then some ((0 : Int32), h2) else bd (f_X0_has a1 (2048 : Int32) h2) (fun r3 h4 => if r3 = 0 then some ((0 : Int32), h4) else bd (f_X0_fillOf a1 h4) (fun r5 h6 => if (h6.1 o 3) < (iab (r5 - (h6.1 o 2))) then some ((0 : Int32), h6) else some ((1 : Int32), h6)))))
set_option maxHeartbeats 4000000 in
set_option maxRecDepth 100000 in
theorem c_X1_isGood (l : Launch) (G : GG) {o : Nat} {a1 : Int32} {h : PH} {res : Int32 × PH} (hF : f_X1_isGood o a1 h = some res) : MI l G yX1_isGood cX1_isGood 2 .boolean 1 [.ref (G.2.2.2.2 o), .int a1] h res := by
  unfold f_X1_isGood at hF
  obtain ⟨hko, hF⟩ := gd_so hF
  refine MI_of (by decide +kernel) (Nat.le_of_ble_eq_true rfl) ?_
  intro p e s m args below meth c ls C hl
  have hK := hF
  clear hF
  have hl : lv_has ls 2 [(0, .ref (G.2.2.2.2 o)), (1, .int a1)] := hl
  have C : cx p s m args meth c G RX1 cX1_isGood 2 (some .boolean) := C
  refine q_iload_n C dX1_isGood_0 rfl (lv_at hl 1 rfl) ?_
  refine q_sipush C (v := 1024) dX1_isGood_1 (by decide) ?_
  obtain ⟨r1, h2, hfr1, hK⟩ := bd_so hK
  refine q_callSi C s_X0_has w_ml_X1_46 (c_X0_has l G hfr1) (by decide) hl.1 rfl rfl (Nat.le_of_ble_eq_true rfl) dX1_isGood_4 ?_
  refine q_if_eq C dX1_isGood_7 (tgt := 43) (by decide) (fun hc => ?_) (fun hc => ?_)
  · replace hK := if_po hc hK
    refine q_iconst C (v := 0) dX1_isGood_43 (by decide) ?_
    cases hK
    exact q_zret C (Or.inl rfl) dX1_isGood_44
  · replace hK := if_ne hc hK
    refine q_iload_n C dX1_isGood_10 rfl (lv_at hl 1 rfl) ?_
    refine q_sipush C (v := 2048) dX1_isGood_11 (by decide) ?_
    obtain ⟨r3, h4, hfr3, hK⟩ := bd_so hK
    refine q_callSi C s_X0_has w_ml_X1_46 (c_X0_has l G hfr3) (by decide) hl.1 rfl rfl (Nat.le_of_ble_eq_true rfl) dX1_isGood_14 ?_
    refine q_if_eq C dX1_isGood_17 (tgt := 43) (by decide) (fun hc => ?_) (fun hc => ?_)
    · replace hK := if_po hc hK
      refine q_iconst C (v := 0) dX1_isGood_43 (by decide) ?_
      cases hK
      exact q_zret C (Or.inl rfl) dX1_isGood_44
    · replace hK := if_ne hc hK
      refine q_iload_n C dX1_isGood_20 rfl (lv_at hl 1 rfl) ?_
      obtain ⟨r5, h6, hfr5, hK⟩ := bd_so hK
      refine q_callSi C s_X0_fillOf w_ml_X1_50 (c_X0_fillOf l G hfr5) (by decide) hl.1 rfl rfl (Nat.le_of_ble_eq_true rfl) dX1_isGood_21 ?_
      refine q_aload_n C dX1_isGood_24 rfl (lv_at hl 0 rfl) ?_
      refine g_X1_target C hko w_fl_X1_28 dX1_isGood_25 ?_
      refine q_isub C dX1_isGood_28 ?_
      refine q_abs C (by decide) hl.1 w_ml_X1_54 (Nat.le_of_ble_eq_true rfl) dX1_isGood_29 ?_
      refine q_aload_n C dX1_isGood_32 rfl (lv_at hl 0 rfl) ?_
      refine g_X1_tolerance C hko w_fl_X1_31 dX1_isGood_33 ?_
      refine q_icmp_gt C dX1_isGood_36 (tgt := 43) (by decide) (fun hc => ?_) (fun hc => ?_)
      · replace hK := if_po hc hK
        refine q_iconst C (v := 0) dX1_isGood_43 (by decide) ?_
        cases hK
        exact q_zret C (Or.inl rfl) dX1_isGood_44
      · replace hK := if_ne hc hK
        refine q_iconst C (v := 1) dX1_isGood_39 (by decide) ?_
        refine q_goto C dX1_isGood_40 (tgt := 44) (by decide) ?_
        cases hK
        exact q_zret C (Or.inr rfl) dX1_isGood_44
theorem s_X1_isGood : sv yX1_isGood cX1_isGood 2 (some .boolean) 1 := ⟨w_co_X1_isGood, w_im_X1_isGood, w_se_X1_isGood, w_in_X1, by decide +kernel, by decide⟩
