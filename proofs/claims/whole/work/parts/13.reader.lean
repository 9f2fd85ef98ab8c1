def f_X2_begin (h : PH) : Option (Unit × PH) := st h 8 2 (0 : Int32) (fun h1 => st h1 8 3 (0 : Int32) (fun h2 => st h2 9 5 (0 : Int32) (fun h3 => st h3 15 7 (0 : Int32) (fun h4 => st h4 15 8 (0 : Int32) (fun h5 => st h5 15 6 (0 : Int32) (fun h6 => some ((), h6)))))))
set_option maxHeartbeats 4000000 in
set_option maxRecDepth 100000 in
theorem c_X2_begin (l : Launch) (G : GG) {h : PH} {res : Unit × PH} (hF : f_X2_begin h = some res) : MV l G yX2_begin cX2_begin 1 0 [.ref (G.2.2.2.2 8)] h res := by
  unfold f_X2_begin at hF
  refine MV_of (by decide +kernel) (Nat.le_of_ble_eq_true rfl) ?_
  intro p e s m args below meth c ls C hl
  have hK := hF
  clear hF
  have hl : lv_has ls 1 [(0, .ref (G.2.2.2.2 8))] := hl
  have C : cx p s m args meth c G RX2 cX2_begin 1 none := C
  refine q_aload_n C dX2_begin_0 rfl (lv_at hl 0 rfl) ?_
  refine q_iconst C (v := 0) dX2_begin_1 (by decide) ?_
  obtain ⟨h1, hh1, hK⟩ := st_so hK
  refine p_X2_headTaken C kd_8 w_fl_X2_27 hh1 dX2_begin_2 ?_
  refine q_aload_n C dX2_begin_5 rfl (lv_at hl 0 rfl) ?_
  refine q_iconst C (v := 0) dX2_begin_6 (by decide) ?_
  obtain ⟨h2, hh2, hK⟩ := st_so hK
  refine p_X2_part C kd_8 w_fl_X2_31 hh2 dX2_begin_7 ?_
  refine q_aload_n C dX2_begin_10 rfl (lv_at hl 0 rfl) ?_
  refine g_X2_plan C kd_8 w_fl_X2_12 dX2_begin_11 ?_
  refine q_iconst C (v := 0) dX2_begin_14 (by decide) ?_
  obtain ⟨h3, hh3, hK⟩ := st_so hK
  refine p_X1_valves C kd_9 w_fl_X2_34 hh3 dX2_begin_15 ?_
  refine q_aload_n C dX2_begin_18 rfl (lv_at hl 0 rfl) ?_
  refine g_X2_start C kd_8 w_fl_X2_23 dX2_begin_19 ?_
  refine q_iconst C (v := 0) dX2_begin_22 (by decide) ?_
  obtain ⟨h4, hh4, hK⟩ := st_so hK
  refine p_X3_caps C kd_15 w_fl_X2_37 hh4 dX2_begin_23 ?_
  refine q_aload_n C dX2_begin_26 rfl (lv_at hl 0 rfl) ?_
  refine g_X2_start C kd_8 w_fl_X2_23 dX2_begin_27 ?_
  refine q_iconst C (v := 0) dX2_begin_30 (by decide) ?_
  obtain ⟨h5, hh5, hK⟩ := st_so hK
  refine p_X3_labels C kd_15 w_fl_X2_40 hh5 dX2_begin_31 ?_
  refine q_aload_n C dX2_begin_34 rfl (lv_at hl 0 rfl) ?_
  refine g_X2_start C kd_8 w_fl_X2_23 dX2_begin_35 ?_
  refine q_iconst C (v := 0) dX2_begin_38 (by decide) ?_
  obtain ⟨h6, hh6, hK⟩ := st_so hK
  refine p_X3_entryCount C kd_15 w_fl_X2_43 hh6 dX2_begin_39 ?_
  cases hK
  exact q_vret C dX2_begin_42
theorem s_X2_begin : sv yX2_begin cX2_begin 1 none 0 := ⟨w_co_X2_begin, w_im_X2_begin, w_se_X2_begin, w_in_X2, by decide +kernel, by decide⟩
def f_X2_isComplete (h : PH) : Option (Int32 × PH) := if (h.1 8 2) = (11 : Int32) then if (h.1 8 3) = 0 then some ((1 : Int32), h) else some ((0 : Int32), h) else some ((0 : Int32), h)
set_option maxHeartbeats 4000000 in
set_option maxRecDepth 100000 in
theorem c_X2_isComplete (l : Launch) (G : GG) {h : PH} {res : Int32 × PH} (hF : f_X2_isComplete h = some res) : MI l G yX2_isComplete cX2_isComplete 1 .boolean 0 [.ref (G.2.2.2.2 8)] h res := by
  unfold f_X2_isComplete at hF
  refine MI_of (by decide +kernel) (Nat.le_of_ble_eq_true rfl) ?_
  intro p e s m args below meth c ls C hl
  have hK := hF
  clear hF
  have hl : lv_has ls 1 [(0, .ref (G.2.2.2.2 8))] := hl
  have C : cx p s m args meth c G RX2 cX2_isComplete 1 (some .boolean) := C
  refine q_aload_n C dX2_isComplete_0 rfl (lv_at hl 0 rfl) ?_
  refine g_X2_headTaken C kd_8 w_fl_X2_27 dX2_isComplete_1 ?_
  refine q_bipush C (v := 11) dX2_isComplete_4 (by decide) ?_
  refine q_icmp_ne C dX2_isComplete_6 (tgt := 20) (by decide) (fun hc => ?_) (fun hc => ?_)
  · replace hK := if_ne hc hK
    refine q_iconst C (v := 0) dX2_isComplete_20 (by decide) ?_
    cases hK
    exact q_zret C (Or.inl rfl) dX2_isComplete_21
  · replace hK := if_po hc hK
    refine q_aload_n C dX2_isComplete_9 rfl (lv_at hl 0 rfl) ?_
    refine g_X2_part C kd_8 w_fl_X2_31 dX2_isComplete_10 ?_
    refine q_if_ne C dX2_isComplete_13 (tgt := 20) (by decide) (fun hc => ?_) (fun hc => ?_)
    · replace hK := if_ne hc hK
      refine q_iconst C (v := 0) dX2_isComplete_20 (by decide) ?_
      cases hK
      exact q_zret C (Or.inl rfl) dX2_isComplete_21
    · replace hK := if_po hc hK
      refine q_iconst C (v := 1) dX2_isComplete_16 (by decide) ?_
      refine q_goto C dX2_isComplete_17 (tgt := 21) (by decide) ?_
      cases hK
      exact q_zret C (Or.inr rfl) dX2_isComplete_21
theorem s_X2_isComplete : sv yX2_isComplete cX2_isComplete 1 (some .boolean) 0 := ⟨w_co_X2_isComplete, w_im_X2_isComplete, w_se_X2_isComplete, w_in_X2, by decide +kernel, by decide⟩
def f_X2_isDigit (a1 : Int32) (h : PH) : Option (Int32 × PH) := bd (f_X4_isWithin a1 (48 : Int32) (57 : Int32) h) (fun r1 h2 => bz r1 (some (r1, h2)))
set_option maxHeartbeats 4000000 in
set_option maxRecDepth 100000 in
theorem c_X2_isDigit (l : Launch) (G : GG) {a1 : Int32} {h : PH} {res : Int32 × PH} (hF : f_X2_isDigit a1 h = some res) : MI l G yX2_isDigit cX2_isDigit 1 .boolean 1 [.int a1] h res := by
  unfold f_X2_isDigit at hF
  refine MI_of (by decide +kernel) (Nat.le_of_ble_eq_true rfl) ?_
  intro p e s m args below meth c ls C hl
  have hK := hF
  clear hF
  have hl : lv_has ls 1 [(0, .int a1)] := hl
  have C : cx p s m args meth c G RX2 cX2_isDigit 1 (some .boolean) := C
  refine q_iload_n C dX2_isDigit_0 rfl (lv_at hl 0 rfl) ?_
  refine q_bipush C (v := 48) dX2_isDigit_1 (by decide) ?_
  refine q_bipush C (v := 57) dX2_isDigit_3 (by decide) ?_
  obtain ⟨r1, h2, hfr1, hK⟩ := bd_so hK
  refine q_callNi C s_X4_isWithin w_ml_X2_56 (c_X4_isWithin l G hfr1) (by decide) hl.1 rfl rfl (Nat.le_of_ble_eq_true rfl) dX2_isDigit_5 ?_
  obtain ⟨hz, hK⟩ := bz_so hK
  cases hK
  exact q_zret C hz dX2_isDigit_8
theorem s_X2_isDigit : ss yX2_isDigit cX2_isDigit 1 (some .boolean) 1 := ⟨w_co_X2_isDigit, w_st_X2_isDigit, w_in_X2, by decide +kernel, by decide⟩
def f_X2_takesStation_b21 (v1 : Int32) (v2 : Int32) (s0 : Int32) (h : PH) : Option (Int32 × PH) := wr h (9 + 1) v1 v2 (fun h2 => bd (f_X4_isWithin v2 s0 (((h.1 9 0) - (5 : Int32)) + v1) h2) (fun r3 h4 => bz r3 (some (r3, h4))))
set_option maxHeartbeats 4000000 in
set_option maxRecDepth 100000 in
theorem t_X2_takesStation_b21 {p : Program} {l : Launch} {e : Env} {s : State} {m : MethodId} {args : Array Value} {below : List Frame} {meth : Method} {c : Code} {G : GG} {res : Int32 × PH} (C : cx p s m args meth c G RX2 cX2_takesStation 5 (some .boolean)) {v1 : Int32} {v2 : Int32} {s0 : Int32} {h : PH} {ls : Array Slot} (hl : lv_has ls 5 [(0, .ref (G.2.2.2.2 8)), (1, .int v1), (2, .int v2)]) (hK : f_X2_takesStation_b21 v1 v2 s0 h = some res) : WW p l e 1 s m args below meth c G h (MQ below (QI G res) args s 0 0 (Ar G)) (F0 m 21 ls [.int s0]) := by
  unfold f_X2_takesStation_b21 at hK
  refine q_istore_n C dX2_takesStation_21 rfl hl (by decide) (lv2 := [(3, .int _), (0, .ref _), (1, .int _), (2, .int _)]) rfl (fun ls hl => ?_)
  refine q_aload_n C dX2_takesStation_22 rfl (lv_at hl 1 rfl) ?_
  refine g_X2_plan C kd_8 w_fl_X2_12 dX2_takesStation_23 ?_
  refine g_X1_cells C kd_9 w_fl_X2_63 dX2_takesStation_26 ?_
  refine q_iconst C (v := 5) dX2_takesStation_29 (by decide) ?_
  refine q_isub C dX2_takesStation_30 ?_
  refine q_iload_n C dX2_takesStation_31 rfl (lv_at hl 2 rfl) ?_
  refine q_iadd C dX2_takesStation_32 ?_
  refine q_istore C dX2_takesStation_33 hl (by decide) (lv2 := [(4, .int _), (3, .int _), (0, .ref _), (1, .int _), (2, .int _)]) rfl (fun ls hl => ?_)
  refine q_aload_n C dX2_takesStation_35 rfl (lv_at hl 2 rfl) ?_
  refine g_X2_plan C kd_8 w_fl_X2_12 dX2_takesStation_36 ?_
  refine g_X1_stations C kd_9 w_fl_X2_79 dX2_takesStation_39 ?_
  refine q_iload_n C dX2_takesStation_42 rfl (lv_at hl 3 rfl) ?_
  refine q_iload_n C dX2_takesStation_43 rfl (lv_at hl 4 rfl) ?_
  obtain ⟨h2, hh2, hK⟩ := wr_so hK
  refine q_iast C (kd_p1 kd_9) hh2 dX2_takesStation_44 ?_
  refine q_iload_n C dX2_takesStation_45 rfl (lv_at hl 4 rfl) ?_
  refine q_iload_n C dX2_takesStation_46 rfl (lv_at hl 1 rfl) ?_
  refine q_iload C dX2_takesStation_47 (lv_at hl 0 rfl) ?_
  obtain ⟨r3, h4, hfr3, hK⟩ := bd_so hK
  refine q_callNi C s_X4_isWithin w_ml_X2_56 (c_X4_isWithin l G hfr3) (by decide) hl.1 rfl rfl (Nat.le_of_ble_eq_true rfl) dX2_takesStation_49 ?_
  obtain ⟨hz, hK⟩ := bz_so hK
  cases hK
  exact q_zret C hz dX2_takesStation_52
def f_X2_takesStation (a1 : Int32) (a2 : Int32) (h : PH) : Option (Int32 × PH) := if a1 = 0 then f_X2_takesStation_b21 a1 a2 (1 : Int32) h else rd h (9 + 1) (a1 - (1 : Int32)) (fun x1 => f_X2_takesStation_b21 a1 a2 (x1 + (1 : Int32)) h)
set_option maxHeartbeats 4000000 in
set_option maxRecDepth 100000 in
theorem c_X2_takesStation (l : Launch) (G : GG) {a1 : Int32} {a2 : Int32} {h : PH} {res : Int32 × PH} (hF : f_X2_takesStation a1 a2 h = some res) : MI l G yX2_takesStation cX2_takesStation 5 .boolean 1 [.ref (G.2.2.2.2 8), .int a1, .int a2] h res := by
  unfold f_X2_takesStation at hF
  refine MI_of (by decide +kernel) (Nat.le_of_ble_eq_true rfl) ?_
  intro p e s m args below meth c ls C hl
  have hK := hF
  clear hF
  have hl : lv_has ls 5 [(0, .ref (G.2.2.2.2 8)), (1, .int a1), (2, .int a2)] := hl
  have C : cx p s m args meth c G RX2 cX2_takesStation 5 (some .boolean) := C
  refine q_iload_n C dX2_takesStation_0 rfl (lv_at hl 1 rfl) ?_
  refine q_if_ne C dX2_takesStation_1 (tgt := 8) (by decide) (fun hc => ?_) (fun hc => ?_)
  · replace hK := if_ne hc hK
    refine q_aload_n C dX2_takesStation_8 rfl (lv_at hl 0 rfl) ?_
    refine g_X2_plan C kd_8 w_fl_X2_12 dX2_takesStation_9 ?_
    refine g_X1_stations C kd_9 w_fl_X2_79 dX2_takesStation_12 ?_
    refine q_iload_n C dX2_takesStation_15 rfl (lv_at hl 1 rfl) ?_
    refine q_iconst C (v := 1) dX2_takesStation_16 (by decide) ?_
    refine q_isub C dX2_takesStation_17 ?_
    obtain ⟨x1, hx1, hK⟩ := rd_so hK
    refine q_iald C (kd_p1 kd_9) hx1 dX2_takesStation_18 ?_
    refine q_iconst C (v := 1) dX2_takesStation_19 (by decide) ?_
    refine q_iadd C dX2_takesStation_20 ?_
    exact t_X2_takesStation_b21 C (lv_sub hl [0, 1, 2] rfl) hK
  · replace hK := if_po hc hK
    refine q_iconst C (v := 1) dX2_takesStation_4 (by decide) ?_
    refine q_goto C dX2_takesStation_5 (tgt := 21) (by decide) ?_
    exact t_X2_takesStation_b21 C (lv_sub hl [0, 1, 2] rfl) hK
theorem s_X2_takesStation : sv yX2_takesStation cX2_takesStation 5 (some .boolean) 2 := ⟨w_co_X2_takesStation, w_im_X2_takesStation, w_se_X2_takesStation, w_in_X2, by decide +kernel, by decide⟩
def f_X2_takesInHead (a1 : Int32) (h : PH) : Option (Int32 × PH) := if (h.1 8 2) = 0 then if a1 = (66 : Int32) then some ((1 : Int32), h) else some ((0 : Int32), h) else bd (f_X2_isDigit a1 h) (fun r1 h2 => if r1 = 0 then some ((0 : Int32), h2) else if (h2.1 8 2) = 1 then st h2 9 0 (a1 - (48 : Int32)) (fun h3 => if (a1 - (48 : Int32)) < (6 : Int32) then some ((0 : Int32), h3) else some ((1 : Int32), h3)) else if (h2.1 8 2) = 2 then bd (f_X2_takesStation ((h2.1 8 2) - (2 : Int32)) (a1 - (48 : Int32)) h2) (fun r4 h5 => bz r4 (some (r4, h5))) else if (h2.1 8 2) = 3 then bd (f_X2_takesStation ((h2.1 8 2) - (2 : Int32)) (a1 - (48 : Int32)) h2) (fun r6 h7 => bz r6 (some (r6, h7))) else if (h2.1 8 2) = 4 then bd (f_X2_takesStation ((h2.1 8 2) - (2 : Int32)) (a1 - (48 : Int32)) h2) (fun r8 h9 => bz r8 (some (r8, h9))) else if (h2.1 8 2) = 5 then bd (f_X2_takesStation ((h2.1 8 2) - (2 : Int32)) (a1 - (48 : Int32)) h2) (fun r10 h11 => bz r10 (some (r10, h11))) else if (h2.1 8 2) = 6 then bd (f_X2_takesStation ((h2.1 8 2) - (2 : Int32)) (a1 - (48 : Int32)) h2) (fun r12 h13 => bz r12 (some (r12, h13))) else if (h2.1 8 2) = 7 then st h2 9 2 ((a1 - (48 : Int32)) * (10 : Int32)) (fun h14 => some ((1 : Int32), h14)) else if (h2.1 8 2) = 8 then st h2 9 2 ((h2.1 9 2) + (a1 - (48 : Int32))) (fun h15 => some ((1 : Int32), h15)) else if (h2.1 8 2) = 9 then st h2 9 3 (a1 - (48 : Int32)) (fun h16 => some ((1 : Int32), h16)) else if (h2.1 8 2) = 10 then st h2 9 4 (a1 - (48 : Int32)) (fun h17 => some ((1 : Int32), h17)) else bd (f_X2_takesStation ((h2.1 8 2) - (2 : Int32)) (a1 - (48 : Int32)) h2) (fun r18 h19 => bz r18 (some (r18, h19))))
set_option maxHeartbeats 4000000 in
set_option maxRecDepth 100000 in
theorem c_X2_takesInHead (l : Launch) (G : GG) {a1 : Int32} {h : PH} {res : Int32 × PH} (hF : f_X2_takesInHead a1 h = some res) : MI l G yX2_takesInHead cX2_takesInHead 3 .boolean 2 [.ref (G.2.2.2.2 8), .int a1] h res := by
  unfold f_X2_takesInHead at hF
  refine MI_of (by decide +kernel) (Nat.le_of_ble_eq_true rfl) ?_
  intro p e s m args below meth c ls C hl
  have hK := hF
  clear hF
  have hl : lv_has ls 3 [(0, .ref (G.2.2.2.2 8)), (1, .int a1)] := hl
  have C : cx p s m args meth c G RX2 cX2_takesInHead 3 (some .boolean) := C
  refine q_aload_n C dX2_takesInHead_0 rfl (lv_at hl 0 rfl) ?_
  refine g_X2_headTaken C kd_8 w_fl_X2_27 dX2_takesInHead_1 ?_
  refine q_if_ne C dX2_takesInHead_4 (tgt := 19) (by decide) (fun hc => ?_) (fun hc => ?_)
  · replace hK := if_ne hc hK
    refine q_iload_n C dX2_takesInHead_19 rfl (lv_at hl 1 rfl) ?_
    obtain ⟨r1, h2, hfr1, hK⟩ := bd_so hK
    refine q_callSi C s_X2_isDigit w_ml_X2_60 (c_X2_isDigit l G hfr1) (by decide) hl.1 rfl rfl (Nat.le_of_ble_eq_true rfl) dX2_takesInHead_20 ?_
    refine q_if_ne C dX2_takesInHead_23 (tgt := 28) (by decide) (fun hc => ?_) (fun hc => ?_)
    · replace hK := if_ne hc hK
      refine q_iload_n C dX2_takesInHead_28 rfl (lv_at hl 1 rfl) ?_
      refine q_bipush C (v := 48) dX2_takesInHead_29 (by decide) ?_
      refine q_isub C dX2_takesInHead_31 ?_
      refine q_istore_n C dX2_takesInHead_32 rfl hl (by decide) (lv2 := [(2, .int _), (0, .ref _), (1, .int _)]) rfl (fun ls hl => ?_)
      refine q_aload_n C dX2_takesInHead_33 rfl (lv_at hl 1 rfl) ?_
      refine g_X2_headTaken C kd_8 w_fl_X2_27 dX2_takesInHead_34 ?_
      by_cases hc0 : (h2.1 8 2) = 1
      · replace hK := if_po hc0 hK
        refine q_tsIn C 1 hc0 dX2_takesInHead_37 (off := 55) (by decide) (tgt := 92) (by decide) ?_
        refine q_aload_n C dX2_takesInHead_92 rfl (lv_at hl 1 rfl) ?_
        refine g_X2_plan C kd_8 w_fl_X2_12 dX2_takesInHead_93 ?_
        refine q_iload_n C dX2_takesInHead_96 rfl (lv_at hl 0 rfl) ?_
        obtain ⟨h3, hh3, hK⟩ := st_so hK
        refine p_X1_cells C kd_9 w_fl_X2_63 hh3 dX2_takesInHead_97 ?_
        refine q_iload_n C dX2_takesInHead_100 rfl (lv_at hl 0 rfl) ?_
        refine q_bipush C (v := 6) dX2_takesInHead_101 (by decide) ?_
        refine q_icmp_lt C dX2_takesInHead_103 (tgt := 110) (by decide) (fun hc => ?_) (fun hc => ?_)
        · replace hK := if_po hc hK
          refine q_iconst C (v := 0) dX2_takesInHead_110 (by decide) ?_
          cases hK
          exact q_zret C (Or.inl rfl) dX2_takesInHead_111
        · replace hK := if_ne hc hK
          refine q_iconst C (v := 1) dX2_takesInHead_106 (by decide) ?_
          refine q_goto C dX2_takesInHead_107 (tgt := 111) (by decide) ?_
          cases hK
          exact q_zret C (Or.inr rfl) dX2_takesInHead_111
      · replace hK := if_ne hc0 hK
        by_cases hc1 : (h2.1 8 2) = 2
        · replace hK := if_po hc1 hK
          refine q_tsIn C 2 hc1 dX2_takesInHead_37 (off := 123) (by decide) (tgt := 160) (by decide) ?_
          refine q_aload_n C dX2_takesInHead_160 rfl (lv_at hl 1 rfl) ?_
          refine q_aload_n C dX2_takesInHead_161 rfl (lv_at hl 1 rfl) ?_
          refine g_X2_headTaken C kd_8 w_fl_X2_27 dX2_takesInHead_162 ?_
          refine q_iconst C (v := 2) dX2_takesInHead_165 (by decide) ?_
          refine q_isub C dX2_takesInHead_166 ?_
          refine q_iload_n C dX2_takesInHead_167 rfl (lv_at hl 0 rfl) ?_
          obtain ⟨r4, h5, hfr4, hK⟩ := bd_so hK
          refine q_callVi C s_X2_takesStation w_ml_X2_75 (c_X2_takesStation l G hfr4) kd_8 rfl (by decide) (ce_1 kd_8) (by decide) hl.1 rfl rfl (Nat.le_of_ble_eq_true rfl) dX2_takesInHead_168 ?_
          obtain ⟨hz, hK⟩ := bz_so hK
          cases hK
          exact q_zret C hz dX2_takesInHead_171
        · replace hK := if_ne hc1 hK
          by_cases hc2 : (h2.1 8 2) = 3
          · replace hK := if_po hc2 hK
            refine q_tsIn C 3 hc2 dX2_takesInHead_37 (off := 123) (by decide) (tgt := 160) (by decide) ?_
            refine q_aload_n C dX2_takesInHead_160 rfl (lv_at hl 1 rfl) ?_
            refine q_aload_n C dX2_takesInHead_161 rfl (lv_at hl 1 rfl) ?_
            refine g_X2_headTaken C kd_8 w_fl_X2_27 dX2_takesInHead_162 ?_
            refine q_iconst C (v := 2) dX2_takesInHead_165 (by decide) ?_
            refine q_isub C dX2_takesInHead_166 ?_
            refine q_iload_n C dX2_takesInHead_167 rfl (lv_at hl 0 rfl) ?_
            obtain ⟨r6, h7, hfr6, hK⟩ := bd_so hK
            refine q_callVi C s_X2_takesStation w_ml_X2_75 (c_X2_takesStation l G hfr6) kd_8 rfl (by decide) (ce_1 kd_8) (by decide) hl.1 rfl rfl (Nat.le_of_ble_eq_true rfl) dX2_takesInHead_168 ?_
            obtain ⟨hz, hK⟩ := bz_so hK
            cases hK
            exact q_zret C hz dX2_takesInHead_171
          · replace hK := if_ne hc2 hK
            by_cases hc3 : (h2.1 8 2) = 4
            · replace hK := if_po hc3 hK
              refine q_tsIn C 4 hc3 dX2_takesInHead_37 (off := 123) (by decide) (tgt := 160) (by decide) ?_
              refine q_aload_n C dX2_takesInHead_160 rfl (lv_at hl 1 rfl) ?_
              refine q_aload_n C dX2_takesInHead_161 rfl (lv_at hl 1 rfl) ?_
              refine g_X2_headTaken C kd_8 w_fl_X2_27 dX2_takesInHead_162 ?_
              refine q_iconst C (v := 2) dX2_takesInHead_165 (by decide) ?_
              refine q_isub C dX2_takesInHead_166 ?_
              refine q_iload_n C dX2_takesInHead_167 rfl (lv_at hl 0 rfl) ?_
              obtain ⟨r8, h9, hfr8, hK⟩ := bd_so hK
              refine q_callVi C s_X2_takesStation w_ml_X2_75 (c_X2_takesStation l G hfr8) kd_8 rfl (by decide) (ce_1 kd_8) (by decide) hl.1 rfl rfl (Nat.le_of_ble_eq_true rfl) dX2_takesInHead_168 ?_
              obtain ⟨hz, hK⟩ := bz_so hK
              cases hK
              exact q_zret C hz dX2_takesInHead_171
            · replace hK := if_ne hc3 hK
              by_cases hc4 : (h2.1 8 2) = 5
              · replace hK := if_po hc4 hK
                refine q_tsIn C 5 hc4 dX2_takesInHead_37 (off := 123) (by decide) (tgt := 160) (by decide) ?_
                refine q_aload_n C dX2_takesInHead_160 rfl (lv_at hl 1 rfl) ?_
                refine q_aload_n C dX2_takesInHead_161 rfl (lv_at hl 1 rfl) ?_
                refine g_X2_headTaken C kd_8 w_fl_X2_27 dX2_takesInHead_162 ?_
                refine q_iconst C (v := 2) dX2_takesInHead_165 (by decide) ?_
                refine q_isub C dX2_takesInHead_166 ?_
                refine q_iload_n C dX2_takesInHead_167 rfl (lv_at hl 0 rfl) ?_
                obtain ⟨r10, h11, hfr10, hK⟩ := bd_so hK
                refine q_callVi C s_X2_takesStation w_ml_X2_75 (c_X2_takesStation l G hfr10) kd_8 rfl (by decide) (ce_1 kd_8) (by decide) hl.1 rfl rfl (Nat.le_of_ble_eq_true rfl) dX2_takesInHead_168 ?_
                obtain ⟨hz, hK⟩ := bz_so hK
                cases hK
                exact q_zret C hz dX2_takesInHead_171
              · replace hK := if_ne hc4 hK
                by_cases hc5 : (h2.1 8 2) = 6
                · replace hK := if_po hc5 hK
                  refine q_tsIn C 6 hc5 dX2_takesInHead_37 (off := 123) (by decide) (tgt := 160) (by decide) ?_
                  refine q_aload_n C dX2_takesInHead_160 rfl (lv_at hl 1 rfl) ?_
                  refine q_aload_n C dX2_takesInHead_161 rfl (lv_at hl 1 rfl) ?_
                  refine g_X2_headTaken C kd_8 w_fl_X2_27 dX2_takesInHead_162 ?_
                  refine q_iconst C (v := 2) dX2_takesInHead_165 (by decide) ?_
                  refine q_isub C dX2_takesInHead_166 ?_
                  refine q_iload_n C dX2_takesInHead_167 rfl (lv_at hl 0 rfl) ?_
                  obtain ⟨r12, h13, hfr12, hK⟩ := bd_so hK
                  refine q_callVi C s_X2_takesStation w_ml_X2_75 (c_X2_takesStation l G hfr12) kd_8 rfl (by decide) (ce_1 kd_8) (by decide) hl.1 rfl rfl (Nat.le_of_ble_eq_true rfl) dX2_takesInHead_168 ?_
                  obtain ⟨hz, hK⟩ := bz_so hK
                  cases hK
                  exact q_zret C hz dX2_takesInHead_171
                · replace hK := if_ne hc5 hK
                  by_cases hc6 : (h2.1 8 2) = 7
                  · replace hK := if_po hc6 hK
                    refine q_tsIn C 7 hc6 dX2_takesInHead_37 (off := 75) (by decide) (tgt := 112) (by decide) ?_
                    refine q_aload_n C dX2_takesInHead_112 rfl (lv_at hl 1 rfl) ?_
                    refine g_X2_plan C kd_8 w_fl_X2_12 dX2_takesInHead_113 ?_
                    refine q_iload_n C dX2_takesInHead_116 rfl (lv_at hl 0 rfl) ?_
                    refine q_bipush C (v := 10) dX2_takesInHead_117 (by decide) ?_
                    refine q_imul C dX2_takesInHead_119 ?_
                    obtain ⟨h14, hh14, hK⟩ := st_so hK
                    refine p_X1_target C kd_9 w_fl_X2_66 hh14 dX2_takesInHead_120 ?_
                    refine q_iconst C (v := 1) dX2_takesInHead_123 (by decide) ?_
                    cases hK
                    exact q_zret C (Or.inr rfl) dX2_takesInHead_124
                  · replace hK := if_ne hc6 hK
                    by_cases hc7 : (h2.1 8 2) = 8
                    · replace hK := if_po hc7 hK
                      refine q_tsIn C 8 hc7 dX2_takesInHead_37 (off := 88) (by decide) (tgt := 125) (by decide) ?_
                      refine q_aload_n C dX2_takesInHead_125 rfl (lv_at hl 1 rfl) ?_
                      refine g_X2_plan C kd_8 w_fl_X2_12 dX2_takesInHead_126 ?_
                      refine q_dup C dX2_takesInHead_129 rfl ?_
                      refine g_X1_target C kd_9 w_fl_X2_66 dX2_takesInHead_130 ?_
                      refine q_iload_n C dX2_takesInHead_133 rfl (lv_at hl 0 rfl) ?_
                      refine q_iadd C dX2_takesInHead_134 ?_
                      obtain ⟨h15, hh15, hK⟩ := st_so hK
                      refine p_X1_target C kd_9 w_fl_X2_66 hh15 dX2_takesInHead_135 ?_
                      refine q_iconst C (v := 1) dX2_takesInHead_138 (by decide) ?_
                      cases hK
                      exact q_zret C (Or.inr rfl) dX2_takesInHead_139
                    · replace hK := if_ne hc7 hK
                      by_cases hc8 : (h2.1 8 2) = 9
                      · replace hK := if_po hc8 hK
                        refine q_tsIn C 9 hc8 dX2_takesInHead_37 (off := 103) (by decide) (tgt := 140) (by decide) ?_
                        refine q_aload_n C dX2_takesInHead_140 rfl (lv_at hl 1 rfl) ?_
                        refine g_X2_plan C kd_8 w_fl_X2_12 dX2_takesInHead_141 ?_
                        refine q_iload_n C dX2_takesInHead_144 rfl (lv_at hl 0 rfl) ?_
                        obtain ⟨h16, hh16, hK⟩ := st_so hK
                        refine p_X1_tolerance C kd_9 w_fl_X2_69 hh16 dX2_takesInHead_145 ?_
                        refine q_iconst C (v := 1) dX2_takesInHead_148 (by decide) ?_
                        cases hK
                        exact q_zret C (Or.inr rfl) dX2_takesInHead_149
                      · replace hK := if_ne hc8 hK
                        by_cases hc9 : (h2.1 8 2) = 10
                        · replace hK := if_po hc9 hK
                          refine q_tsIn C 10 hc9 dX2_takesInHead_37 (off := 113) (by decide) (tgt := 150) (by decide) ?_
                          refine q_aload_n C dX2_takesInHead_150 rfl (lv_at hl 1 rfl) ?_
                          refine g_X2_plan C kd_8 w_fl_X2_12 dX2_takesInHead_151 ?_
                          refine q_iload_n C dX2_takesInHead_154 rfl (lv_at hl 0 rfl) ?_
                          obtain ⟨h17, hh17, hK⟩ := st_so hK
                          refine p_X1_each C kd_9 w_fl_X2_72 hh17 dX2_takesInHead_155 ?_
                          refine q_iconst C (v := 1) dX2_takesInHead_158 (by decide) ?_
                          cases hK
                          exact q_zret C (Or.inr rfl) dX2_takesInHead_159
                        · replace hK := if_ne hc9 hK
                          have q0 : ((h2.1 8 2) : Int32).toInt ≠ 1 := ne_i hc0
                          have q1 : ((h2.1 8 2) : Int32).toInt ≠ 2 := ne_i hc1
                          have q2 : ((h2.1 8 2) : Int32).toInt ≠ 3 := ne_i hc2
                          have q3 : ((h2.1 8 2) : Int32).toInt ≠ 4 := ne_i hc3
                          have q4 : ((h2.1 8 2) : Int32).toInt ≠ 5 := ne_i hc4
                          have q5 : ((h2.1 8 2) : Int32).toInt ≠ 6 := ne_i hc5
                          have q6 : ((h2.1 8 2) : Int32).toInt ≠ 7 := ne_i hc6
                          have q7 : ((h2.1 8 2) : Int32).toInt ≠ 8 := ne_i hc7
                          have q8 : ((h2.1 8 2) : Int32).toInt ≠ 9 := ne_i hc8
                          have q9 : ((h2.1 8 2) : Int32).toInt ≠ 10 := ne_i hc9
                          refine q_tsOut C dX2_takesInHead_37 (by omega) (tgt := 160) (by decide) ?_
                          refine q_aload_n C dX2_takesInHead_160 rfl (lv_at hl 1 rfl) ?_
                          refine q_aload_n C dX2_takesInHead_161 rfl (lv_at hl 1 rfl) ?_
                          refine g_X2_headTaken C kd_8 w_fl_X2_27 dX2_takesInHead_162 ?_
                          refine q_iconst C (v := 2) dX2_takesInHead_165 (by decide) ?_
                          refine q_isub C dX2_takesInHead_166 ?_
                          refine q_iload_n C dX2_takesInHead_167 rfl (lv_at hl 0 rfl) ?_
                          obtain ⟨r18, h19, hfr18, hK⟩ := bd_so hK
                          refine q_callVi C s_X2_takesStation w_ml_X2_75 (c_X2_takesStation l G hfr18) kd_8 rfl (by decide) (ce_1 kd_8) (by decide) hl.1 rfl rfl (Nat.le_of_ble_eq_true rfl) dX2_takesInHead_168 ?_
                          obtain ⟨hz, hK⟩ := bz_so hK
                          cases hK
                          exact q_zret C hz dX2_takesInHead_171
    · replace hK := if_po hc hK
      refine q_iconst C (v := 0) dX2_takesInHead_26 (by decide) ?_
      cases hK
      exact q_zret C (Or.inl rfl) dX2_takesInHead_27
  · replace hK := if_po hc hK
    refine q_iload_n C dX2_takesInHead_7 rfl (lv_at hl 1 rfl) ?_
    refine q_bipush C (v := 66) dX2_takesInHead_8 (by decide) ?_
    refine q_icmp_ne C dX2_takesInHead_10 (tgt := 17) (by decide) (fun hc => ?_) (fun hc => ?_)
    · replace hK := if_ne hc hK
      refine q_iconst C (v := 0) dX2_takesInHead_17 (by decide) ?_
      cases hK
      exact q_zret C (Or.inl rfl) dX2_takesInHead_18
    · replace hK := if_po hc hK
      refine q_iconst C (v := 1) dX2_takesInHead_13 (by decide) ?_
      refine q_goto C dX2_takesInHead_14 (tgt := 18) (by decide) ?_
      cases hK
      exact q_zret C (Or.inr rfl) dX2_takesInHead_18
theorem s_X2_takesInHead : sv yX2_takesInHead cX2_takesInHead 3 (some .boolean) 1 := ⟨w_co_X2_takesInHead, w_im_X2_takesInHead, w_se_X2_takesInHead, w_in_X2, by decide +kernel, by decide⟩
def f_X2_opensPart (a1 : Int32) (a2 : Int32) (h : PH) : Option (Int32 × PH) := st h 8 3 a1 (fun h1 => st h1 8 4 (0 : Int32) (fun h2 => st h2 8 5 (0 : Int32) (fun h3 => bz a2 (some (a2, h3)))))
set_option maxHeartbeats 4000000 in
set_option maxRecDepth 100000 in
theorem c_X2_opensPart (l : Launch) (G : GG) {a1 : Int32} {a2 : Int32} {h : PH} {res : Int32 × PH} (hF : f_X2_opensPart a1 a2 h = some res) : MI l G yX2_opensPart cX2_opensPart 3 .boolean 0 [.ref (G.2.2.2.2 8), .int a1, .int a2] h res := by
  unfold f_X2_opensPart at hF
  refine MI_of (by decide +kernel) (Nat.le_of_ble_eq_true rfl) ?_
  intro p e s m args below meth c ls C hl
  have hK := hF
  clear hF
  have hl : lv_has ls 3 [(0, .ref (G.2.2.2.2 8)), (1, .int a1), (2, .int a2)] := hl
  have C : cx p s m args meth c G RX2 cX2_opensPart 3 (some .boolean) := C
  refine q_aload_n C dX2_opensPart_0 rfl (lv_at hl 0 rfl) ?_
  refine q_iload_n C dX2_opensPart_1 rfl (lv_at hl 1 rfl) ?_
  obtain ⟨h1, hh1, hK⟩ := st_so hK
  refine p_X2_part C kd_8 w_fl_X2_31 hh1 dX2_opensPart_2 ?_
  refine q_aload_n C dX2_opensPart_5 rfl (lv_at hl 0 rfl) ?_
  refine q_iconst C (v := 0) dX2_opensPart_6 (by decide) ?_
  obtain ⟨h2, hh2, hK⟩ := st_so hK
  refine p_X2_partDigits C kd_8 w_fl_X2_90 hh2 dX2_opensPart_7 ?_
  refine q_aload_n C dX2_opensPart_10 rfl (lv_at hl 0 rfl) ?_
  refine q_iconst C (v := 0) dX2_opensPart_11 (by decide) ?_
  obtain ⟨h3, hh3, hK⟩ := st_so hK
  refine p_X2_partNumber C kd_8 w_fl_X2_93 hh3 dX2_opensPart_12 ?_
  refine q_iload_n C dX2_opensPart_15 rfl (lv_at hl 2 rfl) ?_
  obtain ⟨hz, hK⟩ := bz_so hK
  cases hK
  exact q_zret C hz dX2_opensPart_16
theorem s_X2_opensPart : sv yX2_opensPart cX2_opensPart 3 (some .boolean) 2 := ⟨w_co_X2_opensPart, w_im_X2_opensPart, w_se_X2_opensPart, w_in_X2, by decide +kernel, by decide⟩
def f_X2_takesEntry_b17 (v1 : Int32) (s0 : Int32) (h : PH) : Option (Int32 × PH) := bd (f_X3_addEntry 15 v1 h) (fun _ h2 => bz s0 (some (s0, h2)))
set_option maxHeartbeats 4000000 in
set_option maxRecDepth 100000 in
theorem t_X2_takesEntry_b17 {p : Program} {l : Launch} {e : Env} {s : State} {m : MethodId} {args : Array Value} {below : List Frame} {meth : Method} {c : Code} {G : GG} {res : Int32 × PH} (C : cx p s m args meth c G RX2 cX2_takesEntry 3 (some .boolean)) {v1 : Int32} {s0 : Int32} {h : PH} {ls : Array Slot} (hl : lv_has ls 3 [(0, .ref (G.2.2.2.2 8)), (1, .int v1)]) (hK : f_X2_takesEntry_b17 v1 s0 h = some res) : WW p l e 1 s m args below meth c G h (MQ below (QI G res) args s 0 0 (Ar G)) (F0 m 17 ls [.int s0]) := by
  unfold f_X2_takesEntry_b17 at hK
  refine q_istore_n C dX2_takesEntry_17 rfl hl (by decide) (lv2 := [(2, .int _), (0, .ref _), (1, .int _)]) rfl (fun ls hl => ?_)
  refine q_aload_n C dX2_takesEntry_18 rfl (lv_at hl 1 rfl) ?_
  refine g_X2_start C kd_8 w_fl_X2_23 dX2_takesEntry_19 ?_
  refine q_iload_n C dX2_takesEntry_22 rfl (lv_at hl 2 rfl) ?_
  obtain ⟨r1, h2, hfr1, hK⟩ := bd_so hK
  refine q_callVv C s_X3_addEntry w_ml_X2_96 (c_X3_addEntry l G hfr1) kd_15 rfl (by decide) (ce_2 kd_15) (by decide) hl.1 rfl rfl (Nat.le_of_ble_eq_true rfl) dX2_takesEntry_23 ?_
  refine q_iload_n C dX2_takesEntry_26 rfl (lv_at hl 0 rfl) ?_
  obtain ⟨hz, hK⟩ := bz_so hK
  cases hK
  exact q_zret C hz dX2_takesEntry_27
def f_X2_takesEntry (a1 : Int32) (h : PH) : Option (Int32 × PH) := if (24 : Int32) ≤ (h.1 15 6) then f_X2_takesEntry_b17 a1 (0 : Int32) h else f_X2_takesEntry_b17 a1 (1 : Int32) h
set_option maxHeartbeats 4000000 in
set_option maxRecDepth 100000 in
theorem c_X2_takesEntry (l : Launch) (G : GG) {a1 : Int32} {h : PH} {res : Int32 × PH} (hF : f_X2_takesEntry a1 h = some res) : MI l G yX2_takesEntry cX2_takesEntry 3 .boolean 1 [.ref (G.2.2.2.2 8), .int a1] h res := by
  unfold f_X2_takesEntry at hF
  refine MI_of (by decide +kernel) (Nat.le_of_ble_eq_true rfl) ?_
  intro p e s m args below meth c ls C hl
  have hK := hF
  clear hF
  have hl : lv_has ls 3 [(0, .ref (G.2.2.2.2 8)), (1, .int a1)] := hl
  have C : cx p s m args meth c G RX2 cX2_takesEntry 3 (some .boolean) := C
  refine q_aload_n C dX2_takesEntry_0 rfl (lv_at hl 0 rfl) ?_
  refine g_X2_start C kd_8 w_fl_X2_23 dX2_takesEntry_1 ?_
  refine g_X3_entryCount C kd_15 w_fl_X2_43 dX2_takesEntry_4 ?_
  refine q_bipush C (v := 24) dX2_takesEntry_7 (by decide) ?_
  refine q_icmp_ge C dX2_takesEntry_9 (tgt := 16) (by decide) (fun hc => ?_) (fun hc => ?_)
  · replace hK := if_po hc hK
    refine q_iconst C (v := 0) dX2_takesEntry_16 (by decide) ?_
    exact t_X2_takesEntry_b17 C (lv_sub hl [0, 1] rfl) hK
  · replace hK := if_ne hc hK
    refine q_iconst C (v := 1) dX2_takesEntry_12 (by decide) ?_
    refine q_goto C dX2_takesEntry_13 (tgt := 17) (by decide) ?_
    exact t_X2_takesEntry_b17 C (lv_sub hl [0, 1] rfl) hK
theorem s_X2_takesEntry : sv yX2_takesEntry cX2_takesEntry 3 (some .boolean) 1 := ⟨w_co_X2_takesEntry, w_im_X2_takesEntry, w_se_X2_takesEntry, w_in_X2, by decide +kernel, by decide⟩
def f_X2_takesPart (a1 : Int32) (h : PH) : Option (Int32 × PH) := if a1 = 45 then bd (f_X2_takesEntry (0 : Int32) h) (fun r1 h2 => bz r1 (some (r1, h2))) else if a1 = 98 then bd (f_X2_takesEntry (1 : Int32) h) (fun r3 h4 => bz r3 (some (r3, h4))) else if a1 = 99 then if (99 : Int32) ≤ (h.1 15 7) then bd (f_X2_opensPart a1 (0 : Int32) h) (fun r5 h6 => bz r5 (some (r5, h6))) else bd (f_X2_opensPart a1 (1 : Int32) h) (fun r7 h8 => bz r7 (some (r7, h8))) else if a1 = 108 then if (99 : Int32) ≤ (h.1 15 8) then bd (f_X2_opensPart a1 (0 : Int32) h) (fun r9 h10 => bz r9 (some (r9, h10))) else bd (f_X2_opensPart a1 (1 : Int32) h) (fun r11 h12 => bz r11 (some (r11, h12))) else if a1 = 118 then if (4 : Int32) ≤ (h.1 9 5) then bd (f_X2_opensPart a1 (0 : Int32) h) (fun r13 h14 => bz r13 (some (r13, h14))) else bd (f_X2_opensPart a1 (1 : Int32) h) (fun r15 h16 => bz r15 (some (r15, h16))) else if a1 = 120 then bd (f_X2_takesEntry (2 : Int32) h) (fun r17 h18 => bz r17 (some (r17, h18))) else some ((0 : Int32), h)
set_option maxHeartbeats 4000000 in
set_option maxRecDepth 100000 in
theorem c_X2_takesPart (l : Launch) (G : GG) {a1 : Int32} {h : PH} {res : Int32 × PH} (hF : f_X2_takesPart a1 h = some res) : MI l G yX2_takesPart cX2_takesPart 2 .boolean 2 [.ref (G.2.2.2.2 8), .int a1] h res := by
  unfold f_X2_takesPart at hF
  refine MI_of (by decide +kernel) (Nat.le_of_ble_eq_true rfl) ?_
  intro p e s m args below meth c ls C hl
  have hK := hF
  clear hF
  have hl : lv_has ls 2 [(0, .ref (G.2.2.2.2 8)), (1, .int a1)] := hl
  have C : cx p s m args meth c G RX2 cX2_takesPart 2 (some .boolean) := C
  refine q_iload_n C dX2_takesPart_0 rfl (lv_at hl 1 rfl) ?_
  by_cases hc0 : a1 = 45
  · replace hK := if_po hc0 hK
    refine q_lsw C dX2_takesPart_1 (by decide) (off := 139) (by rw [hc0]; decide) (tgt := 140) (by decide) ?_
    refine q_aload_n C dX2_takesPart_140 rfl (lv_at hl 0 rfl) ?_
    refine q_iconst C (v := 0) dX2_takesPart_141 (by decide) ?_
    obtain ⟨r1, h2, hfr1, hK⟩ := bd_so hK
    refine q_callVi C s_X2_takesEntry w_ml_X2_87 (c_X2_takesEntry l G hfr1) kd_8 rfl (by decide) (ce_1 kd_8) (by decide) hl.1 rfl rfl (Nat.le_of_ble_eq_true rfl) dX2_takesPart_142 ?_
    obtain ⟨hz, hK⟩ := bz_so hK
    cases hK
    exact q_zret C hz dX2_takesPart_145
  · replace hK := if_ne hc0 hK
    by_cases hc1 : a1 = 98
    · replace hK := if_po hc1 hK
      refine q_lsw C dX2_takesPart_1 (by decide) (off := 127) (by rw [hc1]; decide) (tgt := 128) (by decide) ?_
      refine q_aload_n C dX2_takesPart_128 rfl (lv_at hl 0 rfl) ?_
      refine q_iconst C (v := 1) dX2_takesPart_129 (by decide) ?_
      obtain ⟨r3, h4, hfr3, hK⟩ := bd_so hK
      refine q_callVi C s_X2_takesEntry w_ml_X2_87 (c_X2_takesEntry l G hfr3) kd_8 rfl (by decide) (ce_1 kd_8) (by decide) hl.1 rfl rfl (Nat.le_of_ble_eq_true rfl) dX2_takesPart_130 ?_
      obtain ⟨hz, hK⟩ := bz_so hK
      cases hK
      exact q_zret C hz dX2_takesPart_133
    · replace hK := if_ne hc1 hK
      by_cases hc2 : a1 = 99
      · replace hK := if_po hc2 hK
        refine q_lsw C dX2_takesPart_1 (by decide) (off := 81) (by rw [hc2]; decide) (tgt := 82) (by decide) ?_
        refine q_aload_n C dX2_takesPart_82 rfl (lv_at hl 0 rfl) ?_
        refine q_iload_n C dX2_takesPart_83 rfl (lv_at hl 1 rfl) ?_
        refine q_aload_n C dX2_takesPart_84 rfl (lv_at hl 0 rfl) ?_
        refine g_X2_start C kd_8 w_fl_X2_23 dX2_takesPart_85 ?_
        refine g_X3_caps C kd_15 w_fl_X2_37 dX2_takesPart_88 ?_
        refine q_bipush C (v := 99) dX2_takesPart_91 (by decide) ?_
        refine q_icmp_ge C dX2_takesPart_93 (tgt := 100) (by decide) (fun hc => ?_) (fun hc => ?_)
        · replace hK := if_po hc hK
          refine q_iconst C (v := 0) dX2_takesPart_100 (by decide) ?_
          obtain ⟨r5, h6, hfr5, hK⟩ := bd_so hK
          refine q_callVi C s_X2_opensPart w_ml_X2_83 (c_X2_opensPart l G hfr5) kd_8 rfl (by decide) (ce_1 kd_8) (by decide) hl.1 rfl rfl (Nat.le_of_ble_eq_true rfl) dX2_takesPart_101 ?_
          obtain ⟨hz, hK⟩ := bz_so hK
          cases hK
          exact q_zret C hz dX2_takesPart_104
        · replace hK := if_ne hc hK
          refine q_iconst C (v := 1) dX2_takesPart_96 (by decide) ?_
          refine q_goto C dX2_takesPart_97 (tgt := 101) (by decide) ?_
          obtain ⟨r7, h8, hfr7, hK⟩ := bd_so hK
          refine q_callVi C s_X2_opensPart w_ml_X2_83 (c_X2_opensPart l G hfr7) kd_8 rfl (by decide) (ce_1 kd_8) (by decide) hl.1 rfl rfl (Nat.le_of_ble_eq_true rfl) dX2_takesPart_101 ?_
          obtain ⟨hz, hK⟩ := bz_so hK
          cases hK
          exact q_zret C hz dX2_takesPart_104
      · replace hK := if_ne hc2 hK
        by_cases hc3 : a1 = 108
        · replace hK := if_po hc3 hK
          refine q_lsw C dX2_takesPart_1 (by decide) (off := 104) (by rw [hc3]; decide) (tgt := 105) (by decide) ?_
          refine q_aload_n C dX2_takesPart_105 rfl (lv_at hl 0 rfl) ?_
          refine q_iload_n C dX2_takesPart_106 rfl (lv_at hl 1 rfl) ?_
          refine q_aload_n C dX2_takesPart_107 rfl (lv_at hl 0 rfl) ?_
          refine g_X2_start C kd_8 w_fl_X2_23 dX2_takesPart_108 ?_
          refine g_X3_labels C kd_15 w_fl_X2_40 dX2_takesPart_111 ?_
          refine q_bipush C (v := 99) dX2_takesPart_114 (by decide) ?_
          refine q_icmp_ge C dX2_takesPart_116 (tgt := 123) (by decide) (fun hc => ?_) (fun hc => ?_)
          · replace hK := if_po hc hK
            refine q_iconst C (v := 0) dX2_takesPart_123 (by decide) ?_
            obtain ⟨r9, h10, hfr9, hK⟩ := bd_so hK
            refine q_callVi C s_X2_opensPart w_ml_X2_83 (c_X2_opensPart l G hfr9) kd_8 rfl (by decide) (ce_1 kd_8) (by decide) hl.1 rfl rfl (Nat.le_of_ble_eq_true rfl) dX2_takesPart_124 ?_
            obtain ⟨hz, hK⟩ := bz_so hK
            cases hK
            exact q_zret C hz dX2_takesPart_127
          · replace hK := if_ne hc hK
            refine q_iconst C (v := 1) dX2_takesPart_119 (by decide) ?_
            refine q_goto C dX2_takesPart_120 (tgt := 124) (by decide) ?_
            obtain ⟨r11, h12, hfr11, hK⟩ := bd_so hK
            refine q_callVi C s_X2_opensPart w_ml_X2_83 (c_X2_opensPart l G hfr11) kd_8 rfl (by decide) (ce_1 kd_8) (by decide) hl.1 rfl rfl (Nat.le_of_ble_eq_true rfl) dX2_takesPart_124 ?_
            obtain ⟨hz, hK⟩ := bz_so hK
            cases hK
            exact q_zret C hz dX2_takesPart_127
        · replace hK := if_ne hc3 hK
          by_cases hc4 : a1 = 118
          · replace hK := if_po hc4 hK
            refine q_lsw C dX2_takesPart_1 (by decide) (off := 59) (by rw [hc4]; decide) (tgt := 60) (by decide) ?_
            refine q_aload_n C dX2_takesPart_60 rfl (lv_at hl 0 rfl) ?_
            refine q_iload_n C dX2_takesPart_61 rfl (lv_at hl 1 rfl) ?_
            refine q_aload_n C dX2_takesPart_62 rfl (lv_at hl 0 rfl) ?_
            refine g_X2_plan C kd_8 w_fl_X2_12 dX2_takesPart_63 ?_
            refine g_X1_valves C kd_9 w_fl_X2_34 dX2_takesPart_66 ?_
            refine q_iconst C (v := 4) dX2_takesPart_69 (by decide) ?_
            refine q_icmp_ge C dX2_takesPart_70 (tgt := 77) (by decide) (fun hc => ?_) (fun hc => ?_)
            · replace hK := if_po hc hK
              refine q_iconst C (v := 0) dX2_takesPart_77 (by decide) ?_
              obtain ⟨r13, h14, hfr13, hK⟩ := bd_so hK
              refine q_callVi C s_X2_opensPart w_ml_X2_83 (c_X2_opensPart l G hfr13) kd_8 rfl (by decide) (ce_1 kd_8) (by decide) hl.1 rfl rfl (Nat.le_of_ble_eq_true rfl) dX2_takesPart_78 ?_
              obtain ⟨hz, hK⟩ := bz_so hK
              cases hK
              exact q_zret C hz dX2_takesPart_81
            · replace hK := if_ne hc hK
              refine q_iconst C (v := 1) dX2_takesPart_73 (by decide) ?_
              refine q_goto C dX2_takesPart_74 (tgt := 78) (by decide) ?_
              obtain ⟨r15, h16, hfr15, hK⟩ := bd_so hK
              refine q_callVi C s_X2_opensPart w_ml_X2_83 (c_X2_opensPart l G hfr15) kd_8 rfl (by decide) (ce_1 kd_8) (by decide) hl.1 rfl rfl (Nat.le_of_ble_eq_true rfl) dX2_takesPart_78 ?_
              obtain ⟨hz, hK⟩ := bz_so hK
              cases hK
              exact q_zret C hz dX2_takesPart_81
          · replace hK := if_ne hc4 hK
            by_cases hc5 : a1 = 120
            · replace hK := if_po hc5 hK
              refine q_lsw C dX2_takesPart_1 (by decide) (off := 133) (by rw [hc5]; decide) (tgt := 134) (by decide) ?_
              refine q_aload_n C dX2_takesPart_134 rfl (lv_at hl 0 rfl) ?_
              refine q_iconst C (v := 2) dX2_takesPart_135 (by decide) ?_
              obtain ⟨r17, h18, hfr17, hK⟩ := bd_so hK
              refine q_callVi C s_X2_takesEntry w_ml_X2_87 (c_X2_takesEntry l G hfr17) kd_8 rfl (by decide) (ce_1 kd_8) (by decide) hl.1 rfl rfl (Nat.le_of_ble_eq_true rfl) dX2_takesPart_136 ?_
              obtain ⟨hz, hK⟩ := bz_so hK
              cases hK
              exact q_zret C hz dX2_takesPart_139
            · replace hK := if_ne hc5 hK
              have q0 : (a1 : Int32).toInt ≠ 45 := ne_i hc0
              have q1 : (a1 : Int32).toInt ≠ 98 := ne_i hc1
              have q2 : (a1 : Int32).toInt ≠ 99 := ne_i hc2
              have q3 : (a1 : Int32).toInt ≠ 108 := ne_i hc3
              have q4 : (a1 : Int32).toInt ≠ 118 := ne_i hc4
              have q5 : (a1 : Int32).toInt ≠ 120 := ne_i hc5
              refine q_lsw C dX2_takesPart_1 (by decide) (off := 145) ((if_neg (Ne.symm q0)).trans ((if_neg (Ne.symm q1)).trans ((if_neg (Ne.symm q2)).trans ((if_neg (Ne.symm q3)).trans ((if_neg (Ne.symm q4)).trans ((if_neg (Ne.symm q5)).trans rfl)))))) (tgt := 146) (by decide) ?_
              refine q_iconst C (v := 0) dX2_takesPart_146 (by decide) ?_
              cases hK
              exact q_zret C (Or.inl rfl) dX2_takesPart_147
theorem s_X2_takesPart : sv yX2_takesPart cX2_takesPart 2 (some .boolean) 1 := ⟨w_co_X2_takesPart, w_im_X2_takesPart, w_se_X2_takesPart, w_in_X2, by decide +kernel, by decide⟩
def f_X2_takesValve (h : PH) : Option (Int32 × PH) := if (h.1 8 4) = (3 : Int32) then if (4 : Int32) ≤ (h.1 9 5) then some ((1 : Int32), h) else wr h (15 + 3) (h.1 9 5) ((h.1 8 5) / (10 : Int32)) (fun h1 => wr h1 (9 + 2) (h1.1 9 5) ((irm (h1.1 8 5) (10 : Int32)) - (4 : Int32)) (fun h2 => st h2 9 5 ((h2.1 9 5) + (1 : Int32)) (fun h3 => st h3 8 3 (0 : Int32) (fun h4 => some ((1 : Int32), h4))))) else some ((1 : Int32), h)
set_option maxHeartbeats 4000000 in
set_option maxRecDepth 100000 in
theorem c_X2_takesValve (l : Launch) (G : GG) {h : PH} {res : Int32 × PH} (hF : f_X2_takesValve h = some res) : MI l G yX2_takesValve cX2_takesValve 1 .boolean 0 [.ref (G.2.2.2.2 8)] h res := by
  unfold f_X2_takesValve at hF
  refine MI_of (by decide +kernel) (Nat.le_of_ble_eq_true rfl) ?_
  intro p e s m args below meth c ls C hl
  have hK := hF
  clear hF
  have hl : lv_has ls 1 [(0, .ref (G.2.2.2.2 8))] := hl
  have C : cx p s m args meth c G RX2 cX2_takesValve 1 (some .boolean) := C
  refine q_aload_n C dX2_takesValve_0 rfl (lv_at hl 0 rfl) ?_
  refine g_X2_partDigits C kd_8 w_fl_X2_90 dX2_takesValve_1 ?_
  refine q_iconst C (v := 3) dX2_takesValve_4 (by decide) ?_
  refine q_icmp_ne C dX2_takesValve_5 (tgt := 83) (by decide) (fun hc => ?_) (fun hc => ?_)
  · replace hK := if_ne hc hK
    refine q_iconst C (v := 1) dX2_takesValve_83 (by decide) ?_
    cases hK
    exact q_zret C (Or.inr rfl) dX2_takesValve_84
  · replace hK := if_po hc hK
    refine q_aload_n C dX2_takesValve_8 rfl (lv_at hl 0 rfl) ?_
    refine g_X2_plan C kd_8 w_fl_X2_12 dX2_takesValve_9 ?_
    refine g_X1_valves C kd_9 w_fl_X2_34 dX2_takesValve_12 ?_
    refine q_iconst C (v := 4) dX2_takesValve_15 (by decide) ?_
    refine q_icmp_ge C dX2_takesValve_16 (tgt := 83) (by decide) (fun hc => ?_) (fun hc => ?_)
    · replace hK := if_po hc hK
      refine q_iconst C (v := 1) dX2_takesValve_83 (by decide) ?_
      cases hK
      exact q_zret C (Or.inr rfl) dX2_takesValve_84
    · replace hK := if_ne hc hK
      refine q_aload_n C dX2_takesValve_19 rfl (lv_at hl 0 rfl) ?_
      refine g_X2_start C kd_8 w_fl_X2_23 dX2_takesValve_20 ?_
      refine g_X3_settings C kd_15 w_fl_X2_108 dX2_takesValve_23 ?_
      refine q_aload_n C dX2_takesValve_26 rfl (lv_at hl 0 rfl) ?_
      refine g_X2_plan C kd_8 w_fl_X2_12 dX2_takesValve_27 ?_
      refine g_X1_valves C kd_9 w_fl_X2_34 dX2_takesValve_30 ?_
      refine q_aload_n C dX2_takesValve_33 rfl (lv_at hl 0 rfl) ?_
      refine g_X2_partNumber C kd_8 w_fl_X2_93 dX2_takesValve_34 ?_
      refine q_bipush C (v := 10) dX2_takesValve_37 (by decide) ?_
      refine q_idiv C dX2_takesValve_39 (by decide) ?_
      obtain ⟨h1, hh1, hK⟩ := wr_so hK
      refine q_iast C (kd_s3 kd_15) hh1 dX2_takesValve_40 ?_
      refine q_aload_n C dX2_takesValve_41 rfl (lv_at hl 0 rfl) ?_
      refine g_X2_plan C kd_8 w_fl_X2_12 dX2_takesValve_42 ?_
      refine g_X1_drifts C kd_9 w_fl_X2_111 dX2_takesValve_45 ?_
      refine q_aload_n C dX2_takesValve_48 rfl (lv_at hl 0 rfl) ?_
      refine g_X2_plan C kd_8 w_fl_X2_12 dX2_takesValve_49 ?_
      refine g_X1_valves C kd_9 w_fl_X2_34 dX2_takesValve_52 ?_
      refine q_aload_n C dX2_takesValve_55 rfl (lv_at hl 0 rfl) ?_
      refine g_X2_partNumber C kd_8 w_fl_X2_93 dX2_takesValve_56 ?_
      refine q_bipush C (v := 10) dX2_takesValve_59 (by decide) ?_
      refine q_irem C dX2_takesValve_61 (by decide) ?_
      refine q_iconst C (v := 4) dX2_takesValve_62 (by decide) ?_
      refine q_isub C dX2_takesValve_63 ?_
      obtain ⟨h2, hh2, hK⟩ := wr_so hK
      refine q_iast C (kd_p2 kd_9) hh2 dX2_takesValve_64 ?_
      refine q_aload_n C dX2_takesValve_65 rfl (lv_at hl 0 rfl) ?_
      refine g_X2_plan C kd_8 w_fl_X2_12 dX2_takesValve_66 ?_
      refine q_dup C dX2_takesValve_69 rfl ?_
      refine g_X1_valves C kd_9 w_fl_X2_34 dX2_takesValve_70 ?_
      refine q_iconst C (v := 1) dX2_takesValve_73 (by decide) ?_
      refine q_iadd C dX2_takesValve_74 ?_
      obtain ⟨h3, hh3, hK⟩ := st_so hK
      refine p_X1_valves C kd_9 w_fl_X2_34 hh3 dX2_takesValve_75 ?_
      refine q_aload_n C dX2_takesValve_78 rfl (lv_at hl 0 rfl) ?_
      refine q_iconst C (v := 0) dX2_takesValve_79 (by decide) ?_
      obtain ⟨h4, hh4, hK⟩ := st_so hK
      refine p_X2_part C kd_8 w_fl_X2_31 hh4 dX2_takesValve_80 ?_
      refine q_iconst C (v := 1) dX2_takesValve_83 (by decide) ?_
      cases hK
      exact q_zret C (Or.inr rfl) dX2_takesValve_84
theorem s_X2_takesValve : sv yX2_takesValve cX2_takesValve 1 (some .boolean) 0 := ⟨w_co_X2_takesValve, w_im_X2_takesValve, w_se_X2_takesValve, w_in_X2, by decide +kernel, by decide⟩
def f_X2_takesStock (a1 : Int32) (h : PH) : Option (Int32 × PH) := bd (f_X3_stock 15 a1 h) (fun r1 h2 => if (h2.1 8 4) = (1 : Int32) then if ((99 : Int32) - r1) < ((h2.1 8 5) * (10 : Int32)) then some ((0 : Int32), h2) else some ((1 : Int32), h2) else bd (f_X4_isWithin (h2.1 8 5) (1 : Int32) ((99 : Int32) - r1) h2) (fun r3 h4 => if r3 = 0 then some ((0 : Int32), h4) else bd (f_X3_addStock 15 a1 (h4.1 8 5) h4) (fun _ h6 => st h6 8 3 (0 : Int32) (fun h7 => some ((1 : Int32), h7)))))
set_option maxHeartbeats 4000000 in
set_option maxRecDepth 100000 in
theorem c_X2_takesStock (l : Launch) (G : GG) {a1 : Int32} {h : PH} {res : Int32 × PH} (hF : f_X2_takesStock a1 h = some res) : MI l G yX2_takesStock cX2_takesStock 3 .boolean 2 [.ref (G.2.2.2.2 8), .int a1] h res := by
  unfold f_X2_takesStock at hF
  refine MI_of (by decide +kernel) (Nat.le_of_ble_eq_true rfl) ?_
  intro p e s m args below meth c ls C hl
  have hK := hF
  clear hF
  have hl : lv_has ls 3 [(0, .ref (G.2.2.2.2 8)), (1, .int a1)] := hl
  have C : cx p s m args meth c G RX2 cX2_takesStock 3 (some .boolean) := C
  refine q_bipush C (v := 99) dX2_takesStock_0 (by decide) ?_
  refine q_aload_n C dX2_takesStock_2 rfl (lv_at hl 0 rfl) ?_
  refine g_X2_start C kd_8 w_fl_X2_23 dX2_takesStock_3 ?_
  refine q_iload_n C dX2_takesStock_6 rfl (lv_at hl 1 rfl) ?_
  obtain ⟨r1, h2, hfr1, hK⟩ := bd_so hK
  refine q_callVi C s_X3_stock w_ml_X2_114 (c_X3_stock l G hfr1) kd_15 rfl (by decide) (ce_2 kd_15) (by decide) hl.1 rfl rfl (Nat.le_of_ble_eq_true rfl) dX2_takesStock_7 ?_
  refine q_isub C dX2_takesStock_10 ?_
  refine q_istore_n C dX2_takesStock_11 rfl hl (by decide) (lv2 := [(2, .int _), (0, .ref _), (1, .int _)]) rfl (fun ls hl => ?_)
  refine q_aload_n C dX2_takesStock_12 rfl (lv_at hl 1 rfl) ?_
  refine g_X2_partDigits C kd_8 w_fl_X2_90 dX2_takesStock_13 ?_
  refine q_iconst C (v := 1) dX2_takesStock_16 (by decide) ?_
  refine q_icmp_ne C dX2_takesStock_17 (tgt := 37) (by decide) (fun hc => ?_) (fun hc => ?_)
  · replace hK := if_ne hc hK
    refine q_aload_n C dX2_takesStock_37 rfl (lv_at hl 1 rfl) ?_
    refine g_X2_partNumber C kd_8 w_fl_X2_93 dX2_takesStock_38 ?_
    refine q_iconst C (v := 1) dX2_takesStock_41 (by decide) ?_
    refine q_iload_n C dX2_takesStock_42 rfl (lv_at hl 0 rfl) ?_
    obtain ⟨r3, h4, hfr3, hK⟩ := bd_so hK
    refine q_callNi C s_X4_isWithin w_ml_X2_56 (c_X4_isWithin l G hfr3) (by decide) hl.1 rfl rfl (Nat.le_of_ble_eq_true rfl) dX2_takesStock_43 ?_
    refine q_if_ne C dX2_takesStock_46 (tgt := 51) (by decide) (fun hc => ?_) (fun hc => ?_)
    · replace hK := if_ne hc hK
      refine q_aload_n C dX2_takesStock_51 rfl (lv_at hl 1 rfl) ?_
      refine g_X2_start C kd_8 w_fl_X2_23 dX2_takesStock_52 ?_
      refine q_iload_n C dX2_takesStock_55 rfl (lv_at hl 2 rfl) ?_
      refine q_aload_n C dX2_takesStock_56 rfl (lv_at hl 1 rfl) ?_
      refine g_X2_partNumber C kd_8 w_fl_X2_93 dX2_takesStock_57 ?_
      obtain ⟨r5, h6, hfr5, hK⟩ := bd_so hK
      refine q_callVv C s_X3_addStock w_ml_X2_118 (c_X3_addStock l G hfr5) kd_15 rfl (by decide) (ce_2 kd_15) (by decide) hl.1 rfl rfl (Nat.le_of_ble_eq_true rfl) dX2_takesStock_60 ?_
      refine q_aload_n C dX2_takesStock_63 rfl (lv_at hl 1 rfl) ?_
      refine q_iconst C (v := 0) dX2_takesStock_64 (by decide) ?_
      obtain ⟨h7, hh7, hK⟩ := st_so hK
      refine p_X2_part C kd_8 w_fl_X2_31 hh7 dX2_takesStock_65 ?_
      refine q_iconst C (v := 1) dX2_takesStock_68 (by decide) ?_
      cases hK
      exact q_zret C (Or.inr rfl) dX2_takesStock_69
    · replace hK := if_po hc hK
      refine q_iconst C (v := 0) dX2_takesStock_49 (by decide) ?_
      cases hK
      exact q_zret C (Or.inl rfl) dX2_takesStock_50
  · replace hK := if_po hc hK
    refine q_aload_n C dX2_takesStock_20 rfl (lv_at hl 1 rfl) ?_
    refine g_X2_partNumber C kd_8 w_fl_X2_93 dX2_takesStock_21 ?_
    refine q_bipush C (v := 10) dX2_takesStock_24 (by decide) ?_
    refine q_imul C dX2_takesStock_26 ?_
    refine q_iload_n C dX2_takesStock_27 rfl (lv_at hl 0 rfl) ?_
    refine q_icmp_gt C dX2_takesStock_28 (tgt := 35) (by decide) (fun hc => ?_) (fun hc => ?_)
    · replace hK := if_po hc hK
      refine q_iconst C (v := 0) dX2_takesStock_35 (by decide) ?_
      cases hK
      exact q_zret C (Or.inl rfl) dX2_takesStock_36
    · replace hK := if_ne hc hK
      refine q_iconst C (v := 1) dX2_takesStock_31 (by decide) ?_
      refine q_goto C dX2_takesStock_32 (tgt := 36) (by decide) ?_
      cases hK
      exact q_zret C (Or.inr rfl) dX2_takesStock_36
theorem s_X2_takesStock : sv yX2_takesStock cX2_takesStock 3 (some .boolean) 1 := ⟨w_co_X2_takesStock, w_im_X2_takesStock, w_se_X2_takesStock, w_in_X2, by decide +kernel, by decide⟩
def f_X2_takesDigit (a1 : Int32) (h : PH) : Option (Int32 × PH) := bd (f_X2_isDigit a1 h) (fun r1 h2 => if r1 = 0 then some ((0 : Int32), h2) else st h2 8 4 ((h2.1 8 4) + (1 : Int32)) (fun h3 => st h3 8 5 ((((h3.1 8 5) * (10 : Int32)) + a1) - (48 : Int32)) (fun h4 => if (h4.1 8 3) = (118 : Int32) then bd (f_X2_takesValve h4) (fun r9 h10 => bz r9 (some (r9, h10))) else if (h4.1 8 3) = (108 : Int32) then bd (f_X2_takesStock (1 : Int32) h4) (fun r7 h8 => bz r7 (some (r7, h8))) else bd (f_X2_takesStock (0 : Int32) h4) (fun r5 h6 => bz r5 (some (r5, h6))))))
set_option maxHeartbeats 4000000 in
set_option maxRecDepth 100000 in
theorem c_X2_takesDigit (l : Launch) (G : GG) {a1 : Int32} {h : PH} {res : Int32 × PH} (hF : f_X2_takesDigit a1 h = some res) : MI l G yX2_takesDigit cX2_takesDigit 2 .boolean 3 [.ref (G.2.2.2.2 8), .int a1] h res := by
  unfold f_X2_takesDigit at hF
  refine MI_of (by decide +kernel) (Nat.le_of_ble_eq_true rfl) ?_
  intro p e s m args below meth c ls C hl
  have hK := hF
  clear hF
  have hl : lv_has ls 2 [(0, .ref (G.2.2.2.2 8)), (1, .int a1)] := hl
  have C : cx p s m args meth c G RX2 cX2_takesDigit 2 (some .boolean) := C
  refine q_iload_n C dX2_takesDigit_0 rfl (lv_at hl 1 rfl) ?_
  obtain ⟨r1, h2, hfr1, hK⟩ := bd_so hK
  refine q_callSi C s_X2_isDigit w_ml_X2_60 (c_X2_isDigit l G hfr1) (by decide) hl.1 rfl rfl (Nat.le_of_ble_eq_true rfl) dX2_takesDigit_1 ?_
  refine q_if_ne C dX2_takesDigit_4 (tgt := 9) (by decide) (fun hc => ?_) (fun hc => ?_)
  · replace hK := if_ne hc hK
    refine q_aload_n C dX2_takesDigit_9 rfl (lv_at hl 0 rfl) ?_
    refine q_dup C dX2_takesDigit_10 rfl ?_
    refine g_X2_partDigits C kd_8 w_fl_X2_90 dX2_takesDigit_11 ?_
    refine q_iconst C (v := 1) dX2_takesDigit_14 (by decide) ?_
    refine q_iadd C dX2_takesDigit_15 ?_
    obtain ⟨h3, hh3, hK⟩ := st_so hK
    refine p_X2_partDigits C kd_8 w_fl_X2_90 hh3 dX2_takesDigit_16 ?_
    refine q_aload_n C dX2_takesDigit_19 rfl (lv_at hl 0 rfl) ?_
    refine q_aload_n C dX2_takesDigit_20 rfl (lv_at hl 0 rfl) ?_
    refine g_X2_partNumber C kd_8 w_fl_X2_93 dX2_takesDigit_21 ?_
    refine q_bipush C (v := 10) dX2_takesDigit_24 (by decide) ?_
    refine q_imul C dX2_takesDigit_26 ?_
    refine q_iload_n C dX2_takesDigit_27 rfl (lv_at hl 1 rfl) ?_
    refine q_iadd C dX2_takesDigit_28 ?_
    refine q_bipush C (v := 48) dX2_takesDigit_29 (by decide) ?_
    refine q_isub C dX2_takesDigit_31 ?_
    obtain ⟨h4, hh4, hK⟩ := st_so hK
    refine p_X2_partNumber C kd_8 w_fl_X2_93 hh4 dX2_takesDigit_32 ?_
    refine q_aload_n C dX2_takesDigit_35 rfl (lv_at hl 0 rfl) ?_
    refine g_X2_part C kd_8 w_fl_X2_31 dX2_takesDigit_36 ?_
    refine q_bipush C (v := 118) dX2_takesDigit_39 (by decide) ?_
    refine q_icmp_ne C dX2_takesDigit_41 (tgt := 51) (by decide) (fun hc => ?_) (fun hc => ?_)
    · replace hK := if_ne hc hK
      refine q_aload_n C dX2_takesDigit_51 rfl (lv_at hl 0 rfl) ?_
      refine q_aload_n C dX2_takesDigit_52 rfl (lv_at hl 0 rfl) ?_
      refine g_X2_part C kd_8 w_fl_X2_31 dX2_takesDigit_53 ?_
      refine q_bipush C (v := 108) dX2_takesDigit_56 (by decide) ?_
      refine q_icmp_ne C dX2_takesDigit_58 (tgt := 65) (by decide) (fun hc => ?_) (fun hc => ?_)
      · replace hK := if_ne hc hK
        refine q_iconst C (v := 0) dX2_takesDigit_65 (by decide) ?_
        obtain ⟨r5, h6, hfr5, hK⟩ := bd_so hK
        refine q_callVi C s_X2_takesStock w_ml_X2_104 (c_X2_takesStock l G hfr5) kd_8 rfl (by decide) (ce_1 kd_8) (by decide) hl.1 rfl rfl (Nat.le_of_ble_eq_true rfl) dX2_takesDigit_66 ?_
        obtain ⟨hz, hK⟩ := bz_so hK
        cases hK
        exact q_zret C hz dX2_takesDigit_69
      · replace hK := if_po hc hK
        refine q_iconst C (v := 1) dX2_takesDigit_61 (by decide) ?_
        refine q_goto C dX2_takesDigit_62 (tgt := 66) (by decide) ?_
        obtain ⟨r7, h8, hfr7, hK⟩ := bd_so hK
        refine q_callVi C s_X2_takesStock w_ml_X2_104 (c_X2_takesStock l G hfr7) kd_8 rfl (by decide) (ce_1 kd_8) (by decide) hl.1 rfl rfl (Nat.le_of_ble_eq_true rfl) dX2_takesDigit_66 ?_
        obtain ⟨hz, hK⟩ := bz_so hK
        cases hK
        exact q_zret C hz dX2_takesDigit_69
    · replace hK := if_po hc hK
      refine q_aload_n C dX2_takesDigit_44 rfl (lv_at hl 0 rfl) ?_
      obtain ⟨r9, h10, hfr9, hK⟩ := bd_so hK
      refine q_callVi C s_X2_takesValve w_ml_X2_100 (c_X2_takesValve l G hfr9) kd_8 rfl (by decide) (ce_1 kd_8) (by decide) hl.1 rfl rfl (Nat.le_of_ble_eq_true rfl) dX2_takesDigit_45 ?_
      refine q_goto C dX2_takesDigit_48 (tgt := 69) (by decide) ?_
      obtain ⟨hz, hK⟩ := bz_so hK
      cases hK
      exact q_zret C hz dX2_takesDigit_69
  · replace hK := if_po hc hK
    refine q_iconst C (v := 0) dX2_takesDigit_7 (by decide) ?_
    cases hK
    exact q_zret C (Or.inl rfl) dX2_takesDigit_8
theorem s_X2_takesDigit : sv yX2_takesDigit cX2_takesDigit 2 (some .boolean) 1 := ⟨w_co_X2_takesDigit, w_im_X2_takesDigit, w_se_X2_takesDigit, w_in_X2, by decide +kernel, by decide⟩
def f_X2_takes (a1 : Int32) (h : PH) : Option (Int32 × PH) := if (11 : Int32) ≤ (h.1 8 2) then if (h.1 8 3) = 0 then bd (f_X2_takesPart a1 h) (fun r3 h4 => bz r3 (some (r3, h4))) else bd (f_X2_takesDigit a1 h) (fun r1 h2 => bz r1 (some (r1, h2))) else bd (f_X2_takesInHead a1 h) (fun r5 h6 => st h6 8 2 ((h6.1 8 2) + (1 : Int32)) (fun h7 => bz r5 (some (r5, h7))))
set_option maxHeartbeats 4000000 in
set_option maxRecDepth 100000 in
theorem c_X2_takes (l : Launch) (G : GG) {a1 : Int32} {h : PH} {res : Int32 × PH} (hF : f_X2_takes a1 h = some res) : MI l G yX2_takes cX2_takes 3 .boolean 4 [.ref (G.2.2.2.2 8), .int a1] h res := by
  unfold f_X2_takes at hF
  refine MI_of (by decide +kernel) (Nat.le_of_ble_eq_true rfl) ?_
  intro p e s m args below meth c ls C hl
  have hK := hF
  clear hF
  have hl : lv_has ls 3 [(0, .ref (G.2.2.2.2 8)), (1, .int a1)] := hl
  have C : cx p s m args meth c G RX2 cX2_takes 3 (some .boolean) := C
  refine q_aload_n C dX2_takes_0 rfl (lv_at hl 0 rfl) ?_
  refine g_X2_headTaken C kd_8 w_fl_X2_27 dX2_takes_1 ?_
  refine q_bipush C (v := 11) dX2_takes_4 (by decide) ?_
  refine q_icmp_ge C dX2_takes_6 (tgt := 27) (by decide) (fun hc => ?_) (fun hc => ?_)
  · replace hK := if_po hc hK
    refine q_aload_n C dX2_takes_27 rfl (lv_at hl 0 rfl) ?_
    refine g_X2_part C kd_8 w_fl_X2_31 dX2_takes_28 ?_
    refine q_if_ne C dX2_takes_31 (tgt := 42) (by decide) (fun hc => ?_) (fun hc => ?_)
    · replace hK := if_ne hc hK
      refine q_aload_n C dX2_takes_42 rfl (lv_at hl 0 rfl) ?_
      refine q_iload_n C dX2_takes_43 rfl (lv_at hl 1 rfl) ?_
      obtain ⟨r1, h2, hfr1, hK⟩ := bd_so hK
      refine q_callVi C s_X2_takesDigit w_ml_X2_53 (c_X2_takesDigit l G hfr1) kd_8 rfl (by decide) (ce_1 kd_8) (by decide) hl.1 rfl rfl (Nat.le_of_ble_eq_true rfl) dX2_takes_44 ?_
      obtain ⟨hz, hK⟩ := bz_so hK
      cases hK
      exact q_zret C hz dX2_takes_47
    · replace hK := if_po hc hK
      refine q_aload_n C dX2_takes_34 rfl (lv_at hl 0 rfl) ?_
      refine q_iload_n C dX2_takes_35 rfl (lv_at hl 1 rfl) ?_
      obtain ⟨r3, h4, hfr3, hK⟩ := bd_so hK
      refine q_callVi C s_X2_takesPart w_ml_X2_50 (c_X2_takesPart l G hfr3) kd_8 rfl (by decide) (ce_1 kd_8) (by decide) hl.1 rfl rfl (Nat.le_of_ble_eq_true rfl) dX2_takes_36 ?_
      refine q_goto C dX2_takes_39 (tgt := 47) (by decide) ?_
      obtain ⟨hz, hK⟩ := bz_so hK
      cases hK
      exact q_zret C hz dX2_takes_47
  · replace hK := if_ne hc hK
    refine q_aload_n C dX2_takes_9 rfl (lv_at hl 0 rfl) ?_
    refine q_iload_n C dX2_takes_10 rfl (lv_at hl 1 rfl) ?_
    obtain ⟨r5, h6, hfr5, hK⟩ := bd_so hK
    refine q_callVi C s_X2_takesInHead w_ml_X2_46 (c_X2_takesInHead l G hfr5) kd_8 rfl (by decide) (ce_1 kd_8) (by decide) hl.1 rfl rfl (Nat.le_of_ble_eq_true rfl) dX2_takes_11 ?_
    refine q_istore_n C dX2_takes_14 rfl hl (by decide) (lv2 := [(2, .int _), (0, .ref _), (1, .int _)]) rfl (fun ls hl => ?_)
    refine q_aload_n C dX2_takes_15 rfl (lv_at hl 1 rfl) ?_
    refine q_dup C dX2_takes_16 rfl ?_
    refine g_X2_headTaken C kd_8 w_fl_X2_27 dX2_takes_17 ?_
    refine q_iconst C (v := 1) dX2_takes_20 (by decide) ?_
    refine q_iadd C dX2_takes_21 ?_
    obtain ⟨h7, hh7, hK⟩ := st_so hK
    refine p_X2_headTaken C kd_8 w_fl_X2_27 hh7 dX2_takes_22 ?_
    refine q_iload_n C dX2_takes_25 rfl (lv_at hl 0 rfl) ?_
    obtain ⟨hz, hK⟩ := bz_so hK
    cases hK
    exact q_zret C hz dX2_takes_26
theorem s_X2_takes : sv yX2_takes cX2_takes 3 (some .boolean) 1 := ⟨w_co_X2_takes, w_im_X2_takes, w_se_X2_takes, w_in_X2, by decide +kernel, by decide⟩
