def f_X4_write (a1 : Int32) (h : PH) : Option (Int32 × PH) := bd (f_X4_isWithin a1 (0 : Int32) (255 : Int32) h) (fun r1 h2 => if r1 = 0 then some ((-2 : Int32), h2) else if (h2.1 0 1) < (90 : Int32) then wr h2 1 (h2.1 0 1) a1 (fun h3 => st h3 0 1 ((h3.1 0 1) + (1 : Int32)) (fun h4 => some ((h4.1 0 1), h4))) else some ((-4 : Int32), h2))
set_option maxHeartbeats 4000000 in
set_option maxRecDepth 100000 in
theorem c_X4_write (l : Launch) (G : GG) {a1 : Int32} {h : PH} {res : Int32 × PH} (hF : f_X4_write a1 h = some res) : MI l G yX4_write cX4_write 2 .int 1 [.ref (G.2.2.2.2 0), .int a1] h res := by
  unfold f_X4_write at hF
  refine MI_of (by decide +kernel) (Nat.le_of_ble_eq_true rfl) ?_
  intro p e s m args below meth c ls C hl
  have hK := hF
  clear hF
  have hl : lv_has ls 2 [(0, .ref (G.2.2.2.2 0)), (1, .int a1)] := hl
  have C : cx p s m args meth c G RX4 cX4_write 2 (some .int) := C
  refine q_iload_n C dX4_write_0 rfl (lv_at hl 1 rfl) ?_
  refine q_iconst C (v := 0) dX4_write_1 (by decide) ?_
  refine q_sipush C (v := 255) dX4_write_2 (by decide) ?_
  obtain ⟨r1, h2, hfr1, hK⟩ := bd_so hK
  refine q_callSi C s_X4_isWithin w_ml_X4_59 (c_X4_isWithin l G hfr1) (by decide) hl.1 rfl rfl (Nat.le_of_ble_eq_true rfl) dX4_write_5 ?_
  refine q_if_ne C dX4_write_8 (tgt := 14) (by decide) (fun hc => ?_) (fun hc => ?_)
  · replace hK := if_ne hc hK
    refine q_aload_n C dX4_write_14 rfl (lv_at hl 0 rfl) ?_
    refine g_X4_textLength C kd_0 w_fl_X4_63 dX4_write_15 ?_
    refine q_bipush C (v := 90) dX4_write_18 (by decide) ?_
    refine q_icmp_lt C dX4_write_20 (tgt := 26) (by decide) (fun hc => ?_) (fun hc => ?_)
    · replace hK := if_po hc hK
      refine q_aload_n C dX4_write_26 rfl (lv_at hl 0 rfl) ?_
      refine g_X4_text C kd_0 w_fl_X4_9 dX4_write_27 ?_
      refine q_aload_n C dX4_write_30 rfl (lv_at hl 0 rfl) ?_
      refine g_X4_textLength C kd_0 w_fl_X4_63 dX4_write_31 ?_
      refine q_iload_n C dX4_write_34 rfl (lv_at hl 1 rfl) ?_
      obtain ⟨h3, hh3, hK⟩ := wr_so hK
      refine q_iast C kd_1 hh3 dX4_write_35 ?_
      refine q_aload_n C dX4_write_36 rfl (lv_at hl 0 rfl) ?_
      refine q_dup C dX4_write_37 rfl ?_
      refine g_X4_textLength C kd_0 w_fl_X4_63 dX4_write_38 ?_
      refine q_iconst C (v := 1) dX4_write_41 (by decide) ?_
      refine q_iadd C dX4_write_42 ?_
      obtain ⟨h4, hh4, hK⟩ := st_so hK
      refine p_X4_textLength C kd_0 w_fl_X4_63 hh4 dX4_write_43 ?_
      refine q_aload_n C dX4_write_46 rfl (lv_at hl 0 rfl) ?_
      refine g_X4_textLength C kd_0 w_fl_X4_63 dX4_write_47 ?_
      cases hK
      exact q_iret C dX4_write_50
    · replace hK := if_ne hc hK
      refine q_bipush C (v := -4) dX4_write_23 (by decide) ?_
      cases hK
      exact q_iret C dX4_write_25
  · replace hK := if_po hc hK
    refine q_bipush C (v := -2) dX4_write_11 (by decide) ?_
    cases hK
    exact q_iret C dX4_write_13
theorem s_X4_write : sv yX4_write cX4_write 2 (some .int) 1 := ⟨w_co_X4_write, w_im_X4_write, w_se_X4_write, w_in_X4, by decide +kernel, by decide⟩
def f_X4_wipe (h : PH) : Option (Int32 × PH) := st h 0 1 (0 : Int32) (fun h1 => some ((h.1 0 1), h1))
set_option maxHeartbeats 4000000 in
set_option maxRecDepth 100000 in
theorem c_X4_wipe (l : Launch) (G : GG) {h : PH} {res : Int32 × PH} (hF : f_X4_wipe h = some res) : MI l G yX4_wipe cX4_wipe 2 .int 0 [.ref (G.2.2.2.2 0)] h res := by
  unfold f_X4_wipe at hF
  refine MI_of (by decide +kernel) (Nat.le_of_ble_eq_true rfl) ?_
  intro p e s m args below meth c ls C hl
  have hK := hF
  clear hF
  have hl : lv_has ls 2 [(0, .ref (G.2.2.2.2 0))] := hl
  have C : cx p s m args meth c G RX4 cX4_wipe 2 (some .int) := C
  refine q_aload_n C dX4_wipe_0 rfl (lv_at hl 0 rfl) ?_
  refine g_X4_textLength C kd_0 w_fl_X4_63 dX4_wipe_1 ?_
  refine q_istore_n C dX4_wipe_4 rfl hl (by decide) (lv2 := [(1, .int _), (0, .ref _)]) rfl (fun ls hl => ?_)
  refine q_aload_n C dX4_wipe_5 rfl (lv_at hl 1 rfl) ?_
  refine q_iconst C (v := 0) dX4_wipe_6 (by decide) ?_
  obtain ⟨h1, hh1, hK⟩ := st_so hK
  refine p_X4_textLength C kd_0 w_fl_X4_63 hh1 dX4_wipe_7 ?_
  refine q_iload_n C dX4_wipe_10 rfl (lv_at hl 0 rfl) ?_
  cases hK
  exact q_iret C dX4_wipe_11
theorem s_X4_wipe : sv yX4_wipe cX4_wipe 2 (some .int) 0 := ⟨w_co_X4_wipe, w_im_X4_wipe, w_se_X4_wipe, w_in_X4, by decide +kernel, by decide⟩
def f_X4_readText_b9 : Nat → Int32 → PH → Option (Int32 × PH)
  | 0, _, _ => none
  | n + 1, v1, h => if (h.1 0 1) ≤ v1 then bd (f_X2_isComplete h) (fun r3 h4 => if r3 = 0 then some ((h4.1 0 1), h4) else some ((-9 : Int32), h4)) else rd h 1 v1 (fun x5 => bd (f_X2_takes x5 h) (fun r6 h7 => if r6 = 0 then some (v1, h7) else (f_X4_readText_b9 n) (v1 + 1) h7))
set_option maxHeartbeats 4000000 in
set_option maxRecDepth 100000 in
theorem t_X4_readText_b9 {p : Program} {l : Launch} {e : Env} {s : State} {m : MethodId} {args : Array Value} {below : List Frame} {meth : Method} {c : Code} {G : GG} {res : Int32 × PH} (C : cx p s m args meth c G RX4 cX4_readText 2 (some .int)) (n : Nat) : ∀ (v1 : Int32) (h : PH) (ls : Array Slot), lv_has ls 2 [(0, .ref (G.2.2.2.2 0)), (1, .int v1)] → f_X4_readText_b9 n v1 h = some res → WW p l e 5 s m args below meth c G h (MQ below (QI G res) args s 0 0 (Ar G)) (F0 m 9 ls []) := by
  induction n with
  | zero => intro v1 h ls hl hK; cases hK
  | succ n ih =>
    intro v1 h ls hl hK
    unfold f_X4_readText_b9 at hK
    refine q_iload_n C dX4_readText_9 rfl (lv_at hl 1 rfl) ?_
    refine q_aload_n C dX4_readText_10 rfl (lv_at hl 0 rfl) ?_
    refine g_X4_textLength C kd_0 w_fl_X4_63 dX4_readText_11 ?_
    refine q_icmp_ge C dX4_readText_14 (tgt := 41) (by decide) (fun hc => ?_) (fun hc => ?_)
    · replace hK := if_po hc hK
      refine q_aload_n C dX4_readText_41 rfl (lv_at hl 0 rfl) ?_
      refine g_X4_reader C kd_0 w_fl_X4_16 dX4_readText_42 ?_
      obtain ⟨r3, h4, hfr3, hK⟩ := bd_so hK
      refine q_callVi C s_X2_isComplete w_ml_X4_271 (c_X2_isComplete l G hfr3) kd_8 rfl (by decide) (ce_1 kd_8) (by decide) hl.1 rfl rfl (Nat.le_of_ble_eq_true rfl) dX4_readText_45 ?_
      refine q_if_eq C dX4_readText_48 (tgt := 56) (by decide) (fun hc => ?_) (fun hc => ?_)
      · replace hK := if_po hc hK
        refine q_aload_n C dX4_readText_56 rfl (lv_at hl 0 rfl) ?_
        refine g_X4_textLength C kd_0 w_fl_X4_63 dX4_readText_57 ?_
        cases hK
        exact q_iret C dX4_readText_60
      · replace hK := if_ne hc hK
        refine q_bipush C (v := -9) dX4_readText_51 (by decide) ?_
        refine q_goto C dX4_readText_53 (tgt := 60) (by decide) ?_
        cases hK
        exact q_iret C dX4_readText_60
    · replace hK := if_ne hc hK
      refine q_aload_n C dX4_readText_17 rfl (lv_at hl 0 rfl) ?_
      refine g_X4_reader C kd_0 w_fl_X4_16 dX4_readText_18 ?_
      refine q_aload_n C dX4_readText_21 rfl (lv_at hl 0 rfl) ?_
      refine g_X4_text C kd_0 w_fl_X4_9 dX4_readText_22 ?_
      refine q_iload_n C dX4_readText_25 rfl (lv_at hl 1 rfl) ?_
      obtain ⟨x5, hx5, hK⟩ := rd_so hK
      refine q_iald C kd_1 hx5 dX4_readText_26 ?_
      obtain ⟨r6, h7, hfr6, hK⟩ := bd_so hK
      refine q_callVi C s_X2_takes w_ml_X4_268 (c_X2_takes l G hfr6) kd_8 rfl (by decide) (ce_1 kd_8) (by decide) hl.1 rfl rfl (Nat.le_of_ble_eq_true rfl) dX4_readText_27 ?_
      refine q_if_ne C dX4_readText_30 (tgt := 35) (by decide) (fun hc => ?_) (fun hc => ?_)
      · replace hK := if_ne hc hK
        refine q_iinc C dX4_readText_35 hl (j := 1) (v := (v1 + 1)) rfl rfl (by decide) (lv2 := [(1, .int _), (0, .ref _)]) rfl (fun ls hl => ?_)
        refine q_goto C dX4_readText_38 (tgt := 9) (by decide) ?_
        exact ih _ _ _ (lv_sub hl [1, 0] rfl) hK
      · replace hK := if_po hc hK
        refine q_iload_n C dX4_readText_33 rfl (lv_at hl 1 rfl) ?_
        cases hK
        exact q_iret C dX4_readText_34
def f_X4_readText (h : PH) : Option (Int32 × PH) := bd (f_X2_begin h) (fun _ h2 => f_X4_readText_b9 200 (0 : Int32) h2)
set_option maxHeartbeats 4000000 in
set_option maxRecDepth 100000 in
theorem c_X4_readText (l : Launch) (G : GG) {h : PH} {res : Int32 × PH} (hF : f_X4_readText h = some res) : MI l G yX4_readText cX4_readText 2 .int 5 [.ref (G.2.2.2.2 0)] h res := by
  unfold f_X4_readText at hF
  refine MI_of (by decide +kernel) (Nat.le_of_ble_eq_true rfl) ?_
  intro p e s m args below meth c ls C hl
  have hK := hF
  clear hF
  have hl : lv_has ls 2 [(0, .ref (G.2.2.2.2 0))] := hl
  have C : cx p s m args meth c G RX4 cX4_readText 2 (some .int) := C
  refine q_aload_n C dX4_readText_0 rfl (lv_at hl 0 rfl) ?_
  refine g_X4_reader C kd_0 w_fl_X4_16 dX4_readText_1 ?_
  obtain ⟨r1, h2, hfr1, hK⟩ := bd_so hK
  refine q_callVv C s_X2_begin w_ml_X4_265 (c_X2_begin l G hfr1) kd_8 rfl (by decide) (ce_1 kd_8) (by decide) hl.1 rfl rfl (Nat.le_of_ble_eq_true rfl) dX4_readText_4 ?_
  refine q_iconst C (v := 0) dX4_readText_7 (by decide) ?_
  refine q_istore_n C dX4_readText_8 rfl hl (by decide) (lv2 := [(1, .int _), (0, .ref _)]) rfl (fun ls hl => ?_)
  exact t_X4_readText_b9 C 200 _ _ _ (lv_sub hl [1, 0] rfl) hK
theorem s_X4_readText : sv yX4_readText cX4_readText 2 (some .int) 0 := ⟨w_co_X4_readText, w_im_X4_readText, w_se_X4_readText, w_in_X4, by decide +kernel, by decide⟩
def f_X4_fault (h : PH) : Option (Int32 × PH) := bd (f_X4_readText h) (fun r1 h2 => some (r1, h2))
set_option maxHeartbeats 4000000 in
set_option maxRecDepth 100000 in
theorem c_X4_fault (l : Launch) (G : GG) {h : PH} {res : Int32 × PH} (hF : f_X4_fault h = some res) : MI l G yX4_fault cX4_fault 1 .int 6 [.ref (G.2.2.2.2 0)] h res := by
  unfold f_X4_fault at hF
  refine MI_of (by decide +kernel) (Nat.le_of_ble_eq_true rfl) ?_
  intro p e s m args below meth c ls C hl
  have hK := hF
  clear hF
  have hl : lv_has ls 1 [(0, .ref (G.2.2.2.2 0))] := hl
  have C : cx p s m args meth c G RX4 cX4_fault 1 (some .int) := C
  refine q_aload_n C dX4_fault_0 rfl (lv_at hl 0 rfl) ?_
  obtain ⟨r1, h2, hfr1, hK⟩ := bd_so hK
  refine q_callVi C s_X4_readText w_ml_X4_67 (c_X4_readText l G hfr1) kd_0 rfl (by decide) (ce_3 kd_0) (by decide) hl.1 rfl rfl (Nat.le_of_ble_eq_true rfl) dX4_fault_1 ?_
  cases hK
  exact q_iret C dX4_fault_4
theorem s_X4_fault : sv yX4_fault cX4_fault 1 (some .int) 0 := ⟨w_co_X4_fault, w_im_X4_fault, w_se_X4_fault, w_in_X4, by decide +kernel, by decide⟩
def f_X4_forgetActs (h : PH) : Option (Unit × PH) := st h 0 7 (0 : Int32) (fun h1 => some ((), h1))
set_option maxHeartbeats 4000000 in
set_option maxRecDepth 100000 in
theorem c_X4_forgetActs (l : Launch) (G : GG) {h : PH} {res : Unit × PH} (hF : f_X4_forgetActs h = some res) : MV l G yX4_forgetActs cX4_forgetActs 1 0 [.ref (G.2.2.2.2 0)] h res := by
  unfold f_X4_forgetActs at hF
  refine MV_of (by decide +kernel) (Nat.le_of_ble_eq_true rfl) ?_
  intro p e s m args below meth c ls C hl
  have hK := hF
  clear hF
  have hl : lv_has ls 1 [(0, .ref (G.2.2.2.2 0))] := hl
  have C : cx p s m args meth c G RX4 cX4_forgetActs 1 none := C
  refine q_aload_n C dX4_forgetActs_0 rfl (lv_at hl 0 rfl) ?_
  refine q_iconst C (v := 0) dX4_forgetActs_1 (by decide) ?_
  obtain ⟨h1, hh1, hK⟩ := st_so hK
  refine p_X4_pastCount C kd_0 w_fl_X4_99 hh1 dX4_forgetActs_2 ?_
  cases hK
  exact q_vret C dX4_forgetActs_5
theorem s_X4_forgetActs : sv yX4_forgetActs cX4_forgetActs 1 none 0 := ⟨w_co_X4_forgetActs, w_im_X4_forgetActs, w_se_X4_forgetActs, w_in_X4, by decide +kernel, by decide⟩
def f_X4_line_b46 : Nat → Int32 → PH → Option (Int32 × PH)
  | 0, _, _ => none
  | n + 1, v1, h => if (2 : Int32) ≤ v1 then some ((h.1 12 5), h) else wr h 4 v1 (0 : Int32) (fun h9 => (f_X4_line_b46 n) (v1 + 1) h9)
set_option maxHeartbeats 4000000 in
set_option maxRecDepth 100000 in
theorem t_X4_line_b46 {p : Program} {l : Launch} {e : Env} {s : State} {m : MethodId} {args : Array Value} {below : List Frame} {meth : Method} {c : Code} {G : GG} {res : Int32 × PH} (C : cx p s m args meth c G RX4 cX4_line 2 (some .int)) (n : Nat) : ∀ (v1 : Int32) (h : PH) (ls : Array Slot), lv_has ls 2 [(0, .ref (G.2.2.2.2 0)), (1, .int v1)] → f_X4_line_b46 n v1 h = some res → WW p l e 6 s m args below meth c G h (MQ below (QI G res) args s 0 0 (Ar G)) (F0 m 46 ls []) := by
  induction n with
  | zero => intro v1 h ls hl hK; cases hK
  | succ n ih =>
    intro v1 h ls hl hK
    unfold f_X4_line_b46 at hK
    refine q_iload_n C dX4_line_46 rfl (lv_at hl 1 rfl) ?_
    refine q_iconst C (v := 2) dX4_line_47 (by decide) ?_
    refine q_icmp_ge C dX4_line_48 (tgt := 64) (by decide) (fun hc => ?_) (fun hc => ?_)
    · replace hK := if_po hc hK
      refine q_aload_n C dX4_line_64 rfl (lv_at hl 0 rfl) ?_
      refine g_X4_plan C kd_0 w_fl_X4_23 dX4_line_65 ?_
      refine g_X1_valves C kd_12 w_fl_X4_84 dX4_line_68 ?_
      cases hK
      exact q_iret C dX4_line_71
    · replace hK := if_ne hc hK
      refine q_aload_n C dX4_line_51 rfl (lv_at hl 0 rfl) ?_
      refine g_X4_isKept C kd_0 w_fl_X4_46 dX4_line_52 ?_
      refine q_iload_n C dX4_line_55 rfl (lv_at hl 1 rfl) ?_
      refine q_iconst C (v := 0) dX4_line_56 (by decide) ?_
      obtain ⟨h9, hh9, hK⟩ := wr_so hK
      refine q_zast C kd_4 (Or.inl rfl) hh9 dX4_line_57 ?_
      refine q_iinc C dX4_line_58 hl (j := 1) (v := (v1 + 1)) rfl rfl (by decide) (lv2 := [(1, .int _), (0, .ref _)]) rfl (fun ls hl => ?_)
      refine q_goto C dX4_line_61 (tgt := 46) (by decide) ?_
      exact ih _ _ _ (lv_sub hl [1, 0] rfl) hK
def f_X4_line (h : PH) : Option (Int32 × PH) := bd (f_X4_readText h) (fun r1 h2 => if r1 = (-9 : Int32) then bd (f_X1_copyFrom 12 9 h2) (fun _ h4 => bd (f_X3_copyFrom 20 15 h4) (fun _ h6 => bd (f_X4_forgetActs h6) (fun _ h8 => f_X4_line_b46 200 (0 : Int32) h8))) else some ((-3 : Int32), h2))
set_option maxHeartbeats 4000000 in
set_option maxRecDepth 100000 in
theorem c_X4_line (l : Launch) (G : GG) {h : PH} {res : Int32 × PH} (hF : f_X4_line h = some res) : MI l G yX4_line cX4_line 2 .int 6 [.ref (G.2.2.2.2 0)] h res := by
  unfold f_X4_line at hF
  refine MI_of (by decide +kernel) (Nat.le_of_ble_eq_true rfl) ?_
  intro p e s m args below meth c ls C hl
  have hK := hF
  clear hF
  have hl : lv_has ls 2 [(0, .ref (G.2.2.2.2 0))] := hl
  have C : cx p s m args meth c G RX4 cX4_line 2 (some .int) := C
  refine q_aload_n C dX4_line_0 rfl (lv_at hl 0 rfl) ?_
  obtain ⟨r1, h2, hfr1, hK⟩ := bd_so hK
  refine q_callVi C s_X4_readText w_ml_X4_67 (c_X4_readText l G hfr1) kd_0 rfl (by decide) (ce_3 kd_0) (by decide) hl.1 rfl rfl (Nat.le_of_ble_eq_true rfl) dX4_line_1 ?_
  refine q_bipush C (v := -9) dX4_line_4 (by decide) ?_
  refine q_icmp_eq C dX4_line_6 (tgt := 12) (by decide) (fun hc => ?_) (fun hc => ?_)
  · replace hK := if_po hc hK
    refine q_aload_n C dX4_line_12 rfl (lv_at hl 0 rfl) ?_
    refine g_X4_plan C kd_0 w_fl_X4_23 dX4_line_13 ?_
    refine q_aload_n C dX4_line_16 rfl (lv_at hl 0 rfl) ?_
    refine g_X4_reader C kd_0 w_fl_X4_16 dX4_line_17 ?_
    refine g_X2_plan C kd_8 w_fl_X4_71 dX4_line_20 ?_
    obtain ⟨r3, h4, hfr3, hK⟩ := bd_so hK
    refine q_callVv C s_X1_copyFrom w_ml_X4_72 (c_X1_copyFrom l G hfr3) kd_12 rfl (by decide) (ce_0 kd_12) (by decide) hl.1 rfl rfl (Nat.le_of_ble_eq_true rfl) dX4_line_23 ?_
    refine q_aload_n C dX4_line_26 rfl (lv_at hl 0 rfl) ?_
    refine g_X4_now C kd_0 w_fl_X4_32 dX4_line_27 ?_
    refine q_aload_n C dX4_line_30 rfl (lv_at hl 0 rfl) ?_
    refine g_X4_reader C kd_0 w_fl_X4_16 dX4_line_31 ?_
    refine g_X2_start C kd_8 w_fl_X4_75 dX4_line_34 ?_
    obtain ⟨r5, h6, hfr5, hK⟩ := bd_so hK
    refine q_callVv C s_X3_copyFrom w_ml_X4_78 (c_X3_copyFrom l G hfr5) kd_20 rfl (by decide) (ce_2 kd_20) (by decide) hl.1 rfl rfl (Nat.le_of_ble_eq_true rfl) dX4_line_37 ?_
    refine q_aload_n C dX4_line_40 rfl (lv_at hl 0 rfl) ?_
    obtain ⟨r7, h8, hfr7, hK⟩ := bd_so hK
    refine q_callVv C s_X4_forgetActs w_ml_X4_81 (c_X4_forgetActs l G hfr7) kd_0 rfl (by decide) (ce_3 kd_0) (by decide) hl.1 rfl rfl (Nat.le_of_ble_eq_true rfl) dX4_line_41 ?_
    refine q_iconst C (v := 0) dX4_line_44 (by decide) ?_
    refine q_istore_n C dX4_line_45 rfl hl (by decide) (lv2 := [(1, .int _), (0, .ref _)]) rfl (fun ls hl => ?_)
    exact t_X4_line_b46 C 200 _ _ _ (lv_sub hl [1, 0] rfl) hK
  · replace hK := if_ne hc hK
    refine q_bipush C (v := -3) dX4_line_9 (by decide) ?_
    cases hK
    exact q_iret C dX4_line_11
theorem s_X4_line : sv yX4_line cX4_line 2 (some .int) 0 := ⟨w_co_X4_line, w_im_X4_line, w_se_X4_line, w_in_X4, by decide +kernel, by decide⟩
def f_X4_about (a1 : Int32) (h : PH) : Option (Int32 × PH) := if a1 = 0 then some ((h.1 12 0), h) else if a1 = 1 then some ((h.1 12 5), h) else if a1 = 2 then some ((h.1 12 2), h) else if a1 = 3 then some ((h.1 12 3), h) else if a1 = 4 then some ((h.1 12 4), h) else if a1 = 5 then bd (f_X3_number 20 a1 h) (fun r1 h2 => some (r1, h2)) else if a1 = 6 then bd (f_X3_number 20 a1 h) (fun r3 h4 => some (r3, h4)) else if a1 = 7 then bd (f_X3_number 20 a1 h) (fun r5 h6 => some (r5, h6)) else if a1 = 8 then bd (f_X3_number 20 a1 h) (fun r7 h8 => some (r7, h8)) else if a1 = 9 then bd (f_X3_number 20 a1 h) (fun r9 h10 => some (r9, h10)) else if a1 = 10 then bd (f_X3_number 20 a1 h) (fun r11 h12 => some (r11, h12)) else if a1 = 11 then bd (f_X3_number 20 a1 h) (fun r13 h14 => some (r13, h14)) else if a1 = 12 then bd (f_X3_number 20 a1 h) (fun r15 h16 => some (r15, h16)) else if a1 = 13 then bd (f_X3_number 20 a1 h) (fun r17 h18 => some (r17, h18)) else if a1 = 14 then bd (f_X3_number 20 a1 h) (fun r19 h20 => some (r19, h20)) else if a1 = 15 then bd (f_X3_number 20 a1 h) (fun r21 h22 => some (r21, h22)) else if a1 = 16 then bd (f_X3_number 20 a1 h) (fun r23 h24 => some (r23, h24)) else if a1 = 17 then bd (f_X3_number 20 a1 h) (fun r25 h26 => some (r25, h26)) else if a1 = 18 then some ((h.1 0 7), h) else if a1 = 19 then some ((h.1 0 14), h) else if a1 = 20 then some ((h.1 0 1), h) else bd (f_X3_number 20 a1 h) (fun r27 h28 => some (r27, h28))
set_option maxHeartbeats 4000000 in
set_option maxRecDepth 100000 in
theorem c_X4_about (l : Launch) (G : GG) {a1 : Int32} {h : PH} {res : Int32 × PH} (hF : f_X4_about a1 h = some res) : MI l G yX4_about cX4_about 2 .int 2 [.ref (G.2.2.2.2 0), .int a1] h res := by
  unfold f_X4_about at hF
  refine MI_of (by decide +kernel) (Nat.le_of_ble_eq_true rfl) ?_
  intro p e s m args below meth c ls C hl
  have hK := hF
  clear hF
  have hl : lv_has ls 2 [(0, .ref (G.2.2.2.2 0)), (1, .int a1)] := hl
  have C : cx p s m args meth c G RX4 cX4_about 2 (some .int) := C
  refine q_iload_n C dX4_about_0 rfl (lv_at hl 1 rfl) ?_
  by_cases hc0 : a1 = 0
  · replace hK := if_po hc0 hK
    refine q_tsIn C 0 hc0 dX4_about_1 (off := 99) (by decide) (tgt := 100) (by decide) ?_
    refine q_aload_n C dX4_about_100 rfl (lv_at hl 0 rfl) ?_
    refine g_X4_plan C kd_0 w_fl_X4_23 dX4_about_101 ?_
    refine g_X1_cells C kd_12 w_fl_X4_87 dX4_about_104 ?_
    cases hK
    exact q_iret C dX4_about_107
  · replace hK := if_ne hc0 hK
    by_cases hc1 : a1 = 1
    · replace hK := if_po hc1 hK
      refine q_tsIn C 1 hc1 dX4_about_1 (off := 107) (by decide) (tgt := 108) (by decide) ?_
      refine q_aload_n C dX4_about_108 rfl (lv_at hl 0 rfl) ?_
      refine g_X4_plan C kd_0 w_fl_X4_23 dX4_about_109 ?_
      refine g_X1_valves C kd_12 w_fl_X4_84 dX4_about_112 ?_
      cases hK
      exact q_iret C dX4_about_115
    · replace hK := if_ne hc1 hK
      by_cases hc2 : a1 = 2
      · replace hK := if_po hc2 hK
        refine q_tsIn C 2 hc2 dX4_about_1 (off := 115) (by decide) (tgt := 116) (by decide) ?_
        refine q_aload_n C dX4_about_116 rfl (lv_at hl 0 rfl) ?_
        refine g_X4_plan C kd_0 w_fl_X4_23 dX4_about_117 ?_
        refine g_X1_target C kd_12 w_fl_X4_90 dX4_about_120 ?_
        cases hK
        exact q_iret C dX4_about_123
      · replace hK := if_ne hc2 hK
        by_cases hc3 : a1 = 3
        · replace hK := if_po hc3 hK
          refine q_tsIn C 3 hc3 dX4_about_1 (off := 123) (by decide) (tgt := 124) (by decide) ?_
          refine q_aload_n C dX4_about_124 rfl (lv_at hl 0 rfl) ?_
          refine g_X4_plan C kd_0 w_fl_X4_23 dX4_about_125 ?_
          refine g_X1_tolerance C kd_12 w_fl_X4_93 dX4_about_128 ?_
          cases hK
          exact q_iret C dX4_about_131
        · replace hK := if_ne hc3 hK
          by_cases hc4 : a1 = 4
          · replace hK := if_po hc4 hK
            refine q_tsIn C 4 hc4 dX4_about_1 (off := 131) (by decide) (tgt := 132) (by decide) ?_
            refine q_aload_n C dX4_about_132 rfl (lv_at hl 0 rfl) ?_
            refine g_X4_plan C kd_0 w_fl_X4_23 dX4_about_133 ?_
            refine g_X1_each C kd_12 w_fl_X4_96 dX4_about_136 ?_
            cases hK
            exact q_iret C dX4_about_139
          · replace hK := if_ne hc4 hK
            by_cases hc5 : a1 = 5
            · replace hK := if_po hc5 hK
              refine q_tsIn C 5 hc5 dX4_about_1 (off := 154) (by decide) (tgt := 155) (by decide) ?_
              refine q_aload_n C dX4_about_155 rfl (lv_at hl 0 rfl) ?_
              refine g_X4_now C kd_0 w_fl_X4_32 dX4_about_156 ?_
              refine q_iload_n C dX4_about_159 rfl (lv_at hl 1 rfl) ?_
              obtain ⟨r1, h2, hfr1, hK⟩ := bd_so hK
              refine q_callVi C s_X3_number w_ml_X4_105 (c_X3_number l G hfr1) kd_20 rfl (by decide) (ce_2 kd_20) (by decide) hl.1 rfl rfl (Nat.le_of_ble_eq_true rfl) dX4_about_160 ?_
              cases hK
              exact q_iret C dX4_about_163
            · replace hK := if_ne hc5 hK
              by_cases hc6 : a1 = 6
              · replace hK := if_po hc6 hK
                refine q_tsIn C 6 hc6 dX4_about_1 (off := 154) (by decide) (tgt := 155) (by decide) ?_
                refine q_aload_n C dX4_about_155 rfl (lv_at hl 0 rfl) ?_
                refine g_X4_now C kd_0 w_fl_X4_32 dX4_about_156 ?_
                refine q_iload_n C dX4_about_159 rfl (lv_at hl 1 rfl) ?_
                obtain ⟨r3, h4, hfr3, hK⟩ := bd_so hK
                refine q_callVi C s_X3_number w_ml_X4_105 (c_X3_number l G hfr3) kd_20 rfl (by decide) (ce_2 kd_20) (by decide) hl.1 rfl rfl (Nat.le_of_ble_eq_true rfl) dX4_about_160 ?_
                cases hK
                exact q_iret C dX4_about_163
              · replace hK := if_ne hc6 hK
                by_cases hc7 : a1 = 7
                · replace hK := if_po hc7 hK
                  refine q_tsIn C 7 hc7 dX4_about_1 (off := 154) (by decide) (tgt := 155) (by decide) ?_
                  refine q_aload_n C dX4_about_155 rfl (lv_at hl 0 rfl) ?_
                  refine g_X4_now C kd_0 w_fl_X4_32 dX4_about_156 ?_
                  refine q_iload_n C dX4_about_159 rfl (lv_at hl 1 rfl) ?_
                  obtain ⟨r5, h6, hfr5, hK⟩ := bd_so hK
                  refine q_callVi C s_X3_number w_ml_X4_105 (c_X3_number l G hfr5) kd_20 rfl (by decide) (ce_2 kd_20) (by decide) hl.1 rfl rfl (Nat.le_of_ble_eq_true rfl) dX4_about_160 ?_
                  cases hK
                  exact q_iret C dX4_about_163
                · replace hK := if_ne hc7 hK
                  by_cases hc8 : a1 = 8
                  · replace hK := if_po hc8 hK
                    refine q_tsIn C 8 hc8 dX4_about_1 (off := 154) (by decide) (tgt := 155) (by decide) ?_
                    refine q_aload_n C dX4_about_155 rfl (lv_at hl 0 rfl) ?_
                    refine g_X4_now C kd_0 w_fl_X4_32 dX4_about_156 ?_
                    refine q_iload_n C dX4_about_159 rfl (lv_at hl 1 rfl) ?_
                    obtain ⟨r7, h8, hfr7, hK⟩ := bd_so hK
                    refine q_callVi C s_X3_number w_ml_X4_105 (c_X3_number l G hfr7) kd_20 rfl (by decide) (ce_2 kd_20) (by decide) hl.1 rfl rfl (Nat.le_of_ble_eq_true rfl) dX4_about_160 ?_
                    cases hK
                    exact q_iret C dX4_about_163
                  · replace hK := if_ne hc8 hK
                    by_cases hc9 : a1 = 9
                    · replace hK := if_po hc9 hK
                      refine q_tsIn C 9 hc9 dX4_about_1 (off := 154) (by decide) (tgt := 155) (by decide) ?_
                      refine q_aload_n C dX4_about_155 rfl (lv_at hl 0 rfl) ?_
                      refine g_X4_now C kd_0 w_fl_X4_32 dX4_about_156 ?_
                      refine q_iload_n C dX4_about_159 rfl (lv_at hl 1 rfl) ?_
                      obtain ⟨r9, h10, hfr9, hK⟩ := bd_so hK
                      refine q_callVi C s_X3_number w_ml_X4_105 (c_X3_number l G hfr9) kd_20 rfl (by decide) (ce_2 kd_20) (by decide) hl.1 rfl rfl (Nat.le_of_ble_eq_true rfl) dX4_about_160 ?_
                      cases hK
                      exact q_iret C dX4_about_163
                    · replace hK := if_ne hc9 hK
                      by_cases hc10 : a1 = 10
                      · replace hK := if_po hc10 hK
                        refine q_tsIn C 10 hc10 dX4_about_1 (off := 154) (by decide) (tgt := 155) (by decide) ?_
                        refine q_aload_n C dX4_about_155 rfl (lv_at hl 0 rfl) ?_
                        refine g_X4_now C kd_0 w_fl_X4_32 dX4_about_156 ?_
                        refine q_iload_n C dX4_about_159 rfl (lv_at hl 1 rfl) ?_
                        obtain ⟨r11, h12, hfr11, hK⟩ := bd_so hK
                        refine q_callVi C s_X3_number w_ml_X4_105 (c_X3_number l G hfr11) kd_20 rfl (by decide) (ce_2 kd_20) (by decide) hl.1 rfl rfl (Nat.le_of_ble_eq_true rfl) dX4_about_160 ?_
                        cases hK
                        exact q_iret C dX4_about_163
                      · replace hK := if_ne hc10 hK
                        by_cases hc11 : a1 = 11
                        · replace hK := if_po hc11 hK
                          refine q_tsIn C 11 hc11 dX4_about_1 (off := 154) (by decide) (tgt := 155) (by decide) ?_
                          refine q_aload_n C dX4_about_155 rfl (lv_at hl 0 rfl) ?_
                          refine g_X4_now C kd_0 w_fl_X4_32 dX4_about_156 ?_
                          refine q_iload_n C dX4_about_159 rfl (lv_at hl 1 rfl) ?_
                          obtain ⟨r13, h14, hfr13, hK⟩ := bd_so hK
                          refine q_callVi C s_X3_number w_ml_X4_105 (c_X3_number l G hfr13) kd_20 rfl (by decide) (ce_2 kd_20) (by decide) hl.1 rfl rfl (Nat.le_of_ble_eq_true rfl) dX4_about_160 ?_
                          cases hK
                          exact q_iret C dX4_about_163
                        · replace hK := if_ne hc11 hK
                          by_cases hc12 : a1 = 12
                          · replace hK := if_po hc12 hK
                            refine q_tsIn C 12 hc12 dX4_about_1 (off := 154) (by decide) (tgt := 155) (by decide) ?_
                            refine q_aload_n C dX4_about_155 rfl (lv_at hl 0 rfl) ?_
                            refine g_X4_now C kd_0 w_fl_X4_32 dX4_about_156 ?_
                            refine q_iload_n C dX4_about_159 rfl (lv_at hl 1 rfl) ?_
                            obtain ⟨r15, h16, hfr15, hK⟩ := bd_so hK
                            refine q_callVi C s_X3_number w_ml_X4_105 (c_X3_number l G hfr15) kd_20 rfl (by decide) (ce_2 kd_20) (by decide) hl.1 rfl rfl (Nat.le_of_ble_eq_true rfl) dX4_about_160 ?_
                            cases hK
                            exact q_iret C dX4_about_163
                          · replace hK := if_ne hc12 hK
                            by_cases hc13 : a1 = 13
                            · replace hK := if_po hc13 hK
                              refine q_tsIn C 13 hc13 dX4_about_1 (off := 154) (by decide) (tgt := 155) (by decide) ?_
                              refine q_aload_n C dX4_about_155 rfl (lv_at hl 0 rfl) ?_
                              refine g_X4_now C kd_0 w_fl_X4_32 dX4_about_156 ?_
                              refine q_iload_n C dX4_about_159 rfl (lv_at hl 1 rfl) ?_
                              obtain ⟨r17, h18, hfr17, hK⟩ := bd_so hK
                              refine q_callVi C s_X3_number w_ml_X4_105 (c_X3_number l G hfr17) kd_20 rfl (by decide) (ce_2 kd_20) (by decide) hl.1 rfl rfl (Nat.le_of_ble_eq_true rfl) dX4_about_160 ?_
                              cases hK
                              exact q_iret C dX4_about_163
                            · replace hK := if_ne hc13 hK
                              by_cases hc14 : a1 = 14
                              · replace hK := if_po hc14 hK
                                refine q_tsIn C 14 hc14 dX4_about_1 (off := 154) (by decide) (tgt := 155) (by decide) ?_
                                refine q_aload_n C dX4_about_155 rfl (lv_at hl 0 rfl) ?_
                                refine g_X4_now C kd_0 w_fl_X4_32 dX4_about_156 ?_
                                refine q_iload_n C dX4_about_159 rfl (lv_at hl 1 rfl) ?_
                                obtain ⟨r19, h20, hfr19, hK⟩ := bd_so hK
                                refine q_callVi C s_X3_number w_ml_X4_105 (c_X3_number l G hfr19) kd_20 rfl (by decide) (ce_2 kd_20) (by decide) hl.1 rfl rfl (Nat.le_of_ble_eq_true rfl) dX4_about_160 ?_
                                cases hK
                                exact q_iret C dX4_about_163
                              · replace hK := if_ne hc14 hK
                                by_cases hc15 : a1 = 15
                                · replace hK := if_po hc15 hK
                                  refine q_tsIn C 15 hc15 dX4_about_1 (off := 154) (by decide) (tgt := 155) (by decide) ?_
                                  refine q_aload_n C dX4_about_155 rfl (lv_at hl 0 rfl) ?_
                                  refine g_X4_now C kd_0 w_fl_X4_32 dX4_about_156 ?_
                                  refine q_iload_n C dX4_about_159 rfl (lv_at hl 1 rfl) ?_
                                  obtain ⟨r21, h22, hfr21, hK⟩ := bd_so hK
                                  refine q_callVi C s_X3_number w_ml_X4_105 (c_X3_number l G hfr21) kd_20 rfl (by decide) (ce_2 kd_20) (by decide) hl.1 rfl rfl (Nat.le_of_ble_eq_true rfl) dX4_about_160 ?_
                                  cases hK
                                  exact q_iret C dX4_about_163
                                · replace hK := if_ne hc15 hK
                                  by_cases hc16 : a1 = 16
                                  · replace hK := if_po hc16 hK
                                    refine q_tsIn C 16 hc16 dX4_about_1 (off := 154) (by decide) (tgt := 155) (by decide) ?_
                                    refine q_aload_n C dX4_about_155 rfl (lv_at hl 0 rfl) ?_
                                    refine g_X4_now C kd_0 w_fl_X4_32 dX4_about_156 ?_
                                    refine q_iload_n C dX4_about_159 rfl (lv_at hl 1 rfl) ?_
                                    obtain ⟨r23, h24, hfr23, hK⟩ := bd_so hK
                                    refine q_callVi C s_X3_number w_ml_X4_105 (c_X3_number l G hfr23) kd_20 rfl (by decide) (ce_2 kd_20) (by decide) hl.1 rfl rfl (Nat.le_of_ble_eq_true rfl) dX4_about_160 ?_
                                    cases hK
                                    exact q_iret C dX4_about_163
                                  · replace hK := if_ne hc16 hK
                                    by_cases hc17 : a1 = 17
                                    · replace hK := if_po hc17 hK
                                      refine q_tsIn C 17 hc17 dX4_about_1 (off := 154) (by decide) (tgt := 155) (by decide) ?_
                                      refine q_aload_n C dX4_about_155 rfl (lv_at hl 0 rfl) ?_
                                      refine g_X4_now C kd_0 w_fl_X4_32 dX4_about_156 ?_
                                      refine q_iload_n C dX4_about_159 rfl (lv_at hl 1 rfl) ?_
                                      obtain ⟨r25, h26, hfr25, hK⟩ := bd_so hK
                                      refine q_callVi C s_X3_number w_ml_X4_105 (c_X3_number l G hfr25) kd_20 rfl (by decide) (ce_2 kd_20) (by decide) hl.1 rfl rfl (Nat.le_of_ble_eq_true rfl) dX4_about_160 ?_
                                      cases hK
                                      exact q_iret C dX4_about_163
                                    · replace hK := if_ne hc17 hK
                                      by_cases hc18 : a1 = 18
                                      · replace hK := if_po hc18 hK
                                        refine q_tsIn C 18 hc18 dX4_about_1 (off := 139) (by decide) (tgt := 140) (by decide) ?_
                                        refine q_aload_n C dX4_about_140 rfl (lv_at hl 0 rfl) ?_
                                        refine g_X4_pastCount C kd_0 w_fl_X4_99 dX4_about_141 ?_
                                        cases hK
                                        exact q_iret C dX4_about_144
                                      · replace hK := if_ne hc18 hK
                                        by_cases hc19 : a1 = 19
                                        · replace hK := if_po hc19 hK
                                          refine q_tsIn C 19 hc19 dX4_about_1 (off := 144) (by decide) (tgt := 145) (by decide) ?_
                                          refine q_aload_n C dX4_about_145 rfl (lv_at hl 0 rfl) ?_
                                          refine g_X4_seenCount C kd_0 w_fl_X4_102 dX4_about_146 ?_
                                          cases hK
                                          exact q_iret C dX4_about_149
                                        · replace hK := if_ne hc19 hK
                                          by_cases hc20 : a1 = 20
                                          · replace hK := if_po hc20 hK
                                            refine q_tsIn C 20 hc20 dX4_about_1 (off := 149) (by decide) (tgt := 150) (by decide) ?_
                                            refine q_aload_n C dX4_about_150 rfl (lv_at hl 0 rfl) ?_
                                            refine g_X4_textLength C kd_0 w_fl_X4_63 dX4_about_151 ?_
                                            cases hK
                                            exact q_iret C dX4_about_154
                                          · replace hK := if_ne hc20 hK
                                            have q0 : (a1 : Int32).toInt ≠ 0 := ne_i hc0
                                            have q1 : (a1 : Int32).toInt ≠ 1 := ne_i hc1
                                            have q2 : (a1 : Int32).toInt ≠ 2 := ne_i hc2
                                            have q3 : (a1 : Int32).toInt ≠ 3 := ne_i hc3
                                            have q4 : (a1 : Int32).toInt ≠ 4 := ne_i hc4
                                            have q5 : (a1 : Int32).toInt ≠ 5 := ne_i hc5
                                            have q6 : (a1 : Int32).toInt ≠ 6 := ne_i hc6
                                            have q7 : (a1 : Int32).toInt ≠ 7 := ne_i hc7
                                            have q8 : (a1 : Int32).toInt ≠ 8 := ne_i hc8
                                            have q9 : (a1 : Int32).toInt ≠ 9 := ne_i hc9
                                            have q10 : (a1 : Int32).toInt ≠ 10 := ne_i hc10
                                            have q11 : (a1 : Int32).toInt ≠ 11 := ne_i hc11
                                            have q12 : (a1 : Int32).toInt ≠ 12 := ne_i hc12
                                            have q13 : (a1 : Int32).toInt ≠ 13 := ne_i hc13
                                            have q14 : (a1 : Int32).toInt ≠ 14 := ne_i hc14
                                            have q15 : (a1 : Int32).toInt ≠ 15 := ne_i hc15
                                            have q16 : (a1 : Int32).toInt ≠ 16 := ne_i hc16
                                            have q17 : (a1 : Int32).toInt ≠ 17 := ne_i hc17
                                            have q18 : (a1 : Int32).toInt ≠ 18 := ne_i hc18
                                            have q19 : (a1 : Int32).toInt ≠ 19 := ne_i hc19
                                            have q20 : (a1 : Int32).toInt ≠ 20 := ne_i hc20
                                            refine q_tsOut C dX4_about_1 (by omega) (tgt := 155) (by decide) ?_
                                            refine q_aload_n C dX4_about_155 rfl (lv_at hl 0 rfl) ?_
                                            refine g_X4_now C kd_0 w_fl_X4_32 dX4_about_156 ?_
                                            refine q_iload_n C dX4_about_159 rfl (lv_at hl 1 rfl) ?_
                                            obtain ⟨r27, h28, hfr27, hK⟩ := bd_so hK
                                            refine q_callVi C s_X3_number w_ml_X4_105 (c_X3_number l G hfr27) kd_20 rfl (by decide) (ce_2 kd_20) (by decide) hl.1 rfl rfl (Nat.le_of_ble_eq_true rfl) dX4_about_160 ?_
                                            cases hK
                                            exact q_iret C dX4_about_163
theorem s_X4_about : sv yX4_about cX4_about 2 (some .int) 1 := ⟨w_co_X4_about, w_im_X4_about, w_se_X4_about, w_in_X4, by decide +kernel, by decide⟩
def f_X4_place (a1 : Int32) (h : PH) : Option (Int32 × PH) := bd (f_X4_isWithin a1 (0 : Int32) (4 : Int32) h) (fun r1 h2 => if r1 = 0 then some ((-2 : Int32), h2) else rd h2 (12 + 1) a1 (fun x3 => some (x3, h2)))
set_option maxHeartbeats 4000000 in
set_option maxRecDepth 100000 in
theorem c_X4_place (l : Launch) (G : GG) {a1 : Int32} {h : PH} {res : Int32 × PH} (hF : f_X4_place a1 h = some res) : MI l G yX4_place cX4_place 2 .int 1 [.ref (G.2.2.2.2 0), .int a1] h res := by
  unfold f_X4_place at hF
  refine MI_of (by decide +kernel) (Nat.le_of_ble_eq_true rfl) ?_
  intro p e s m args below meth c ls C hl
  have hK := hF
  clear hF
  have hl : lv_has ls 2 [(0, .ref (G.2.2.2.2 0)), (1, .int a1)] := hl
  have C : cx p s m args meth c G RX4 cX4_place 2 (some .int) := C
  refine q_iload_n C dX4_place_0 rfl (lv_at hl 1 rfl) ?_
  refine q_iconst C (v := 0) dX4_place_1 (by decide) ?_
  refine q_iconst C (v := 4) dX4_place_2 (by decide) ?_
  obtain ⟨r1, h2, hfr1, hK⟩ := bd_so hK
  refine q_callSi C s_X4_isWithin w_ml_X4_59 (c_X4_isWithin l G hfr1) (by decide) hl.1 rfl rfl (Nat.le_of_ble_eq_true rfl) dX4_place_3 ?_
  refine q_if_eq C dX4_place_6 (tgt := 21) (by decide) (fun hc => ?_) (fun hc => ?_)
  · replace hK := if_po hc hK
    refine q_bipush C (v := -2) dX4_place_21 (by decide) ?_
    cases hK
    exact q_iret C dX4_place_23
  · replace hK := if_ne hc hK
    refine q_aload_n C dX4_place_9 rfl (lv_at hl 0 rfl) ?_
    refine g_X4_plan C kd_0 w_fl_X4_23 dX4_place_10 ?_
    refine g_X1_stations C kd_12 w_fl_X4_109 dX4_place_13 ?_
    refine q_iload_n C dX4_place_16 rfl (lv_at hl 1 rfl) ?_
    obtain ⟨x3, hx3, hK⟩ := rd_so hK
    refine q_iald C (kd_p1 kd_12) hx3 dX4_place_17 ?_
    refine q_goto C dX4_place_18 (tgt := 23) (by decide) ?_
    cases hK
    exact q_iret C dX4_place_23
theorem s_X4_place : sv yX4_place cX4_place 2 (some .int) 1 := ⟨w_co_X4_place, w_im_X4_place, w_se_X4_place, w_in_X4, by decide +kernel, by decide⟩
def f_X4_cell (a1 : Int32) (a2 : Int32) (h : PH) : Option (Int32 × PH) := bd (f_X1_hasCell 12 a1 h) (fun r1 h2 => if r1 = 0 then some ((-1 : Int32), h2) else rd h2 (20 + 1) a1 (fun x3 => if a2 = 0 then rd h2 (20 + 2) a1 (fun x4 => some (x4, h2)) else if a2 = 1 then if x3 = 0 then bd (f_X4_asNumber (0 : Int32) h2) (fun r5 h6 => some (r5, h6)) else bd (f_X4_asNumber (1 : Int32) h2) (fun r7 h8 => some (r7, h8)) else if a2 = 2 then if x3 = 0 then some ((-9 : Int32), h2) else bd (f_X0_fillOf x3 h2) (fun r9 h10 => some (r9, h10)) else if a2 = 3 then bd (f_X0_valveOf x3 h2) (fun r11 h12 => some (r11, h12)) else if a2 = 4 then bd (f_X0_has x3 (1024 : Int32) h2) (fun r13 h14 => bd (f_X4_asNumber r13 h14) (fun r15 h16 => some (r15, h16))) else if a2 = 5 then bd (f_X0_has x3 (2048 : Int32) h2) (fun r17 h18 => bd (f_X4_asNumber r17 h18) (fun r19 h20 => some (r19, h20))) else if a2 = 6 then bd (f_X0_has x3 (4096 : Int32) h2) (fun r21 h22 => bd (f_X4_asNumber r21 h22) (fun r23 h24 => some (r23, h24))) else if a2 = 7 then bd (f_X1_isGood 12 x3 h2) (fun r25 h26 => bd (f_X4_asNumber r25 h26) (fun r27 h28 => some (r27, h28))) else some ((-2 : Int32), h2)))
set_option maxHeartbeats 4000000 in
set_option maxRecDepth 100000 in
theorem c_X4_cell (l : Launch) (G : GG) {a1 : Int32} {a2 : Int32} {h : PH} {res : Int32 × PH} (hF : f_X4_cell a1 a2 h = some res) : MI l G yX4_cell cX4_cell 4 .int 2 [.ref (G.2.2.2.2 0), .int a1, .int a2] h res := by
  unfold f_X4_cell at hF
  refine MI_of (by decide +kernel) (Nat.le_of_ble_eq_true rfl) ?_
  intro p e s m args below meth c ls C hl
  have hK := hF
  clear hF
  have hl : lv_has ls 4 [(0, .ref (G.2.2.2.2 0)), (1, .int a1), (2, .int a2)] := hl
  have C : cx p s m args meth c G RX4 cX4_cell 4 (some .int) := C
  refine q_aload_n C dX4_cell_0 rfl (lv_at hl 0 rfl) ?_
  refine g_X4_plan C kd_0 w_fl_X4_23 dX4_cell_1 ?_
  refine q_iload_n C dX4_cell_4 rfl (lv_at hl 1 rfl) ?_
  obtain ⟨r1, h2, hfr1, hK⟩ := bd_so hK
  refine q_callVi C s_X1_hasCell w_ml_X4_112 (c_X1_hasCell l G hfr1) kd_12 rfl (by decide) (ce_0 kd_12) (by decide) hl.1 rfl rfl (Nat.le_of_ble_eq_true rfl) dX4_cell_5 ?_
  refine q_if_ne C dX4_cell_8 (tgt := 13) (by decide) (fun hc => ?_) (fun hc => ?_)
  · replace hK := if_ne hc hK
    refine q_aload_n C dX4_cell_13 rfl (lv_at hl 0 rfl) ?_
    refine g_X4_now C kd_0 w_fl_X4_32 dX4_cell_14 ?_
    refine g_X3_bottles C kd_20 w_fl_X4_116 dX4_cell_17 ?_
    refine q_iload_n C dX4_cell_20 rfl (lv_at hl 1 rfl) ?_
    obtain ⟨x3, hx3, hK⟩ := rd_so hK
    refine q_iald C (kd_s1 kd_20) hx3 dX4_cell_21 ?_
    refine q_istore_n C dX4_cell_22 rfl hl (by decide) (lv2 := [(3, .int _), (0, .ref _), (1, .int _), (2, .int _)]) rfl (fun ls hl => ?_)
    refine q_iload_n C dX4_cell_23 rfl (lv_at hl 3 rfl) ?_
    by_cases hc0 : a2 = 0
    · replace hK := if_po hc0 hK
      refine q_tsIn C 0 hc0 dX4_cell_24 (off := 48) (by decide) (tgt := 72) (by decide) ?_
      refine q_aload_n C dX4_cell_72 rfl (lv_at hl 1 rfl) ?_
      refine g_X4_now C kd_0 w_fl_X4_32 dX4_cell_73 ?_
      refine g_X3_marks C kd_20 w_fl_X4_119 dX4_cell_76 ?_
      refine q_iload_n C dX4_cell_79 rfl (lv_at hl 2 rfl) ?_
      obtain ⟨x4, hx4, hK⟩ := rd_so hK
      refine q_iald C (kd_s2 kd_20) hx4 dX4_cell_80 ?_
      cases hK
      exact q_iret C dX4_cell_81
    · replace hK := if_ne hc0 hK
      by_cases hc1 : a2 = 1
      · replace hK := if_po hc1 hK
        refine q_tsIn C 1 hc1 dX4_cell_24 (off := 58) (by decide) (tgt := 82) (by decide) ?_
        refine q_iload_n C dX4_cell_82 rfl (lv_at hl 0 rfl) ?_
        refine q_if_eq C dX4_cell_83 (tgt := 90) (by decide) (fun hc => ?_) (fun hc => ?_)
        · replace hK := if_po hc hK
          refine q_iconst C (v := 0) dX4_cell_90 (by decide) ?_
          obtain ⟨r5, h6, hfr5, hK⟩ := bd_so hK
          refine q_callSi C s_X4_asNumber w_ml_X4_122 (c_X4_asNumber l G hfr5) (by decide) hl.1 rfl rfl (Nat.le_of_ble_eq_true rfl) dX4_cell_91 ?_
          cases hK
          exact q_iret C dX4_cell_94
        · replace hK := if_ne hc hK
          refine q_iconst C (v := 1) dX4_cell_86 (by decide) ?_
          refine q_goto C dX4_cell_87 (tgt := 91) (by decide) ?_
          obtain ⟨r7, h8, hfr7, hK⟩ := bd_so hK
          refine q_callSi C s_X4_asNumber w_ml_X4_122 (c_X4_asNumber l G hfr7) (by decide) hl.1 rfl rfl (Nat.le_of_ble_eq_true rfl) dX4_cell_91 ?_
          cases hK
          exact q_iret C dX4_cell_94
      · replace hK := if_ne hc1 hK
        by_cases hc2 : a2 = 2
        · replace hK := if_po hc2 hK
          refine q_tsIn C 2 hc2 dX4_cell_24 (off := 71) (by decide) (tgt := 95) (by decide) ?_
          refine q_iload_n C dX4_cell_95 rfl (lv_at hl 0 rfl) ?_
          refine q_if_ne C dX4_cell_96 (tgt := 104) (by decide) (fun hc => ?_) (fun hc => ?_)
          · replace hK := if_ne hc hK
            refine q_iload_n C dX4_cell_104 rfl (lv_at hl 0 rfl) ?_
            obtain ⟨r9, h10, hfr9, hK⟩ := bd_so hK
            refine q_callSi C s_X0_fillOf w_ml_X4_126 (c_X0_fillOf l G hfr9) (by decide) hl.1 rfl rfl (Nat.le_of_ble_eq_true rfl) dX4_cell_105 ?_
            cases hK
            exact q_iret C dX4_cell_108
          · replace hK := if_po hc hK
            refine q_bipush C (v := -9) dX4_cell_99 (by decide) ?_
            refine q_goto C dX4_cell_101 (tgt := 108) (by decide) ?_
            cases hK
            exact q_iret C dX4_cell_108
        · replace hK := if_ne hc2 hK
          by_cases hc3 : a2 = 3
          · replace hK := if_po hc3 hK
            refine q_tsIn C 3 hc3 dX4_cell_24 (off := 85) (by decide) (tgt := 109) (by decide) ?_
            refine q_iload_n C dX4_cell_109 rfl (lv_at hl 0 rfl) ?_
            obtain ⟨r11, h12, hfr11, hK⟩ := bd_so hK
            refine q_callSi C s_X0_valveOf w_ml_X4_131 (c_X0_valveOf l G hfr11) (by decide) hl.1 rfl rfl (Nat.le_of_ble_eq_true rfl) dX4_cell_110 ?_
            cases hK
            exact q_iret C dX4_cell_113
          · replace hK := if_ne hc3 hK
            by_cases hc4 : a2 = 4
            · replace hK := if_po hc4 hK
              refine q_tsIn C 4 hc4 dX4_cell_24 (off := 90) (by decide) (tgt := 114) (by decide) ?_
              refine q_iload_n C dX4_cell_114 rfl (lv_at hl 0 rfl) ?_
              refine q_sipush C (v := 1024) dX4_cell_115 (by decide) ?_
              obtain ⟨r13, h14, hfr13, hK⟩ := bd_so hK
              refine q_callSi C s_X0_has w_ml_X4_134 (c_X0_has l G hfr13) (by decide) hl.1 rfl rfl (Nat.le_of_ble_eq_true rfl) dX4_cell_118 ?_
              obtain ⟨r15, h16, hfr15, hK⟩ := bd_so hK
              refine q_callSi C s_X4_asNumber w_ml_X4_122 (c_X4_asNumber l G hfr15) (by decide) hl.1 rfl rfl (Nat.le_of_ble_eq_true rfl) dX4_cell_121 ?_
              cases hK
              exact q_iret C dX4_cell_124
            · replace hK := if_ne hc4 hK
              by_cases hc5 : a2 = 5
              · replace hK := if_po hc5 hK
                refine q_tsIn C 5 hc5 dX4_cell_24 (off := 101) (by decide) (tgt := 125) (by decide) ?_
                refine q_iload_n C dX4_cell_125 rfl (lv_at hl 0 rfl) ?_
                refine q_sipush C (v := 2048) dX4_cell_126 (by decide) ?_
                obtain ⟨r17, h18, hfr17, hK⟩ := bd_so hK
                refine q_callSi C s_X0_has w_ml_X4_134 (c_X0_has l G hfr17) (by decide) hl.1 rfl rfl (Nat.le_of_ble_eq_true rfl) dX4_cell_129 ?_
                obtain ⟨r19, h20, hfr19, hK⟩ := bd_so hK
                refine q_callSi C s_X4_asNumber w_ml_X4_122 (c_X4_asNumber l G hfr19) (by decide) hl.1 rfl rfl (Nat.le_of_ble_eq_true rfl) dX4_cell_132 ?_
                cases hK
                exact q_iret C dX4_cell_135
              · replace hK := if_ne hc5 hK
                by_cases hc6 : a2 = 6
                · replace hK := if_po hc6 hK
                  refine q_tsIn C 6 hc6 dX4_cell_24 (off := 112) (by decide) (tgt := 136) (by decide) ?_
                  refine q_iload_n C dX4_cell_136 rfl (lv_at hl 0 rfl) ?_
                  refine q_sipush C (v := 4096) dX4_cell_137 (by decide) ?_
                  obtain ⟨r21, h22, hfr21, hK⟩ := bd_so hK
                  refine q_callSi C s_X0_has w_ml_X4_134 (c_X0_has l G hfr21) (by decide) hl.1 rfl rfl (Nat.le_of_ble_eq_true rfl) dX4_cell_140 ?_
                  obtain ⟨r23, h24, hfr23, hK⟩ := bd_so hK
                  refine q_callSi C s_X4_asNumber w_ml_X4_122 (c_X4_asNumber l G hfr23) (by decide) hl.1 rfl rfl (Nat.le_of_ble_eq_true rfl) dX4_cell_143 ?_
                  cases hK
                  exact q_iret C dX4_cell_146
                · replace hK := if_ne hc6 hK
                  by_cases hc7 : a2 = 7
                  · replace hK := if_po hc7 hK
                    refine q_tsIn C 7 hc7 dX4_cell_24 (off := 123) (by decide) (tgt := 147) (by decide) ?_
                    refine q_aload_n C dX4_cell_147 rfl (lv_at hl 1 rfl) ?_
                    refine g_X4_plan C kd_0 w_fl_X4_23 dX4_cell_148 ?_
                    refine q_iload_n C dX4_cell_151 rfl (lv_at hl 0 rfl) ?_
                    obtain ⟨r25, h26, hfr25, hK⟩ := bd_so hK
                    refine q_callVi C s_X1_isGood w_ml_X4_138 (c_X1_isGood l G hfr25) kd_12 rfl (by decide) (ce_0 kd_12) (by decide) hl.1 rfl rfl (Nat.le_of_ble_eq_true rfl) dX4_cell_152 ?_
                    obtain ⟨r27, h28, hfr27, hK⟩ := bd_so hK
                    refine q_callSi C s_X4_asNumber w_ml_X4_122 (c_X4_asNumber l G hfr27) (by decide) hl.1 rfl rfl (Nat.le_of_ble_eq_true rfl) dX4_cell_155 ?_
                    cases hK
                    exact q_iret C dX4_cell_158
                  · replace hK := if_ne hc7 hK
                    have q0 : (a2 : Int32).toInt ≠ 0 := ne_i hc0
                    have q1 : (a2 : Int32).toInt ≠ 1 := ne_i hc1
                    have q2 : (a2 : Int32).toInt ≠ 2 := ne_i hc2
                    have q3 : (a2 : Int32).toInt ≠ 3 := ne_i hc3
                    have q4 : (a2 : Int32).toInt ≠ 4 := ne_i hc4
                    have q5 : (a2 : Int32).toInt ≠ 5 := ne_i hc5
                    have q6 : (a2 : Int32).toInt ≠ 6 := ne_i hc6
                    have q7 : (a2 : Int32).toInt ≠ 7 := ne_i hc7
                    refine q_tsOut C dX4_cell_24 (by omega) (tgt := 159) (by decide) ?_
                    refine q_bipush C (v := -2) dX4_cell_159 (by decide) ?_
                    cases hK
                    exact q_iret C dX4_cell_161
  · replace hK := if_po hc hK
    refine q_iconst C (v := -1) dX4_cell_11 (by decide) ?_
    cases hK
    exact q_iret C dX4_cell_12
theorem s_X4_cell : sv yX4_cell cX4_cell 4 (some .int) 2 := ⟨w_co_X4_cell, w_im_X4_cell, w_se_X4_cell, w_in_X4, by decide +kernel, by decide⟩
def f_X4_valve (a1 : Int32) (a2 : Int32) (h : PH) : Option (Int32 × PH) := bd (f_X1_hasValve 12 a1 h) (fun r1 h2 => if r1 = 0 then some ((-1 : Int32), h2) else if a2 = 0 then rd h2 (20 + 3) a1 (fun x3 => some (x3, h2)) else if a2 = 1 then rd h2 (12 + 2) a1 (fun x4 => some ((x4 + (4 : Int32)), h2)) else some ((-2 : Int32), h2))
set_option maxHeartbeats 4000000 in
set_option maxRecDepth 100000 in
theorem c_X4_valve (l : Launch) (G : GG) {a1 : Int32} {a2 : Int32} {h : PH} {res : Int32 × PH} (hF : f_X4_valve a1 a2 h = some res) : MI l G yX4_valve cX4_valve 3 .int 2 [.ref (G.2.2.2.2 0), .int a1, .int a2] h res := by
  unfold f_X4_valve at hF
  refine MI_of (by decide +kernel) (Nat.le_of_ble_eq_true rfl) ?_
  intro p e s m args below meth c ls C hl
  have hK := hF
  clear hF
  have hl : lv_has ls 3 [(0, .ref (G.2.2.2.2 0)), (1, .int a1), (2, .int a2)] := hl
  have C : cx p s m args meth c G RX4 cX4_valve 3 (some .int) := C
  refine q_aload_n C dX4_valve_0 rfl (lv_at hl 0 rfl) ?_
  refine g_X4_plan C kd_0 w_fl_X4_23 dX4_valve_1 ?_
  refine q_iload_n C dX4_valve_4 rfl (lv_at hl 1 rfl) ?_
  obtain ⟨r1, h2, hfr1, hK⟩ := bd_so hK
  refine q_callVi C s_X1_hasValve w_ml_X4_141 (c_X1_hasValve l G hfr1) kd_12 rfl (by decide) (ce_0 kd_12) (by decide) hl.1 rfl rfl (Nat.le_of_ble_eq_true rfl) dX4_valve_5 ?_
  refine q_if_ne C dX4_valve_8 (tgt := 13) (by decide) (fun hc => ?_) (fun hc => ?_)
  · replace hK := if_ne hc hK
    refine q_iload_n C dX4_valve_13 rfl (lv_at hl 2 rfl) ?_
    by_cases hc0 : a2 = 0
    · replace hK := if_po hc0 hK
      refine q_lsw C dX4_valve_14 (by decide) (off := 26) (by rw [hc0]; decide) (tgt := 40) (by decide) ?_
      refine q_aload_n C dX4_valve_40 rfl (lv_at hl 0 rfl) ?_
      refine g_X4_now C kd_0 w_fl_X4_32 dX4_valve_41 ?_
      refine g_X3_settings C kd_20 w_fl_X4_144 dX4_valve_44 ?_
      refine q_iload_n C dX4_valve_47 rfl (lv_at hl 1 rfl) ?_
      obtain ⟨x3, hx3, hK⟩ := rd_so hK
      refine q_iald C (kd_s3 kd_20) hx3 dX4_valve_48 ?_
      cases hK
      exact q_iret C dX4_valve_49
    · replace hK := if_ne hc0 hK
      by_cases hc1 : a2 = 1
      · replace hK := if_po hc1 hK
        refine q_lsw C dX4_valve_14 (by decide) (off := 36) (by rw [hc1]; decide) (tgt := 50) (by decide) ?_
        refine q_aload_n C dX4_valve_50 rfl (lv_at hl 0 rfl) ?_
        refine g_X4_plan C kd_0 w_fl_X4_23 dX4_valve_51 ?_
        refine g_X1_drifts C kd_12 w_fl_X4_147 dX4_valve_54 ?_
        refine q_iload_n C dX4_valve_57 rfl (lv_at hl 1 rfl) ?_
        obtain ⟨x4, hx4, hK⟩ := rd_so hK
        refine q_iald C (kd_p2 kd_12) hx4 dX4_valve_58 ?_
        refine q_iconst C (v := 4) dX4_valve_59 (by decide) ?_
        refine q_iadd C dX4_valve_60 ?_
        cases hK
        exact q_iret C dX4_valve_61
      · replace hK := if_ne hc1 hK
        have q0 : (a2 : Int32).toInt ≠ 0 := ne_i hc0
        have q1 : (a2 : Int32).toInt ≠ 1 := ne_i hc1
        refine q_lsw C dX4_valve_14 (by decide) (off := 48) ((if_neg (Ne.symm q0)).trans ((if_neg (Ne.symm q1)).trans rfl)) (tgt := 62) (by decide) ?_
        refine q_bipush C (v := -2) dX4_valve_62 (by decide) ?_
        cases hK
        exact q_iret C dX4_valve_64
  · replace hK := if_po hc hK
    refine q_iconst C (v := -1) dX4_valve_11 (by decide) ?_
    cases hK
    exact q_iret C dX4_valve_12
theorem s_X4_valve : sv yX4_valve cX4_valve 3 (some .int) 2 := ⟨w_co_X4_valve, w_im_X4_valve, w_se_X4_valve, w_in_X4, by decide +kernel, by decide⟩
def f_X4_queue (a1 : Int32) (h : PH) : Option (Int32 × PH) := bd (f_X4_isWithin a1 (0 : Int32) (23 : Int32) h) (fun r1 h2 => if r1 = 0 then some ((-2 : Int32), h2) else if (h2.1 20 6) ≤ a1 then some ((-9 : Int32), h2) else rd h2 (20 + 4) a1 (fun x3 => some (x3, h2)))
set_option maxHeartbeats 4000000 in
set_option maxRecDepth 100000 in
theorem c_X4_queue (l : Launch) (G : GG) {a1 : Int32} {h : PH} {res : Int32 × PH} (hF : f_X4_queue a1 h = some res) : MI l G yX4_queue cX4_queue 2 .int 1 [.ref (G.2.2.2.2 0), .int a1] h res := by
  unfold f_X4_queue at hF
  refine MI_of (by decide +kernel) (Nat.le_of_ble_eq_true rfl) ?_
  intro p e s m args below meth c ls C hl
  have hK := hF
  clear hF
  have hl : lv_has ls 2 [(0, .ref (G.2.2.2.2 0)), (1, .int a1)] := hl
  have C : cx p s m args meth c G RX4 cX4_queue 2 (some .int) := C
  refine q_iload_n C dX4_queue_0 rfl (lv_at hl 1 rfl) ?_
  refine q_iconst C (v := 0) dX4_queue_1 (by decide) ?_
  refine q_bipush C (v := 23) dX4_queue_2 (by decide) ?_
  obtain ⟨r1, h2, hfr1, hK⟩ := bd_so hK
  refine q_callSi C s_X4_isWithin w_ml_X4_59 (c_X4_isWithin l G hfr1) (by decide) hl.1 rfl rfl (Nat.le_of_ble_eq_true rfl) dX4_queue_4 ?_
  refine q_if_ne C dX4_queue_7 (tgt := 13) (by decide) (fun hc => ?_) (fun hc => ?_)
  · replace hK := if_ne hc hK
    refine q_iload_n C dX4_queue_13 rfl (lv_at hl 1 rfl) ?_
    refine q_aload_n C dX4_queue_14 rfl (lv_at hl 0 rfl) ?_
    refine g_X4_now C kd_0 w_fl_X4_32 dX4_queue_15 ?_
    refine g_X3_entryCount C kd_20 w_fl_X4_150 dX4_queue_18 ?_
    refine q_icmp_ge C dX4_queue_21 (tgt := 36) (by decide) (fun hc => ?_) (fun hc => ?_)
    · replace hK := if_po hc hK
      refine q_bipush C (v := -9) dX4_queue_36 (by decide) ?_
      cases hK
      exact q_iret C dX4_queue_38
    · replace hK := if_ne hc hK
      refine q_aload_n C dX4_queue_24 rfl (lv_at hl 0 rfl) ?_
      refine g_X4_now C kd_0 w_fl_X4_32 dX4_queue_25 ?_
      refine g_X3_entries C kd_20 w_fl_X4_153 dX4_queue_28 ?_
      refine q_iload_n C dX4_queue_31 rfl (lv_at hl 1 rfl) ?_
      obtain ⟨x3, hx3, hK⟩ := rd_so hK
      refine q_iald C (kd_s4 kd_20) hx3 dX4_queue_32 ?_
      refine q_goto C dX4_queue_33 (tgt := 38) (by decide) ?_
      cases hK
      exact q_iret C dX4_queue_38
  · replace hK := if_po hc hK
    refine q_bipush C (v := -2) dX4_queue_10 (by decide) ?_
    cases hK
    exact q_iret C dX4_queue_12
theorem s_X4_queue : sv yX4_queue cX4_queue 2 (some .int) 1 := ⟨w_co_X4_queue, w_im_X4_queue, w_se_X4_queue, w_in_X4, by decide +kernel, by decide⟩
def f_X4_rememberAct (h : PH) : Option (Unit × PH) := rq 2 (h.1 0 8) (fun q1 => bd (f_X3_copyFrom q1 20 h) (fun _ h3 => st h3 0 8 (irm ((h3.1 0 8) + (1 : Int32)) (14 : Int32)) (fun h4 => st h4 0 7 (imn (14 : Int32) ((h4.1 0 7) + (1 : Int32))) (fun h5 => some ((), h5)))))
set_option maxHeartbeats 4000000 in
set_option maxRecDepth 100000 in
theorem c_X4_rememberAct (l : Launch) (G : GG) {h : PH} {res : Unit × PH} (hF : f_X4_rememberAct h = some res) : MV l G yX4_rememberAct cX4_rememberAct 1 2 [.ref (G.2.2.2.2 0)] h res := by
  unfold f_X4_rememberAct at hF
  refine MV_of (by decide +kernel) (Nat.le_of_ble_eq_true rfl) ?_
  intro p e s m args below meth c ls C hl
  have hK := hF
  clear hF
  have hl : lv_has ls 1 [(0, .ref (G.2.2.2.2 0))] := hl
  have C : cx p s m args meth c G RX4 cX4_rememberAct 1 none := C
  refine q_aload_n C dX4_rememberAct_0 rfl (lv_at hl 0 rfl) ?_
  refine g_X4_past C kd_0 w_fl_X4_39 dX4_rememberAct_1 ?_
  refine q_aload_n C dX4_rememberAct_4 rfl (lv_at hl 0 rfl) ?_
  refine g_X4_nextPast C kd_0 w_fl_X4_193 dX4_rememberAct_5 ?_
  obtain ⟨q1, hq1, hK⟩ := rq_so hK
  refine q_aald C kd_2 hq1 dX4_rememberAct_8 ?_
  have kq1 : kd q1 = 2 := by rw [hq1.2]; exact kd_sta2 hq1.1
  refine q_aload_n C dX4_rememberAct_9 rfl (lv_at hl 0 rfl) ?_
  refine g_X4_now C kd_0 w_fl_X4_32 dX4_rememberAct_10 ?_
  obtain ⟨r2, h3, hfr2, hK⟩ := bd_so hK
  refine q_callVv C s_X3_copyFrom w_ml_X4_78 (c_X3_copyFrom l G hfr2) kq1 rfl (by decide) (ce_2 kq1) (by decide) hl.1 rfl rfl (Nat.le_of_ble_eq_true rfl) dX4_rememberAct_13 ?_
  refine q_aload_n C dX4_rememberAct_16 rfl (lv_at hl 0 rfl) ?_
  refine q_aload_n C dX4_rememberAct_17 rfl (lv_at hl 0 rfl) ?_
  refine g_X4_nextPast C kd_0 w_fl_X4_193 dX4_rememberAct_18 ?_
  refine q_iconst C (v := 1) dX4_rememberAct_21 (by decide) ?_
  refine q_iadd C dX4_rememberAct_22 ?_
  refine q_bipush C (v := 14) dX4_rememberAct_23 (by decide) ?_
  refine q_irem C dX4_rememberAct_25 (by decide) ?_
  obtain ⟨h4, hh4, hK⟩ := st_so hK
  refine p_X4_nextPast C kd_0 w_fl_X4_193 hh4 dX4_rememberAct_26 ?_
  refine q_aload_n C dX4_rememberAct_29 rfl (lv_at hl 0 rfl) ?_
  refine q_bipush C (v := 14) dX4_rememberAct_30 (by decide) ?_
  refine q_aload_n C dX4_rememberAct_32 rfl (lv_at hl 0 rfl) ?_
  refine g_X4_pastCount C kd_0 w_fl_X4_99 dX4_rememberAct_33 ?_
  refine q_iconst C (v := 1) dX4_rememberAct_36 (by decide) ?_
  refine q_iadd C dX4_rememberAct_37 ?_
  refine q_min C (by decide) hl.1 w_ml_X4_256 (Nat.le_of_ble_eq_true rfl) dX4_rememberAct_38 ?_
  obtain ⟨h5, hh5, hK⟩ := st_so hK
  refine p_X4_pastCount C kd_0 w_fl_X4_99 hh5 dX4_rememberAct_41 ?_
  cases hK
  exact q_vret C dX4_rememberAct_44
theorem s_X4_rememberAct : sv yX4_rememberAct cX4_rememberAct 1 none 0 := ⟨w_co_X4_rememberAct, w_im_X4_rememberAct, w_se_X4_rememberAct, w_in_X4, by decide +kernel, by decide⟩
def f_X4_step (a1 : Int32) (h : PH) : Option (Int32 × PH) := bd (f_X4_isWithin a1 (1 : Int32) (99 : Int32) h) (fun r1 h2 => if r1 = 0 then some ((-2 : Int32), h2) else if (h2.1 20 10) = 0 then bd (f_X4_rememberAct h2) (fun _ h4 => bd (f_X3_advance 20 a1 h4) (fun r5 h6 => some (r5, h6))) else some ((-3 : Int32), h2))
set_option maxHeartbeats 4000000 in
set_option maxRecDepth 100000 in
theorem c_X4_step (l : Launch) (G : GG) {a1 : Int32} {h : PH} {res : Int32 × PH} (hF : f_X4_step a1 h = some res) : MI l G yX4_step cX4_step 2 .int 4 [.ref (G.2.2.2.2 0), .int a1] h res := by
  unfold f_X4_step at hF
  refine MI_of (by decide +kernel) (Nat.le_of_ble_eq_true rfl) ?_
  intro p e s m args below meth c ls C hl
  have hK := hF
  clear hF
  have hl : lv_has ls 2 [(0, .ref (G.2.2.2.2 0)), (1, .int a1)] := hl
  have C : cx p s m args meth c G RX4 cX4_step 2 (some .int) := C
  refine q_iload_n C dX4_step_0 rfl (lv_at hl 1 rfl) ?_
  refine q_iconst C (v := 1) dX4_step_1 (by decide) ?_
  refine q_bipush C (v := 99) dX4_step_2 (by decide) ?_
  obtain ⟨r1, h2, hfr1, hK⟩ := bd_so hK
  refine q_callSi C s_X4_isWithin w_ml_X4_59 (c_X4_isWithin l G hfr1) (by decide) hl.1 rfl rfl (Nat.le_of_ble_eq_true rfl) dX4_step_4 ?_
  refine q_if_ne C dX4_step_7 (tgt := 13) (by decide) (fun hc => ?_) (fun hc => ?_)
  · replace hK := if_ne hc hK
    refine q_aload_n C dX4_step_13 rfl (lv_at hl 0 rfl) ?_
    refine g_X4_now C kd_0 w_fl_X4_32 dX4_step_14 ?_
    refine g_X3_alarm C kd_20 w_fl_X4_156 dX4_step_17 ?_
    refine q_if_eq C dX4_step_20 (tgt := 26) (by decide) (fun hc => ?_) (fun hc => ?_)
    · replace hK := if_po hc hK
      refine q_aload_n C dX4_step_26 rfl (lv_at hl 0 rfl) ?_
      obtain ⟨r3, h4, hfr3, hK⟩ := bd_so hK
      refine q_callVv C s_X4_rememberAct w_ml_X4_160 (c_X4_rememberAct l G hfr3) kd_0 rfl (by decide) (ce_3 kd_0) (by decide) hl.1 rfl rfl (Nat.le_of_ble_eq_true rfl) dX4_step_27 ?_
      refine q_aload_n C dX4_step_30 rfl (lv_at hl 0 rfl) ?_
      refine g_X4_now C kd_0 w_fl_X4_32 dX4_step_31 ?_
      refine q_iload_n C dX4_step_34 rfl (lv_at hl 1 rfl) ?_
      obtain ⟨r5, h6, hfr5, hK⟩ := bd_so hK
      refine q_callVi C s_X3_advance w_ml_X4_163 (c_X3_advance l G hfr5) kd_20 rfl (by decide) (ce_2 kd_20) (by decide) hl.1 rfl rfl (Nat.le_of_ble_eq_true rfl) dX4_step_35 ?_
      cases hK
      exact q_iret C dX4_step_38
    · replace hK := if_ne hc hK
      refine q_bipush C (v := -3) dX4_step_23 (by decide) ?_
      cases hK
      exact q_iret C dX4_step_25
  · replace hK := if_po hc hK
    refine q_bipush C (v := -2) dX4_step_10 (by decide) ?_
    cases hK
    exact q_iret C dX4_step_12
theorem s_X4_step : sv yX4_step cX4_step 2 (some .int) 1 := ⟨w_co_X4_step, w_im_X4_step, w_se_X4_step, w_in_X4, by decide +kernel, by decide⟩
def f_X4_slip (h : PH) : Option (Int32 × PH) := bd (f_X4_rememberAct h) (fun _ h2 => bd (f_X3_moveMarks 20 h2) (fun _ h4 => bd (f_X3_countMarks 20 h4) (fun r5 h6 => some (r5, h6))))
set_option maxHeartbeats 4000000 in
set_option maxRecDepth 100000 in
theorem c_X4_slip (l : Launch) (G : GG) {h : PH} {res : Int32 × PH} (hF : f_X4_slip h = some res) : MI l G yX4_slip cX4_slip 1 .int 3 [.ref (G.2.2.2.2 0)] h res := by
  unfold f_X4_slip at hF
  refine MI_of (by decide +kernel) (Nat.le_of_ble_eq_true rfl) ?_
  intro p e s m args below meth c ls C hl
  have hK := hF
  clear hF
  have hl : lv_has ls 1 [(0, .ref (G.2.2.2.2 0))] := hl
  have C : cx p s m args meth c G RX4 cX4_slip 1 (some .int) := C
  refine q_aload_n C dX4_slip_0 rfl (lv_at hl 0 rfl) ?_
  obtain ⟨r1, h2, hfr1, hK⟩ := bd_so hK
  refine q_callVv C s_X4_rememberAct w_ml_X4_160 (c_X4_rememberAct l G hfr1) kd_0 rfl (by decide) (ce_3 kd_0) (by decide) hl.1 rfl rfl (Nat.le_of_ble_eq_true rfl) dX4_slip_1 ?_
  refine q_aload_n C dX4_slip_4 rfl (lv_at hl 0 rfl) ?_
  refine g_X4_now C kd_0 w_fl_X4_32 dX4_slip_5 ?_
  obtain ⟨r3, h4, hfr3, hK⟩ := bd_so hK
  refine q_callVv C s_X3_moveMarks w_ml_X4_166 (c_X3_moveMarks l G hfr3) kd_20 rfl (by decide) (ce_2 kd_20) (by decide) hl.1 rfl rfl (Nat.le_of_ble_eq_true rfl) dX4_slip_8 ?_
  refine q_aload_n C dX4_slip_11 rfl (lv_at hl 0 rfl) ?_
  refine g_X4_now C kd_0 w_fl_X4_32 dX4_slip_12 ?_
  obtain ⟨r5, h6, hfr5, hK⟩ := bd_so hK
  refine q_callVi C s_X3_countMarks w_ml_X4_169 (c_X3_countMarks l G hfr5) kd_20 rfl (by decide) (ce_2 kd_20) (by decide) hl.1 rfl rfl (Nat.le_of_ble_eq_true rfl) dX4_slip_15 ?_
  cases hK
  exact q_iret C dX4_slip_18
theorem s_X4_slip : sv yX4_slip cX4_slip 1 (some .int) 0 := ⟨w_co_X4_slip, w_im_X4_slip, w_se_X4_slip, w_in_X4, by decide +kernel, by decide⟩
def f_X4_jam (h : PH) : Option (Int32 × PH) := bd (f_X4_rememberAct h) (fun _ h2 => if (h2.1 20 11) = 0 then st h2 20 11 (1 : Int32) (fun h6 => bd (f_X4_asNumber (h6.1 20 11) h6) (fun r7 h8 => some (r7, h8))) else st h2 20 11 (0 : Int32) (fun h3 => bd (f_X4_asNumber (h3.1 20 11) h3) (fun r4 h5 => some (r4, h5))))
set_option maxHeartbeats 4000000 in
set_option maxRecDepth 100000 in
theorem c_X4_jam (l : Launch) (G : GG) {h : PH} {res : Int32 × PH} (hF : f_X4_jam h = some res) : MI l G yX4_jam cX4_jam 1 .int 3 [.ref (G.2.2.2.2 0)] h res := by
  unfold f_X4_jam at hF
  refine MI_of (by decide +kernel) (Nat.le_of_ble_eq_true rfl) ?_
  intro p e s m args below meth c ls C hl
  have hK := hF
  clear hF
  have hl : lv_has ls 1 [(0, .ref (G.2.2.2.2 0))] := hl
  have C : cx p s m args meth c G RX4 cX4_jam 1 (some .int) := C
  refine q_aload_n C dX4_jam_0 rfl (lv_at hl 0 rfl) ?_
  obtain ⟨r1, h2, hfr1, hK⟩ := bd_so hK
  refine q_callVv C s_X4_rememberAct w_ml_X4_160 (c_X4_rememberAct l G hfr1) kd_0 rfl (by decide) (ce_3 kd_0) (by decide) hl.1 rfl rfl (Nat.le_of_ble_eq_true rfl) dX4_jam_1 ?_
  refine q_aload_n C dX4_jam_4 rfl (lv_at hl 0 rfl) ?_
  refine g_X4_now C kd_0 w_fl_X4_32 dX4_jam_5 ?_
  refine q_aload_n C dX4_jam_8 rfl (lv_at hl 0 rfl) ?_
  refine g_X4_now C kd_0 w_fl_X4_32 dX4_jam_9 ?_
  refine g_X3_jammed C kd_20 w_fl_X4_172 dX4_jam_12 ?_
  refine q_if_ne C dX4_jam_15 (tgt := 22) (by decide) (fun hc => ?_) (fun hc => ?_)
  · replace hK := if_ne hc hK
    refine q_iconst C (v := 0) dX4_jam_22 (by decide) ?_
    obtain ⟨h3, hh3, hK⟩ := st_so hK
    refine p_X3_jammed C kd_20 (Or.inl rfl) w_fl_X4_172 hh3 dX4_jam_23 ?_
    refine q_aload_n C dX4_jam_26 rfl (lv_at hl 0 rfl) ?_
    refine g_X4_now C kd_0 w_fl_X4_32 dX4_jam_27 ?_
    refine g_X3_jammed C kd_20 w_fl_X4_172 dX4_jam_30 ?_
    obtain ⟨r4, h5, hfr4, hK⟩ := bd_so hK
    refine q_callSi C s_X4_asNumber w_ml_X4_122 (c_X4_asNumber l G hfr4) (by decide) hl.1 rfl rfl (Nat.le_of_ble_eq_true rfl) dX4_jam_33 ?_
    cases hK
    exact q_iret C dX4_jam_36
  · replace hK := if_po hc hK
    refine q_iconst C (v := 1) dX4_jam_18 (by decide) ?_
    refine q_goto C dX4_jam_19 (tgt := 23) (by decide) ?_
    obtain ⟨h6, hh6, hK⟩ := st_so hK
    refine p_X3_jammed C kd_20 (Or.inr rfl) w_fl_X4_172 hh6 dX4_jam_23 ?_
    refine q_aload_n C dX4_jam_26 rfl (lv_at hl 0 rfl) ?_
    refine g_X4_now C kd_0 w_fl_X4_32 dX4_jam_27 ?_
    refine g_X3_jammed C kd_20 w_fl_X4_172 dX4_jam_30 ?_
    obtain ⟨r7, h8, hfr7, hK⟩ := bd_so hK
    refine q_callSi C s_X4_asNumber w_ml_X4_122 (c_X4_asNumber l G hfr7) (by decide) hl.1 rfl rfl (Nat.le_of_ble_eq_true rfl) dX4_jam_33 ?_
    cases hK
    exact q_iret C dX4_jam_36
theorem s_X4_jam : sv yX4_jam cX4_jam 1 (some .int) 0 := ⟨w_co_X4_jam, w_im_X4_jam, w_se_X4_jam, w_in_X4, by decide +kernel, by decide⟩
def f_X4_clear (h : PH) : Option (Int32 × PH) := if (h.1 20 10) = 0 then some ((-3 : Int32), h) else bd (f_X4_rememberAct h) (fun _ h2 => bd (f_X3_endAlarm 20 h2) (fun r3 h4 => bd (f_X4_asNumber r3 h4) (fun r5 h6 => some (r5, h6))))
set_option maxHeartbeats 4000000 in
set_option maxRecDepth 100000 in
theorem c_X4_clear (l : Launch) (G : GG) {h : PH} {res : Int32 × PH} (hF : f_X4_clear h = some res) : MI l G yX4_clear cX4_clear 1 .int 3 [.ref (G.2.2.2.2 0)] h res := by
  unfold f_X4_clear at hF
  refine MI_of (by decide +kernel) (Nat.le_of_ble_eq_true rfl) ?_
  intro p e s m args below meth c ls C hl
  have hK := hF
  clear hF
  have hl : lv_has ls 1 [(0, .ref (G.2.2.2.2 0))] := hl
  have C : cx p s m args meth c G RX4 cX4_clear 1 (some .int) := C
  refine q_aload_n C dX4_clear_0 rfl (lv_at hl 0 rfl) ?_
  refine g_X4_now C kd_0 w_fl_X4_32 dX4_clear_1 ?_
  refine g_X3_alarm C kd_20 w_fl_X4_156 dX4_clear_4 ?_
  refine q_if_ne C dX4_clear_7 (tgt := 13) (by decide) (fun hc => ?_) (fun hc => ?_)
  · replace hK := if_ne hc hK
    refine q_aload_n C dX4_clear_13 rfl (lv_at hl 0 rfl) ?_
    obtain ⟨r1, h2, hfr1, hK⟩ := bd_so hK
    refine q_callVv C s_X4_rememberAct w_ml_X4_160 (c_X4_rememberAct l G hfr1) kd_0 rfl (by decide) (ce_3 kd_0) (by decide) hl.1 rfl rfl (Nat.le_of_ble_eq_true rfl) dX4_clear_14 ?_
    refine q_aload_n C dX4_clear_17 rfl (lv_at hl 0 rfl) ?_
    refine g_X4_now C kd_0 w_fl_X4_32 dX4_clear_18 ?_
    obtain ⟨r3, h4, hfr3, hK⟩ := bd_so hK
    refine q_callVi C s_X3_endAlarm w_ml_X4_175 (c_X3_endAlarm l G hfr3) kd_20 rfl (by decide) (ce_2 kd_20) (by decide) hl.1 rfl rfl (Nat.le_of_ble_eq_true rfl) dX4_clear_21 ?_
    obtain ⟨r5, h6, hfr5, hK⟩ := bd_so hK
    refine q_callSi C s_X4_asNumber w_ml_X4_122 (c_X4_asNumber l G hfr5) (by decide) hl.1 rfl rfl (Nat.le_of_ble_eq_true rfl) dX4_clear_24 ?_
    cases hK
    exact q_iret C dX4_clear_27
  · replace hK := if_po hc hK
    refine q_bipush C (v := -3) dX4_clear_10 (by decide) ?_
    cases hK
    exact q_iret C dX4_clear_12
theorem s_X4_clear : sv yX4_clear cX4_clear 1 (some .int) 0 := ⟨w_co_X4_clear, w_im_X4_clear, w_se_X4_clear, w_in_X4, by decide +kernel, by decide⟩
def f_X4_restart (h : PH) : Option (Int32 × PH) := bd (f_X4_rememberAct h) (fun _ h2 => bd (f_X3_markBeforeScale 20 h2) (fun _ h4 => bd (f_X3_countMarks 20 h4) (fun r5 h6 => some (r5, h6))))
set_option maxHeartbeats 4000000 in
set_option maxRecDepth 100000 in
theorem c_X4_restart (l : Launch) (G : GG) {h : PH} {res : Int32 × PH} (hF : f_X4_restart h = some res) : MI l G yX4_restart cX4_restart 1 .int 3 [.ref (G.2.2.2.2 0)] h res := by
  unfold f_X4_restart at hF
  refine MI_of (by decide +kernel) (Nat.le_of_ble_eq_true rfl) ?_
  intro p e s m args below meth c ls C hl
  have hK := hF
  clear hF
  have hl : lv_has ls 1 [(0, .ref (G.2.2.2.2 0))] := hl
  have C : cx p s m args meth c G RX4 cX4_restart 1 (some .int) := C
  refine q_aload_n C dX4_restart_0 rfl (lv_at hl 0 rfl) ?_
  obtain ⟨r1, h2, hfr1, hK⟩ := bd_so hK
  refine q_callVv C s_X4_rememberAct w_ml_X4_160 (c_X4_rememberAct l G hfr1) kd_0 rfl (by decide) (ce_3 kd_0) (by decide) hl.1 rfl rfl (Nat.le_of_ble_eq_true rfl) dX4_restart_1 ?_
  refine q_aload_n C dX4_restart_4 rfl (lv_at hl 0 rfl) ?_
  refine g_X4_now C kd_0 w_fl_X4_32 dX4_restart_5 ?_
  obtain ⟨r3, h4, hfr3, hK⟩ := bd_so hK
  refine q_callVv C s_X3_markBeforeScale w_ml_X4_179 (c_X3_markBeforeScale l G hfr3) kd_20 rfl (by decide) (ce_2 kd_20) (by decide) hl.1 rfl rfl (Nat.le_of_ble_eq_true rfl) dX4_restart_8 ?_
  refine q_aload_n C dX4_restart_11 rfl (lv_at hl 0 rfl) ?_
  refine g_X4_now C kd_0 w_fl_X4_32 dX4_restart_12 ?_
  obtain ⟨r5, h6, hfr5, hK⟩ := bd_so hK
  refine q_callVi C s_X3_countMarks w_ml_X4_169 (c_X3_countMarks l G hfr5) kd_20 rfl (by decide) (ce_2 kd_20) (by decide) hl.1 rfl rfl (Nat.le_of_ble_eq_true rfl) dX4_restart_15 ?_
  cases hK
  exact q_iret C dX4_restart_18
theorem s_X4_restart : sv yX4_restart cX4_restart 1 (some .int) 0 := ⟨w_co_X4_restart, w_im_X4_restart, w_se_X4_restart, w_in_X4, by decide +kernel, by decide⟩
def f_X4_lay (a1 : Int32) (a2 : Int32) (h : PH) : Option (Int32 × PH) := bd (f_X4_isWithin a2 (1 : Int32) (9 : Int32) h) (fun r1 h2 => if r1 = 0 then some ((-2 : Int32), h2) else bd (f_X3_stock 20 a1 h2) (fun r3 h4 => if (r3 + a2) ≤ (99 : Int32) then bd (f_X4_rememberAct h4) (fun _ h6 => bd (f_X3_addStock 20 a1 a2 h6) (fun _ h8 => bd (f_X3_stock 20 a1 h8) (fun r9 h10 => some (r9, h10)))) else some ((-4 : Int32), h4)))
set_option maxHeartbeats 4000000 in
set_option maxRecDepth 100000 in
theorem c_X4_lay (l : Launch) (G : GG) {a1 : Int32} {a2 : Int32} {h : PH} {res : Int32 × PH} (hF : f_X4_lay a1 a2 h = some res) : MI l G yX4_lay cX4_lay 3 .int 3 [.ref (G.2.2.2.2 0), .int a1, .int a2] h res := by
  unfold f_X4_lay at hF
  refine MI_of (by decide +kernel) (Nat.le_of_ble_eq_true rfl) ?_
  intro p e s m args below meth c ls C hl
  have hK := hF
  clear hF
  have hl : lv_has ls 3 [(0, .ref (G.2.2.2.2 0)), (1, .int a1), (2, .int a2)] := hl
  have C : cx p s m args meth c G RX4 cX4_lay 3 (some .int) := C
  refine q_iload_n C dX4_lay_0 rfl (lv_at hl 2 rfl) ?_
  refine q_iconst C (v := 1) dX4_lay_1 (by decide) ?_
  refine q_bipush C (v := 9) dX4_lay_2 (by decide) ?_
  obtain ⟨r1, h2, hfr1, hK⟩ := bd_so hK
  refine q_callSi C s_X4_isWithin w_ml_X4_59 (c_X4_isWithin l G hfr1) (by decide) hl.1 rfl rfl (Nat.le_of_ble_eq_true rfl) dX4_lay_4 ?_
  refine q_if_ne C dX4_lay_7 (tgt := 13) (by decide) (fun hc => ?_) (fun hc => ?_)
  · replace hK := if_ne hc hK
    refine q_aload_n C dX4_lay_13 rfl (lv_at hl 0 rfl) ?_
    refine g_X4_now C kd_0 w_fl_X4_32 dX4_lay_14 ?_
    refine q_iload_n C dX4_lay_17 rfl (lv_at hl 1 rfl) ?_
    obtain ⟨r3, h4, hfr3, hK⟩ := bd_so hK
    refine q_callVi C s_X3_stock w_ml_X4_182 (c_X3_stock l G hfr3) kd_20 rfl (by decide) (ce_2 kd_20) (by decide) hl.1 rfl rfl (Nat.le_of_ble_eq_true rfl) dX4_lay_18 ?_
    refine q_iload_n C dX4_lay_21 rfl (lv_at hl 2 rfl) ?_
    refine q_iadd C dX4_lay_22 ?_
    refine q_bipush C (v := 99) dX4_lay_23 (by decide) ?_
    refine q_icmp_le C dX4_lay_25 (tgt := 31) (by decide) (fun hc => ?_) (fun hc => ?_)
    · replace hK := if_po hc hK
      refine q_aload_n C dX4_lay_31 rfl (lv_at hl 0 rfl) ?_
      obtain ⟨r5, h6, hfr5, hK⟩ := bd_so hK
      refine q_callVv C s_X4_rememberAct w_ml_X4_160 (c_X4_rememberAct l G hfr5) kd_0 rfl (by decide) (ce_3 kd_0) (by decide) hl.1 rfl rfl (Nat.le_of_ble_eq_true rfl) dX4_lay_32 ?_
      refine q_aload_n C dX4_lay_35 rfl (lv_at hl 0 rfl) ?_
      refine g_X4_now C kd_0 w_fl_X4_32 dX4_lay_36 ?_
      refine q_iload_n C dX4_lay_39 rfl (lv_at hl 1 rfl) ?_
      refine q_iload_n C dX4_lay_40 rfl (lv_at hl 2 rfl) ?_
      obtain ⟨r7, h8, hfr7, hK⟩ := bd_so hK
      refine q_callVv C s_X3_addStock w_ml_X4_185 (c_X3_addStock l G hfr7) kd_20 rfl (by decide) (ce_2 kd_20) (by decide) hl.1 rfl rfl (Nat.le_of_ble_eq_true rfl) dX4_lay_41 ?_
      refine q_aload_n C dX4_lay_44 rfl (lv_at hl 0 rfl) ?_
      refine g_X4_now C kd_0 w_fl_X4_32 dX4_lay_45 ?_
      refine q_iload_n C dX4_lay_48 rfl (lv_at hl 1 rfl) ?_
      obtain ⟨r9, h10, hfr9, hK⟩ := bd_so hK
      refine q_callVi C s_X3_stock w_ml_X4_182 (c_X3_stock l G hfr9) kd_20 rfl (by decide) (ce_2 kd_20) (by decide) hl.1 rfl rfl (Nat.le_of_ble_eq_true rfl) dX4_lay_49 ?_
      cases hK
      exact q_iret C dX4_lay_52
    · replace hK := if_ne hc hK
      refine q_bipush C (v := -4) dX4_lay_28 (by decide) ?_
      cases hK
      exact q_iret C dX4_lay_30
  · replace hK := if_po hc hK
    refine q_bipush C (v := -2) dX4_lay_10 (by decide) ?_
    cases hK
    exact q_iret C dX4_lay_12
theorem s_X4_lay : sv yX4_lay cX4_lay 3 (some .int) 2 := ⟨w_co_X4_lay, w_im_X4_lay, w_se_X4_lay, w_in_X4, by decide +kernel, by decide⟩
def f_X4_set (a1 : Int32) (a2 : Int32) (h : PH) : Option (Int32 × PH) := bd (f_X1_hasValve 12 a1 h) (fun r1 h2 => if r1 = 0 then some ((-1 : Int32), h2) else bd (f_X4_isWithin a2 (0 : Int32) (99 : Int32) h2) (fun r3 h4 => if r3 = 0 then some ((-2 : Int32), h4) else bd (f_X4_rememberAct h4) (fun _ h6 => rd h6 (20 + 3) a1 (fun x7 => wr h6 (20 + 3) a1 a2 (fun h8 => some (x7, h8))))))
set_option maxHeartbeats 4000000 in
set_option maxRecDepth 100000 in
theorem c_X4_set (l : Launch) (G : GG) {a1 : Int32} {a2 : Int32} {h : PH} {res : Int32 × PH} (hF : f_X4_set a1 a2 h = some res) : MI l G yX4_set cX4_set 4 .int 3 [.ref (G.2.2.2.2 0), .int a1, .int a2] h res := by
  unfold f_X4_set at hF
  refine MI_of (by decide +kernel) (Nat.le_of_ble_eq_true rfl) ?_
  intro p e s m args below meth c ls C hl
  have hK := hF
  clear hF
  have hl : lv_has ls 4 [(0, .ref (G.2.2.2.2 0)), (1, .int a1), (2, .int a2)] := hl
  have C : cx p s m args meth c G RX4 cX4_set 4 (some .int) := C
  refine q_aload_n C dX4_set_0 rfl (lv_at hl 0 rfl) ?_
  refine g_X4_plan C kd_0 w_fl_X4_23 dX4_set_1 ?_
  refine q_iload_n C dX4_set_4 rfl (lv_at hl 1 rfl) ?_
  obtain ⟨r1, h2, hfr1, hK⟩ := bd_so hK
  refine q_callVi C s_X1_hasValve w_ml_X4_141 (c_X1_hasValve l G hfr1) kd_12 rfl (by decide) (ce_0 kd_12) (by decide) hl.1 rfl rfl (Nat.le_of_ble_eq_true rfl) dX4_set_5 ?_
  refine q_if_ne C dX4_set_8 (tgt := 13) (by decide) (fun hc => ?_) (fun hc => ?_)
  · replace hK := if_ne hc hK
    refine q_iload_n C dX4_set_13 rfl (lv_at hl 2 rfl) ?_
    refine q_iconst C (v := 0) dX4_set_14 (by decide) ?_
    refine q_bipush C (v := 99) dX4_set_15 (by decide) ?_
    obtain ⟨r3, h4, hfr3, hK⟩ := bd_so hK
    refine q_callSi C s_X4_isWithin w_ml_X4_59 (c_X4_isWithin l G hfr3) (by decide) hl.1 rfl rfl (Nat.le_of_ble_eq_true rfl) dX4_set_17 ?_
    refine q_if_ne C dX4_set_20 (tgt := 26) (by decide) (fun hc => ?_) (fun hc => ?_)
    · replace hK := if_ne hc hK
      refine q_aload_n C dX4_set_26 rfl (lv_at hl 0 rfl) ?_
      obtain ⟨r5, h6, hfr5, hK⟩ := bd_so hK
      refine q_callVv C s_X4_rememberAct w_ml_X4_160 (c_X4_rememberAct l G hfr5) kd_0 rfl (by decide) (ce_3 kd_0) (by decide) hl.1 rfl rfl (Nat.le_of_ble_eq_true rfl) dX4_set_27 ?_
      refine q_aload_n C dX4_set_30 rfl (lv_at hl 0 rfl) ?_
      refine g_X4_now C kd_0 w_fl_X4_32 dX4_set_31 ?_
      refine g_X3_settings C kd_20 w_fl_X4_144 dX4_set_34 ?_
      refine q_iload_n C dX4_set_37 rfl (lv_at hl 1 rfl) ?_
      obtain ⟨x7, hx7, hK⟩ := rd_so hK
      refine q_iald C (kd_s3 kd_20) hx7 dX4_set_38 ?_
      refine q_istore_n C dX4_set_39 rfl hl (by decide) (lv2 := [(3, .int _), (0, .ref _), (1, .int _), (2, .int _)]) rfl (fun ls hl => ?_)
      refine q_aload_n C dX4_set_40 rfl (lv_at hl 1 rfl) ?_
      refine g_X4_now C kd_0 w_fl_X4_32 dX4_set_41 ?_
      refine g_X3_settings C kd_20 w_fl_X4_144 dX4_set_44 ?_
      refine q_iload_n C dX4_set_47 rfl (lv_at hl 2 rfl) ?_
      refine q_iload_n C dX4_set_48 rfl (lv_at hl 3 rfl) ?_
      obtain ⟨h8, hh8, hK⟩ := wr_so hK
      refine q_iast C (kd_s3 kd_20) hh8 dX4_set_49 ?_
      refine q_iload_n C dX4_set_50 rfl (lv_at hl 0 rfl) ?_
      cases hK
      exact q_iret C dX4_set_51
    · replace hK := if_po hc hK
      refine q_bipush C (v := -2) dX4_set_23 (by decide) ?_
      cases hK
      exact q_iret C dX4_set_25
  · replace hK := if_po hc hK
    refine q_iconst C (v := -1) dX4_set_11 (by decide) ?_
    cases hK
    exact q_iret C dX4_set_12
theorem s_X4_set : sv yX4_set cX4_set 4 (some .int) 2 := ⟨w_co_X4_set, w_im_X4_set, w_se_X4_set, w_in_X4, by decide +kernel, by decide⟩
def f_X4_come (a1 : Int32) (h : PH) : Option (Int32 × PH) := bd (f_X4_isWithin a1 (0 : Int32) (2 : Int32) h) (fun r1 h2 => if r1 = 0 then some ((-2 : Int32), h2) else if (h2.1 20 6) < (24 : Int32) then bd (f_X4_rememberAct h2) (fun _ h4 => bd (f_X3_addEntry 20 a1 h4) (fun _ h6 => some ((h6.1 20 6), h6))) else some ((-4 : Int32), h2))
set_option maxHeartbeats 4000000 in
set_option maxRecDepth 100000 in
theorem c_X4_come (l : Launch) (G : GG) {a1 : Int32} {h : PH} {res : Int32 × PH} (hF : f_X4_come a1 h = some res) : MI l G yX4_come cX4_come 2 .int 3 [.ref (G.2.2.2.2 0), .int a1] h res := by
  unfold f_X4_come at hF
  refine MI_of (by decide +kernel) (Nat.le_of_ble_eq_true rfl) ?_
  intro p e s m args below meth c ls C hl
  have hK := hF
  clear hF
  have hl : lv_has ls 2 [(0, .ref (G.2.2.2.2 0)), (1, .int a1)] := hl
  have C : cx p s m args meth c G RX4 cX4_come 2 (some .int) := C
  refine q_iload_n C dX4_come_0 rfl (lv_at hl 1 rfl) ?_
  refine q_iconst C (v := 0) dX4_come_1 (by decide) ?_
  refine q_iconst C (v := 2) dX4_come_2 (by decide) ?_
  obtain ⟨r1, h2, hfr1, hK⟩ := bd_so hK
  refine q_callSi C s_X4_isWithin w_ml_X4_59 (c_X4_isWithin l G hfr1) (by decide) hl.1 rfl rfl (Nat.le_of_ble_eq_true rfl) dX4_come_3 ?_
  refine q_if_ne C dX4_come_6 (tgt := 12) (by decide) (fun hc => ?_) (fun hc => ?_)
  · replace hK := if_ne hc hK
    refine q_aload_n C dX4_come_12 rfl (lv_at hl 0 rfl) ?_
    refine g_X4_now C kd_0 w_fl_X4_32 dX4_come_13 ?_
    refine g_X3_entryCount C kd_20 w_fl_X4_150 dX4_come_16 ?_
    refine q_bipush C (v := 24) dX4_come_19 (by decide) ?_
    refine q_icmp_lt C dX4_come_21 (tgt := 27) (by decide) (fun hc => ?_) (fun hc => ?_)
    · replace hK := if_po hc hK
      refine q_aload_n C dX4_come_27 rfl (lv_at hl 0 rfl) ?_
      obtain ⟨r3, h4, hfr3, hK⟩ := bd_so hK
      refine q_callVv C s_X4_rememberAct w_ml_X4_160 (c_X4_rememberAct l G hfr3) kd_0 rfl (by decide) (ce_3 kd_0) (by decide) hl.1 rfl rfl (Nat.le_of_ble_eq_true rfl) dX4_come_28 ?_
      refine q_aload_n C dX4_come_31 rfl (lv_at hl 0 rfl) ?_
      refine g_X4_now C kd_0 w_fl_X4_32 dX4_come_32 ?_
      refine q_iload_n C dX4_come_35 rfl (lv_at hl 1 rfl) ?_
      obtain ⟨r5, h6, hfr5, hK⟩ := bd_so hK
      refine q_callVv C s_X3_addEntry w_ml_X4_189 (c_X3_addEntry l G hfr5) kd_20 rfl (by decide) (ce_2 kd_20) (by decide) hl.1 rfl rfl (Nat.le_of_ble_eq_true rfl) dX4_come_36 ?_
      refine q_aload_n C dX4_come_39 rfl (lv_at hl 0 rfl) ?_
      refine g_X4_now C kd_0 w_fl_X4_32 dX4_come_40 ?_
      refine g_X3_entryCount C kd_20 w_fl_X4_150 dX4_come_43 ?_
      cases hK
      exact q_iret C dX4_come_46
    · replace hK := if_ne hc hK
      refine q_bipush C (v := -4) dX4_come_24 (by decide) ?_
      cases hK
      exact q_iret C dX4_come_26
  · replace hK := if_po hc hK
    refine q_bipush C (v := -2) dX4_come_9 (by decide) ?_
    cases hK
    exact q_iret C dX4_come_11
theorem s_X4_come : sv yX4_come cX4_come 2 (some .int) 1 := ⟨w_co_X4_come, w_im_X4_come, w_se_X4_come, w_in_X4, by decide +kernel, by decide⟩
def f_X4_undo (h : PH) : Option (Int32 × PH) := if (h.1 0 7) = 0 then some ((-3 : Int32), h) else st h 0 8 (irm (((h.1 0 8) + (14 : Int32)) - (1 : Int32)) (14 : Int32)) (fun h1 => st h1 0 7 ((h1.1 0 7) - (1 : Int32)) (fun h2 => rq 2 (h2.1 0 8) (fun q3 => bd (f_X3_copyFrom 20 q3 h2) (fun _ h5 => some ((h5.1 0 7), h5)))))
set_option maxHeartbeats 4000000 in
set_option maxRecDepth 100000 in
theorem c_X4_undo (l : Launch) (G : GG) {h : PH} {res : Int32 × PH} (hF : f_X4_undo h = some res) : MI l G yX4_undo cX4_undo 1 .int 2 [.ref (G.2.2.2.2 0)] h res := by
  unfold f_X4_undo at hF
  refine MI_of (by decide +kernel) (Nat.le_of_ble_eq_true rfl) ?_
  intro p e s m args below meth c ls C hl
  have hK := hF
  clear hF
  have hl : lv_has ls 1 [(0, .ref (G.2.2.2.2 0))] := hl
  have C : cx p s m args meth c G RX4 cX4_undo 1 (some .int) := C
  refine q_aload_n C dX4_undo_0 rfl (lv_at hl 0 rfl) ?_
  refine g_X4_pastCount C kd_0 w_fl_X4_99 dX4_undo_1 ?_
  refine q_if_ne C dX4_undo_4 (tgt := 10) (by decide) (fun hc => ?_) (fun hc => ?_)
  · replace hK := if_ne hc hK
    refine q_aload_n C dX4_undo_10 rfl (lv_at hl 0 rfl) ?_
    refine q_aload_n C dX4_undo_11 rfl (lv_at hl 0 rfl) ?_
    refine g_X4_nextPast C kd_0 w_fl_X4_193 dX4_undo_12 ?_
    refine q_bipush C (v := 14) dX4_undo_15 (by decide) ?_
    refine q_iadd C dX4_undo_17 ?_
    refine q_iconst C (v := 1) dX4_undo_18 (by decide) ?_
    refine q_isub C dX4_undo_19 ?_
    refine q_bipush C (v := 14) dX4_undo_20 (by decide) ?_
    refine q_irem C dX4_undo_22 (by decide) ?_
    obtain ⟨h1, hh1, hK⟩ := st_so hK
    refine p_X4_nextPast C kd_0 w_fl_X4_193 hh1 dX4_undo_23 ?_
    refine q_aload_n C dX4_undo_26 rfl (lv_at hl 0 rfl) ?_
    refine q_dup C dX4_undo_27 rfl ?_
    refine g_X4_pastCount C kd_0 w_fl_X4_99 dX4_undo_28 ?_
    refine q_iconst C (v := 1) dX4_undo_31 (by decide) ?_
    refine q_isub C dX4_undo_32 ?_
    obtain ⟨h2, hh2, hK⟩ := st_so hK
    refine p_X4_pastCount C kd_0 w_fl_X4_99 hh2 dX4_undo_33 ?_
    refine q_aload_n C dX4_undo_36 rfl (lv_at hl 0 rfl) ?_
    refine g_X4_now C kd_0 w_fl_X4_32 dX4_undo_37 ?_
    refine q_aload_n C dX4_undo_40 rfl (lv_at hl 0 rfl) ?_
    refine g_X4_past C kd_0 w_fl_X4_39 dX4_undo_41 ?_
    refine q_aload_n C dX4_undo_44 rfl (lv_at hl 0 rfl) ?_
    refine g_X4_nextPast C kd_0 w_fl_X4_193 dX4_undo_45 ?_
    obtain ⟨q3, hq3, hK⟩ := rq_so hK
    refine q_aald C kd_2 hq3 dX4_undo_48 ?_
    have kq3 : kd q3 = 2 := by rw [hq3.2]; exact kd_sta2 hq3.1
    obtain ⟨r4, h5, hfr4, hK⟩ := bd_so hK
    refine q_callVv C s_X3_copyFrom w_ml_X4_78 (c_X3_copyFrom l G hfr4) kd_20 rfl (by decide) (ce_2 kd_20) (by decide) hl.1 rfl rfl (Nat.le_of_ble_eq_true rfl) dX4_undo_49 ?_
    refine q_aload_n C dX4_undo_52 rfl (lv_at hl 0 rfl) ?_
    refine g_X4_pastCount C kd_0 w_fl_X4_99 dX4_undo_53 ?_
    cases hK
    exact q_iret C dX4_undo_56
  · replace hK := if_po hc hK
    refine q_bipush C (v := -3) dX4_undo_7 (by decide) ?_
    cases hK
    exact q_iret C dX4_undo_9
theorem s_X4_undo : sv yX4_undo cX4_undo 1 (some .int) 0 := ⟨w_co_X4_undo, w_im_X4_undo, w_se_X4_undo, w_in_X4, by decide +kernel, by decide⟩
def f_X4_ahead (a1 : Int32) (a2 : Int32) (h : PH) : Option (Int32 × PH) := bd (f_X4_isWithin a1 (0 : Int32) (99 : Int32) h) (fun r1 h2 => if r1 = 0 then some ((-2 : Int32), h2) else bd (f_X4_isWithin a2 (5 : Int32) (17 : Int32) h2) (fun r3 h4 => if r3 = 0 then some ((-2 : Int32), h4) else bd (f_X3_copyFrom 25 20 h4) (fun _ h6 => bd (f_X3_advance 25 a1 h6) (fun r7 h8 => bd (f_X3_number 25 a2 h8) (fun r9 h10 => some (r9, h10))))))
set_option maxHeartbeats 4000000 in
set_option maxRecDepth 100000 in
theorem c_X4_ahead (l : Launch) (G : GG) {a1 : Int32} {a2 : Int32} {h : PH} {res : Int32 × PH} (hF : f_X4_ahead a1 a2 h = some res) : MI l G yX4_ahead cX4_ahead 3 .int 4 [.ref (G.2.2.2.2 0), .int a1, .int a2] h res := by
  unfold f_X4_ahead at hF
  refine MI_of (by decide +kernel) (Nat.le_of_ble_eq_true rfl) ?_
  intro p e s m args below meth c ls C hl
  have hK := hF
  clear hF
  have hl : lv_has ls 3 [(0, .ref (G.2.2.2.2 0)), (1, .int a1), (2, .int a2)] := hl
  have C : cx p s m args meth c G RX4 cX4_ahead 3 (some .int) := C
  refine q_iload_n C dX4_ahead_0 rfl (lv_at hl 1 rfl) ?_
  refine q_iconst C (v := 0) dX4_ahead_1 (by decide) ?_
  refine q_bipush C (v := 99) dX4_ahead_2 (by decide) ?_
  obtain ⟨r1, h2, hfr1, hK⟩ := bd_so hK
  refine q_callSi C s_X4_isWithin w_ml_X4_59 (c_X4_isWithin l G hfr1) (by decide) hl.1 rfl rfl (Nat.le_of_ble_eq_true rfl) dX4_ahead_4 ?_
  refine q_if_eq C dX4_ahead_7 (tgt := 20) (by decide) (fun hc => ?_) (fun hc => ?_)
  · replace hK := if_po hc hK
    refine q_bipush C (v := -2) dX4_ahead_20 (by decide) ?_
    cases hK
    exact q_iret C dX4_ahead_22
  · replace hK := if_ne hc hK
    refine q_iload_n C dX4_ahead_10 rfl (lv_at hl 2 rfl) ?_
    refine q_iconst C (v := 5) dX4_ahead_11 (by decide) ?_
    refine q_bipush C (v := 17) dX4_ahead_12 (by decide) ?_
    obtain ⟨r3, h4, hfr3, hK⟩ := bd_so hK
    refine q_callSi C s_X4_isWithin w_ml_X4_59 (c_X4_isWithin l G hfr3) (by decide) hl.1 rfl rfl (Nat.le_of_ble_eq_true rfl) dX4_ahead_14 ?_
    refine q_if_ne C dX4_ahead_17 (tgt := 23) (by decide) (fun hc => ?_) (fun hc => ?_)
    · replace hK := if_ne hc hK
      refine q_aload_n C dX4_ahead_23 rfl (lv_at hl 0 rfl) ?_
      refine g_X4_trial C kd_0 w_fl_X4_36 dX4_ahead_24 ?_
      refine q_aload_n C dX4_ahead_27 rfl (lv_at hl 0 rfl) ?_
      refine g_X4_now C kd_0 w_fl_X4_32 dX4_ahead_28 ?_
      obtain ⟨r5, h6, hfr5, hK⟩ := bd_so hK
      refine q_callVv C s_X3_copyFrom w_ml_X4_78 (c_X3_copyFrom l G hfr5) kd_25 rfl (by decide) (ce_2 kd_25) (by decide) hl.1 rfl rfl (Nat.le_of_ble_eq_true rfl) dX4_ahead_31 ?_
      refine q_aload_n C dX4_ahead_34 rfl (lv_at hl 0 rfl) ?_
      refine g_X4_trial C kd_0 w_fl_X4_36 dX4_ahead_35 ?_
      refine q_iload_n C dX4_ahead_38 rfl (lv_at hl 1 rfl) ?_
      obtain ⟨r7, h8, hfr7, hK⟩ := bd_so hK
      refine q_callVi C s_X3_advance w_ml_X4_163 (c_X3_advance l G hfr7) kd_25 rfl (by decide) (ce_2 kd_25) (by decide) hl.1 rfl rfl (Nat.le_of_ble_eq_true rfl) dX4_ahead_39 ?_
      refine q_pop C dX4_ahead_42 rfl ?_
      refine q_aload_n C dX4_ahead_43 rfl (lv_at hl 0 rfl) ?_
      refine g_X4_trial C kd_0 w_fl_X4_36 dX4_ahead_44 ?_
      refine q_iload_n C dX4_ahead_47 rfl (lv_at hl 2 rfl) ?_
      obtain ⟨r9, h10, hfr9, hK⟩ := bd_so hK
      refine q_callVi C s_X3_number w_ml_X4_105 (c_X3_number l G hfr9) kd_25 rfl (by decide) (ce_2 kd_25) (by decide) hl.1 rfl rfl (Nat.le_of_ble_eq_true rfl) dX4_ahead_48 ?_
      cases hK
      exact q_iret C dX4_ahead_51
    · replace hK := if_po hc hK
      refine q_bipush C (v := -2) dX4_ahead_20 (by decide) ?_
      cases hK
      exact q_iret C dX4_ahead_22
theorem s_X4_ahead : sv yX4_ahead cX4_ahead 3 (some .int) 2 := ⟨w_co_X4_ahead, w_im_X4_ahead, w_se_X4_ahead, w_in_X4, by decide +kernel, by decide⟩
def f_X4_wayInNextStep (a1 : Int32) (h : PH) : Option (Int32 × PH) := if a1 < ((h.1 12 0) - (1 : Int32)) then bd (f_X3_advance 25 (1 : Int32) h) (fun r1 h2 => rd h2 (12 + 1) (4 : Int32) (fun x3 => if (a1 + (1 : Int32)) = x3 then if (h2.1 25 14) ≤ (h.1 25 14) then if (h2.1 25 15) ≤ (h.1 25 15) then some ((-9 : Int32), h2) else some ((4 : Int32), h2) else some ((3 : Int32), h2) else some ((-9 : Int32), h2))) else rd h (25 + 1) ((h.1 12 0) - (1 : Int32)) (fun x4 => bd (f_X1_isGood 12 x4 h) (fun r5 h6 => if r5 = 0 then some ((2 : Int32), h6) else some ((1 : Int32), h6)))
set_option maxHeartbeats 4000000 in
set_option maxRecDepth 100000 in
theorem c_X4_wayInNextStep (l : Launch) (G : GG) {a1 : Int32} {h : PH} {res : Int32 × PH} (hF : f_X4_wayInNextStep a1 h = some res) : MI l G yX4_wayInNextStep cX4_wayInNextStep 4 .int 4 [.ref (G.2.2.2.2 0), .int a1] h res := by
  unfold f_X4_wayInNextStep at hF
  refine MI_of (by decide +kernel) (Nat.le_of_ble_eq_true rfl) ?_
  intro p e s m args below meth c ls C hl
  have hK := hF
  clear hF
  have hl : lv_has ls 4 [(0, .ref (G.2.2.2.2 0)), (1, .int a1)] := hl
  have C : cx p s m args meth c G RX4 cX4_wayInNextStep 4 (some .int) := C
  refine q_iload_n C dX4_wayInNextStep_0 rfl (lv_at hl 1 rfl) ?_
  refine q_aload_n C dX4_wayInNextStep_1 rfl (lv_at hl 0 rfl) ?_
  refine g_X4_plan C kd_0 w_fl_X4_23 dX4_wayInNextStep_2 ?_
  refine g_X1_cells C kd_12 w_fl_X4_87 dX4_wayInNextStep_5 ?_
  refine q_iconst C (v := 1) dX4_wayInNextStep_8 (by decide) ?_
  refine q_isub C dX4_wayInNextStep_9 ?_
  refine q_icmp_lt C dX4_wayInNextStep_10 (tgt := 46) (by decide) (fun hc => ?_) (fun hc => ?_)
  · replace hK := if_po hc hK
    refine q_aload_n C dX4_wayInNextStep_46 rfl (lv_at hl 0 rfl) ?_
    refine g_X4_trial C kd_0 w_fl_X4_36 dX4_wayInNextStep_47 ?_
    refine g_X3_rejected C kd_25 w_fl_X4_233 dX4_wayInNextStep_50 ?_
    refine q_istore_n C dX4_wayInNextStep_53 rfl hl (by decide) (lv2 := [(2, .int _), (0, .ref _), (1, .int _)]) rfl (fun ls hl => ?_)
    refine q_aload_n C dX4_wayInNextStep_54 rfl (lv_at hl 1 rfl) ?_
    refine g_X4_trial C kd_0 w_fl_X4_36 dX4_wayInNextStep_55 ?_
    refine g_X3_sampled C kd_25 w_fl_X4_236 dX4_wayInNextStep_58 ?_
    refine q_istore_n C dX4_wayInNextStep_61 rfl hl (by decide) (lv2 := [(3, .int _), (2, .int _), (0, .ref _), (1, .int _)]) rfl (fun ls hl => ?_)
    refine q_aload_n C dX4_wayInNextStep_62 rfl (lv_at hl 2 rfl) ?_
    refine g_X4_trial C kd_0 w_fl_X4_36 dX4_wayInNextStep_63 ?_
    refine q_iconst C (v := 1) dX4_wayInNextStep_66 (by decide) ?_
    obtain ⟨r1, h2, hfr1, hK⟩ := bd_so hK
    refine q_callVi C s_X3_advance w_ml_X4_163 (c_X3_advance l G hfr1) kd_25 rfl (by decide) (ce_2 kd_25) (by decide) hl.1 rfl rfl (Nat.le_of_ble_eq_true rfl) dX4_wayInNextStep_67 ?_
    refine q_pop C dX4_wayInNextStep_70 rfl ?_
    refine q_iload_n C dX4_wayInNextStep_71 rfl (lv_at hl 3 rfl) ?_
    refine q_iconst C (v := 1) dX4_wayInNextStep_72 (by decide) ?_
    refine q_iadd C dX4_wayInNextStep_73 ?_
    refine q_aload_n C dX4_wayInNextStep_74 rfl (lv_at hl 2 rfl) ?_
    refine g_X4_plan C kd_0 w_fl_X4_23 dX4_wayInNextStep_75 ?_
    refine g_X1_stations C kd_12 w_fl_X4_109 dX4_wayInNextStep_78 ?_
    refine q_iconst C (v := 4) dX4_wayInNextStep_81 (by decide) ?_
    obtain ⟨x3, hx3, hK⟩ := rd_so hK
    refine q_iald C (kd_p1 kd_12) hx3 dX4_wayInNextStep_82 ?_
    refine q_icmp_eq C dX4_wayInNextStep_83 (tgt := 89) (by decide) (fun hc => ?_) (fun hc => ?_)
    · replace hK := if_po hc hK
      refine q_aload_n C dX4_wayInNextStep_89 rfl (lv_at hl 2 rfl) ?_
      refine g_X4_trial C kd_0 w_fl_X4_36 dX4_wayInNextStep_90 ?_
      refine g_X3_rejected C kd_25 w_fl_X4_233 dX4_wayInNextStep_93 ?_
      refine q_iload_n C dX4_wayInNextStep_96 rfl (lv_at hl 1 rfl) ?_
      refine q_icmp_le C dX4_wayInNextStep_97 (tgt := 102) (by decide) (fun hc => ?_) (fun hc => ?_)
      · replace hK := if_po hc hK
        refine q_aload_n C dX4_wayInNextStep_102 rfl (lv_at hl 2 rfl) ?_
        refine g_X4_trial C kd_0 w_fl_X4_36 dX4_wayInNextStep_103 ?_
        refine g_X3_sampled C kd_25 w_fl_X4_236 dX4_wayInNextStep_106 ?_
        refine q_iload_n C dX4_wayInNextStep_109 rfl (lv_at hl 0 rfl) ?_
        refine q_icmp_le C dX4_wayInNextStep_110 (tgt := 117) (by decide) (fun hc => ?_) (fun hc => ?_)
        · replace hK := if_po hc hK
          refine q_bipush C (v := -9) dX4_wayInNextStep_117 (by decide) ?_
          cases hK
          exact q_iret C dX4_wayInNextStep_119
        · replace hK := if_ne hc hK
          refine q_iconst C (v := 4) dX4_wayInNextStep_113 (by decide) ?_
          refine q_goto C dX4_wayInNextStep_114 (tgt := 119) (by decide) ?_
          cases hK
          exact q_iret C dX4_wayInNextStep_119
      · replace hK := if_ne hc hK
        refine q_iconst C (v := 3) dX4_wayInNextStep_100 (by decide) ?_
        cases hK
        exact q_iret C dX4_wayInNextStep_101
    · replace hK := if_ne hc hK
      refine q_bipush C (v := -9) dX4_wayInNextStep_86 (by decide) ?_
      cases hK
      exact q_iret C dX4_wayInNextStep_88
  · replace hK := if_ne hc hK
    refine q_aload_n C dX4_wayInNextStep_13 rfl (lv_at hl 0 rfl) ?_
    refine g_X4_plan C kd_0 w_fl_X4_23 dX4_wayInNextStep_14 ?_
    refine q_aload_n C dX4_wayInNextStep_17 rfl (lv_at hl 0 rfl) ?_
    refine g_X4_trial C kd_0 w_fl_X4_36 dX4_wayInNextStep_18 ?_
    refine g_X3_bottles C kd_25 w_fl_X4_116 dX4_wayInNextStep_21 ?_
    refine q_aload_n C dX4_wayInNextStep_24 rfl (lv_at hl 0 rfl) ?_
    refine g_X4_plan C kd_0 w_fl_X4_23 dX4_wayInNextStep_25 ?_
    refine g_X1_cells C kd_12 w_fl_X4_87 dX4_wayInNextStep_28 ?_
    refine q_iconst C (v := 1) dX4_wayInNextStep_31 (by decide) ?_
    refine q_isub C dX4_wayInNextStep_32 ?_
    obtain ⟨x4, hx4, hK⟩ := rd_so hK
    refine q_iald C (kd_s1 kd_25) hx4 dX4_wayInNextStep_33 ?_
    obtain ⟨r5, h6, hfr5, hK⟩ := bd_so hK
    refine q_callVi C s_X1_isGood w_ml_X4_138 (c_X1_isGood l G hfr5) kd_12 rfl (by decide) (ce_0 kd_12) (by decide) hl.1 rfl rfl (Nat.le_of_ble_eq_true rfl) dX4_wayInNextStep_34 ?_
    refine q_if_eq C dX4_wayInNextStep_37 (tgt := 44) (by decide) (fun hc => ?_) (fun hc => ?_)
    · replace hK := if_po hc hK
      refine q_iconst C (v := 2) dX4_wayInNextStep_44 (by decide) ?_
      cases hK
      exact q_iret C dX4_wayInNextStep_45
    · replace hK := if_ne hc hK
      refine q_iconst C (v := 1) dX4_wayInNextStep_40 (by decide) ?_
      refine q_goto C dX4_wayInNextStep_41 (tgt := 45) (by decide) ?_
      cases hK
      exact q_iret C dX4_wayInNextStep_45
theorem s_X4_wayInNextStep : sv yX4_wayInNextStep cX4_wayInNextStep 4 (some .int) 1 := ⟨w_co_X4_wayInNextStep, w_im_X4_wayInNextStep, w_se_X4_wayInNextStep, w_in_X4, by decide +kernel, by decide⟩
def f_X4_goes_b53 : Nat → Int32 → Int32 → Int32 → PH → Option (Int32 × PH)
  | 0, _, _, _, _ => none
  | n + 1, v1, v2, v3, h => if (60 : Int32) ≤ v3 then some ((-9 : Int32), h) else if (h.1 25 10) = 0 then bd (f_X4_wayInNextStep (v1 + v3) h) (fun r8 h9 => if r8 = (-9 : Int32) then (f_X4_goes_b53 n) v1 v2 (v3 + 1) h9 else if v2 = 0 then some ((v3 + (1 : Int32)), h9) else some (r8, h9)) else some ((-9 : Int32), h)
set_option maxHeartbeats 4000000 in
set_option maxRecDepth 100000 in
theorem t_X4_goes_b53 {p : Program} {l : Launch} {e : Env} {s : State} {m : MethodId} {args : Array Value} {below : List Frame} {meth : Method} {c : Code} {G : GG} {res : Int32 × PH} (C : cx p s m args meth c G RX4 cX4_goes 5 (some .int)) (n : Nat) : ∀ (v1 : Int32) (v2 : Int32) (v3 : Int32) (h : PH) (ls : Array Slot), lv_has ls 5 [(0, .ref (G.2.2.2.2 0)), (1, .int v1), (2, .int v2), (3, .int v3)] → f_X4_goes_b53 n v1 v2 v3 h = some res → WW p l e 5 s m args below meth c G h (MQ below (QI G res) args s 0 0 (Ar G)) (F0 m 53 ls []) := by
  induction n with
  | zero => intro v1 v2 v3 h ls hl hK; cases hK
  | succ n ih =>
    intro v1 v2 v3 h ls hl hK
    unfold f_X4_goes_b53 at hK
    refine q_iload_n C dX4_goes_53 rfl (lv_at hl 3 rfl) ?_
    refine q_bipush C (v := 60) dX4_goes_54 (by decide) ?_
    refine q_icmp_ge C dX4_goes_56 (tgt := 104) (by decide) (fun hc => ?_) (fun hc => ?_)
    · replace hK := if_po hc hK
      refine q_bipush C (v := -9) dX4_goes_104 (by decide) ?_
      cases hK
      exact q_iret C dX4_goes_106
    · replace hK := if_ne hc hK
      refine q_aload_n C dX4_goes_59 rfl (lv_at hl 0 rfl) ?_
      refine g_X4_trial C kd_0 w_fl_X4_36 dX4_goes_60 ?_
      refine g_X3_alarm C kd_25 w_fl_X4_156 dX4_goes_63 ?_
      refine q_if_ne C dX4_goes_66 (tgt := 104) (by decide) (fun hc => ?_) (fun hc => ?_)
      · replace hK := if_ne hc hK
        refine q_bipush C (v := -9) dX4_goes_104 (by decide) ?_
        cases hK
        exact q_iret C dX4_goes_106
      · replace hK := if_po hc hK
        refine q_aload_n C dX4_goes_69 rfl (lv_at hl 0 rfl) ?_
        refine q_iload_n C dX4_goes_70 rfl (lv_at hl 1 rfl) ?_
        refine q_iload_n C dX4_goes_71 rfl (lv_at hl 3 rfl) ?_
        refine q_iadd C dX4_goes_72 ?_
        obtain ⟨r8, h9, hfr8, hK⟩ := bd_so hK
        refine q_callVi C s_X4_wayInNextStep w_ml_X4_196 (c_X4_wayInNextStep l G hfr8) kd_0 rfl (by decide) (ce_3 kd_0) (by decide) hl.1 rfl rfl (Nat.le_of_ble_eq_true rfl) dX4_goes_73 ?_
        refine q_istore C dX4_goes_76 hl (by decide) (lv2 := [(4, .int _), (0, .ref _), (1, .int _), (2, .int _), (3, .int _)]) rfl (fun ls hl => ?_)
        refine q_iload C dX4_goes_78 (lv_at hl 0 rfl) ?_
        refine q_bipush C (v := -9) dX4_goes_80 (by decide) ?_
        refine q_icmp_eq C dX4_goes_82 (tgt := 98) (by decide) (fun hc => ?_) (fun hc => ?_)
        · replace hK := if_po hc hK
          refine q_iinc C dX4_goes_98 hl (j := 4) (v := (v3 + 1)) rfl rfl (by decide) (lv2 := [(3, .int _), (4, .int _), (0, .ref _), (1, .int _), (2, .int _)]) rfl (fun ls hl => ?_)
          refine q_goto C dX4_goes_101 (tgt := 53) (by decide) ?_
          exact ih _ _ _ _ _ (lv_sub hl [2, 3, 4, 0] rfl) hK
        · replace hK := if_ne hc hK
          refine q_iload_n C dX4_goes_85 rfl (lv_at hl 3 rfl) ?_
          refine q_if_ne C dX4_goes_86 (tgt := 95) (by decide) (fun hc => ?_) (fun hc => ?_)
          · replace hK := if_ne hc hK
            refine q_iload C dX4_goes_95 (lv_at hl 0 rfl) ?_
            cases hK
            exact q_iret C dX4_goes_97
          · replace hK := if_po hc hK
            refine q_iload_n C dX4_goes_89 rfl (lv_at hl 4 rfl) ?_
            refine q_iconst C (v := 1) dX4_goes_90 (by decide) ?_
            refine q_iadd C dX4_goes_91 ?_
            refine q_goto C dX4_goes_92 (tgt := 97) (by decide) ?_
            cases hK
            exact q_iret C dX4_goes_97
def f_X4_goes (a1 : Int32) (a2 : Int32) (h : PH) : Option (Int32 × PH) := bd (f_X1_hasCell 12 a1 h) (fun r1 h2 => if r1 = 0 then some ((-1 : Int32), h2) else bd (f_X4_isWithin a2 (0 : Int32) (1 : Int32) h2) (fun r3 h4 => if r3 = 0 then some ((-2 : Int32), h4) else rd h4 (20 + 1) a1 (fun x5 => if x5 = 0 then some ((-3 : Int32), h4) else bd (f_X3_copyFrom 25 20 h4) (fun _ h7 => f_X4_goes_b53 200 a1 a2 (0 : Int32) h7))))
set_option maxHeartbeats 4000000 in
set_option maxRecDepth 100000 in
theorem c_X4_goes (l : Launch) (G : GG) {a1 : Int32} {a2 : Int32} {h : PH} {res : Int32 × PH} (hF : f_X4_goes a1 a2 h = some res) : MI l G yX4_goes cX4_goes 5 .int 5 [.ref (G.2.2.2.2 0), .int a1, .int a2] h res := by
  unfold f_X4_goes at hF
  refine MI_of (by decide +kernel) (Nat.le_of_ble_eq_true rfl) ?_
  intro p e s m args below meth c ls C hl
  have hK := hF
  clear hF
  have hl : lv_has ls 5 [(0, .ref (G.2.2.2.2 0)), (1, .int a1), (2, .int a2)] := hl
  have C : cx p s m args meth c G RX4 cX4_goes 5 (some .int) := C
  refine q_aload_n C dX4_goes_0 rfl (lv_at hl 0 rfl) ?_
  refine g_X4_plan C kd_0 w_fl_X4_23 dX4_goes_1 ?_
  refine q_iload_n C dX4_goes_4 rfl (lv_at hl 1 rfl) ?_
  obtain ⟨r1, h2, hfr1, hK⟩ := bd_so hK
  refine q_callVi C s_X1_hasCell w_ml_X4_112 (c_X1_hasCell l G hfr1) kd_12 rfl (by decide) (ce_0 kd_12) (by decide) hl.1 rfl rfl (Nat.le_of_ble_eq_true rfl) dX4_goes_5 ?_
  refine q_if_ne C dX4_goes_8 (tgt := 13) (by decide) (fun hc => ?_) (fun hc => ?_)
  · replace hK := if_ne hc hK
    refine q_iload_n C dX4_goes_13 rfl (lv_at hl 2 rfl) ?_
    refine q_iconst C (v := 0) dX4_goes_14 (by decide) ?_
    refine q_iconst C (v := 1) dX4_goes_15 (by decide) ?_
    obtain ⟨r3, h4, hfr3, hK⟩ := bd_so hK
    refine q_callSi C s_X4_isWithin w_ml_X4_59 (c_X4_isWithin l G hfr3) (by decide) hl.1 rfl rfl (Nat.le_of_ble_eq_true rfl) dX4_goes_16 ?_
    refine q_if_ne C dX4_goes_19 (tgt := 25) (by decide) (fun hc => ?_) (fun hc => ?_)
    · replace hK := if_ne hc hK
      refine q_aload_n C dX4_goes_25 rfl (lv_at hl 0 rfl) ?_
      refine g_X4_now C kd_0 w_fl_X4_32 dX4_goes_26 ?_
      refine g_X3_bottles C kd_20 w_fl_X4_116 dX4_goes_29 ?_
      refine q_iload_n C dX4_goes_32 rfl (lv_at hl 1 rfl) ?_
      obtain ⟨x5, hx5, hK⟩ := rd_so hK
      refine q_iald C (kd_s1 kd_20) hx5 dX4_goes_33 ?_
      refine q_if_ne C dX4_goes_34 (tgt := 40) (by decide) (fun hc => ?_) (fun hc => ?_)
      · replace hK := if_ne hc hK
        refine q_aload_n C dX4_goes_40 rfl (lv_at hl 0 rfl) ?_
        refine g_X4_trial C kd_0 w_fl_X4_36 dX4_goes_41 ?_
        refine q_aload_n C dX4_goes_44 rfl (lv_at hl 0 rfl) ?_
        refine g_X4_now C kd_0 w_fl_X4_32 dX4_goes_45 ?_
        obtain ⟨r6, h7, hfr6, hK⟩ := bd_so hK
        refine q_callVv C s_X3_copyFrom w_ml_X4_78 (c_X3_copyFrom l G hfr6) kd_25 rfl (by decide) (ce_2 kd_25) (by decide) hl.1 rfl rfl (Nat.le_of_ble_eq_true rfl) dX4_goes_48 ?_
        refine q_iconst C (v := 0) dX4_goes_51 (by decide) ?_
        refine q_istore_n C dX4_goes_52 rfl hl (by decide) (lv2 := [(3, .int _), (0, .ref _), (1, .int _), (2, .int _)]) rfl (fun ls hl => ?_)
        exact t_X4_goes_b53 C 200 _ _ _ _ _ (lv_sub hl [1, 2, 3, 0] rfl) hK
      · replace hK := if_po hc hK
        refine q_bipush C (v := -3) dX4_goes_37 (by decide) ?_
        cases hK
        exact q_iret C dX4_goes_39
    · replace hK := if_po hc hK
      refine q_bipush C (v := -2) dX4_goes_22 (by decide) ?_
      cases hK
      exact q_iret C dX4_goes_24
  · replace hK := if_po hc hK
    refine q_iconst C (v := -1) dX4_goes_11 (by decide) ?_
    cases hK
    exact q_iret C dX4_goes_12
theorem s_X4_goes : sv yX4_goes cX4_goes 5 (some .int) 2 := ⟨w_co_X4_goes, w_im_X4_goes, w_se_X4_goes, w_in_X4, by decide +kernel, by decide⟩
def f_X4_best_b20 : Nat → Int32 → Int32 → Int32 → Int32 → PH → Option (Int32 × PH)
  | 0, _, _, _, _, _ => none
  | n + 1, v1, v2, v3, v4, h => if (99 : Int32) < v4 then some (v2, h) else bd (f_X3_copyFrom 25 20 h) (fun _ h4 => wr h4 (25 + 3) v1 v4 (fun h5 => bd (f_X3_advance 25 (30 : Int32) h5) (fun r6 h7 => if (h7.1 25 12) ≤ v3 then (f_X4_best_b20 n) v1 v2 v3 (v4 + 1) h7 else (f_X4_best_b20 n) v1 v4 (h7.1 25 12) (v4 + 1) h7)))
set_option maxHeartbeats 4000000 in
set_option maxRecDepth 100000 in
theorem t_X4_best_b20 {p : Program} {l : Launch} {e : Env} {s : State} {m : MethodId} {args : Array Value} {below : List Frame} {meth : Method} {c : Code} {G : GG} {res : Int32 × PH} (C : cx p s m args meth c G RX4 cX4_best 5 (some .int)) (n : Nat) : ∀ (v1 : Int32) (v2 : Int32) (v3 : Int32) (v4 : Int32) (h : PH) (ls : Array Slot), lv_has ls 5 [(0, .ref (G.2.2.2.2 0)), (1, .int v1), (2, .int v2), (3, .int v3), (4, .int v4)] → f_X4_best_b20 n v1 v2 v3 v4 h = some res → WW p l e 4 s m args below meth c G h (MQ below (QI G res) args s 0 0 (Ar G)) (F0 m 20 ls []) := by
  induction n with
  | zero => intro v1 v2 v3 v4 h ls hl hK; cases hK
  | succ n ih =>
    intro v1 v2 v3 v4 h ls hl hK
    unfold f_X4_best_b20 at hK
    refine q_iload C dX4_best_20 (lv_at hl 4 rfl) ?_
    refine q_bipush C (v := 99) dX4_best_22 (by decide) ?_
    refine q_icmp_gt C dX4_best_24 (tgt := 87) (by decide) (fun hc => ?_) (fun hc => ?_)
    · replace hK := if_po hc hK
      refine q_iload_n C dX4_best_87 rfl (lv_at hl 2 rfl) ?_
      cases hK
      exact q_iret C dX4_best_88
    · replace hK := if_ne hc hK
      refine q_aload_n C dX4_best_27 rfl (lv_at hl 0 rfl) ?_
      refine g_X4_trial C kd_0 w_fl_X4_36 dX4_best_28 ?_
      refine q_aload_n C dX4_best_31 rfl (lv_at hl 0 rfl) ?_
      refine g_X4_now C kd_0 w_fl_X4_32 dX4_best_32 ?_
      obtain ⟨r3, h4, hfr3, hK⟩ := bd_so hK
      refine q_callVv C s_X3_copyFrom w_ml_X4_78 (c_X3_copyFrom l G hfr3) kd_25 rfl (by decide) (ce_2 kd_25) (by decide) hl.1 rfl rfl (Nat.le_of_ble_eq_true rfl) dX4_best_35 ?_
      refine q_aload_n C dX4_best_38 rfl (lv_at hl 0 rfl) ?_
      refine g_X4_trial C kd_0 w_fl_X4_36 dX4_best_39 ?_
      refine g_X3_settings C kd_25 w_fl_X4_144 dX4_best_42 ?_
      refine q_iload_n C dX4_best_45 rfl (lv_at hl 1 rfl) ?_
      refine q_iload C dX4_best_46 (lv_at hl 4 rfl) ?_
      obtain ⟨h5, hh5, hK⟩ := wr_so hK
      refine q_iast C (kd_s3 kd_25) hh5 dX4_best_48 ?_
      refine q_aload_n C dX4_best_49 rfl (lv_at hl 0 rfl) ?_
      refine g_X4_trial C kd_0 w_fl_X4_36 dX4_best_50 ?_
      refine q_bipush C (v := 30) dX4_best_53 (by decide) ?_
      obtain ⟨r6, h7, hfr6, hK⟩ := bd_so hK
      refine q_callVi C s_X3_advance w_ml_X4_163 (c_X3_advance l G hfr6) kd_25 rfl (by decide) (ce_2 kd_25) (by decide) hl.1 rfl rfl (Nat.le_of_ble_eq_true rfl) dX4_best_55 ?_
      refine q_pop C dX4_best_58 rfl ?_
      refine q_aload_n C dX4_best_59 rfl (lv_at hl 0 rfl) ?_
      refine g_X4_trial C kd_0 w_fl_X4_36 dX4_best_60 ?_
      refine g_X3_out C kd_25 w_fl_X4_199 dX4_best_63 ?_
      refine q_iload_n C dX4_best_66 rfl (lv_at hl 3 rfl) ?_
      refine q_icmp_le C dX4_best_67 (tgt := 81) (by decide) (fun hc => ?_) (fun hc => ?_)
      · replace hK := if_po hc hK
        refine q_iinc C dX4_best_81 hl (j := 4) (v := (v4 + 1)) rfl rfl (by decide) (lv2 := [(4, .int _), (0, .ref _), (1, .int _), (2, .int _), (3, .int _)]) rfl (fun ls hl => ?_)
        refine q_goto C dX4_best_84 (tgt := 20) (by decide) ?_
        exact ih _ _ _ _ _ _ (lv_sub hl [1, 2, 3, 4, 0] rfl) hK
      · replace hK := if_ne hc hK
        refine q_aload_n C dX4_best_70 rfl (lv_at hl 0 rfl) ?_
        refine g_X4_trial C kd_0 w_fl_X4_36 dX4_best_71 ?_
        refine g_X3_out C kd_25 w_fl_X4_199 dX4_best_74 ?_
        refine q_istore_n C dX4_best_77 rfl hl (by decide) (lv2 := [(3, .int _), (0, .ref _), (1, .int _), (2, .int _), (4, .int _)]) rfl (fun ls hl => ?_)
        refine q_iload C dX4_best_78 (lv_at hl 4 rfl) ?_
        refine q_istore_n C dX4_best_80 rfl hl (by decide) (lv2 := [(2, .int _), (3, .int _), (0, .ref _), (1, .int _), (4, .int _)]) rfl (fun ls hl => ?_)
        refine q_iinc C dX4_best_81 hl (j := 4) (v := (v4 + 1)) rfl rfl (by decide) (lv2 := [(4, .int _), (2, .int _), (3, .int _), (0, .ref _), (1, .int _)]) rfl (fun ls hl => ?_)
        refine q_goto C dX4_best_84 (tgt := 20) (by decide) ?_
        exact ih _ _ _ _ _ _ (lv_sub hl [3, 4, 1, 2, 0] rfl) hK
def f_X4_best (a1 : Int32) (h : PH) : Option (Int32 × PH) := bd (f_X1_hasValve 12 a1 h) (fun r1 h2 => if r1 = 0 then some ((-1 : Int32), h2) else f_X4_best_b20 200 a1 (0 : Int32) (-1 : Int32) (0 : Int32) h2)
set_option maxHeartbeats 4000000 in
set_option maxRecDepth 100000 in
theorem c_X4_best (l : Launch) (G : GG) {a1 : Int32} {h : PH} {res : Int32 × PH} (hF : f_X4_best a1 h = some res) : MI l G yX4_best cX4_best 5 .int 4 [.ref (G.2.2.2.2 0), .int a1] h res := by
  unfold f_X4_best at hF
  refine MI_of (by decide +kernel) (Nat.le_of_ble_eq_true rfl) ?_
  intro p e s m args below meth c ls C hl
  have hK := hF
  clear hF
  have hl : lv_has ls 5 [(0, .ref (G.2.2.2.2 0)), (1, .int a1)] := hl
  have C : cx p s m args meth c G RX4 cX4_best 5 (some .int) := C
  refine q_aload_n C dX4_best_0 rfl (lv_at hl 0 rfl) ?_
  refine g_X4_plan C kd_0 w_fl_X4_23 dX4_best_1 ?_
  refine q_iload_n C dX4_best_4 rfl (lv_at hl 1 rfl) ?_
  obtain ⟨r1, h2, hfr1, hK⟩ := bd_so hK
  refine q_callVi C s_X1_hasValve w_ml_X4_141 (c_X1_hasValve l G hfr1) kd_12 rfl (by decide) (ce_0 kd_12) (by decide) hl.1 rfl rfl (Nat.le_of_ble_eq_true rfl) dX4_best_5 ?_
  refine q_if_ne C dX4_best_8 (tgt := 13) (by decide) (fun hc => ?_) (fun hc => ?_)
  · replace hK := if_ne hc hK
    refine q_iconst C (v := 0) dX4_best_13 (by decide) ?_
    refine q_istore_n C dX4_best_14 rfl hl (by decide) (lv2 := [(2, .int _), (0, .ref _), (1, .int _)]) rfl (fun ls hl => ?_)
    refine q_iconst C (v := -1) dX4_best_15 (by decide) ?_
    refine q_istore_n C dX4_best_16 rfl hl (by decide) (lv2 := [(3, .int _), (2, .int _), (0, .ref _), (1, .int _)]) rfl (fun ls hl => ?_)
    refine q_iconst C (v := 0) dX4_best_17 (by decide) ?_
    refine q_istore C dX4_best_18 hl (by decide) (lv2 := [(4, .int _), (3, .int _), (2, .int _), (0, .ref _), (1, .int _)]) rfl (fun ls hl => ?_)
    exact t_X4_best_b20 C 200 _ _ _ _ _ _ (lv_sub hl [3, 4, 2, 1, 0] rfl) hK
  · replace hK := if_po hc hK
    refine q_iconst C (v := -1) dX4_best_11 (by decide) ?_
    cases hK
    exact q_iret C dX4_best_12
theorem s_X4_best : sv yX4_best cX4_best 5 (some .int) 1 := ⟨w_co_X4_best, w_im_X4_best, w_se_X4_best, w_in_X4, by decide +kernel, by decide⟩
def f_X4_outWithMore (a1 : Int32) (a2 : Int32) (h : PH) : Option (Int32 × PH) := bd (f_X3_copyFrom 25 20 h) (fun _ h2 => bd (f_X3_addStock 25 a1 a2 h2) (fun _ h4 => bd (f_X3_advance 25 (40 : Int32) h4) (fun r5 h6 => some ((h6.1 25 12), h6))))
set_option maxHeartbeats 4000000 in
set_option maxRecDepth 100000 in
theorem c_X4_outWithMore (l : Launch) (G : GG) {a1 : Int32} {a2 : Int32} {h : PH} {res : Int32 × PH} (hF : f_X4_outWithMore a1 a2 h = some res) : MI l G yX4_outWithMore cX4_outWithMore 3 .int 4 [.ref (G.2.2.2.2 0), .int a1, .int a2] h res := by
  unfold f_X4_outWithMore at hF
  refine MI_of (by decide +kernel) (Nat.le_of_ble_eq_true rfl) ?_
  intro p e s m args below meth c ls C hl
  have hK := hF
  clear hF
  have hl : lv_has ls 3 [(0, .ref (G.2.2.2.2 0)), (1, .int a1), (2, .int a2)] := hl
  have C : cx p s m args meth c G RX4 cX4_outWithMore 3 (some .int) := C
  refine q_aload_n C dX4_outWithMore_0 rfl (lv_at hl 0 rfl) ?_
  refine g_X4_trial C kd_0 w_fl_X4_36 dX4_outWithMore_1 ?_
  refine q_aload_n C dX4_outWithMore_4 rfl (lv_at hl 0 rfl) ?_
  refine g_X4_now C kd_0 w_fl_X4_32 dX4_outWithMore_5 ?_
  obtain ⟨r1, h2, hfr1, hK⟩ := bd_so hK
  refine q_callVv C s_X3_copyFrom w_ml_X4_78 (c_X3_copyFrom l G hfr1) kd_25 rfl (by decide) (ce_2 kd_25) (by decide) hl.1 rfl rfl (Nat.le_of_ble_eq_true rfl) dX4_outWithMore_8 ?_
  refine q_aload_n C dX4_outWithMore_11 rfl (lv_at hl 0 rfl) ?_
  refine g_X4_trial C kd_0 w_fl_X4_36 dX4_outWithMore_12 ?_
  refine q_iload_n C dX4_outWithMore_15 rfl (lv_at hl 1 rfl) ?_
  refine q_iload_n C dX4_outWithMore_16 rfl (lv_at hl 2 rfl) ?_
  obtain ⟨r3, h4, hfr3, hK⟩ := bd_so hK
  refine q_callVv C s_X3_addStock w_ml_X4_185 (c_X3_addStock l G hfr3) kd_25 rfl (by decide) (ce_2 kd_25) (by decide) hl.1 rfl rfl (Nat.le_of_ble_eq_true rfl) dX4_outWithMore_17 ?_
  refine q_aload_n C dX4_outWithMore_20 rfl (lv_at hl 0 rfl) ?_
  refine g_X4_trial C kd_0 w_fl_X4_36 dX4_outWithMore_21 ?_
  refine q_bipush C (v := 40) dX4_outWithMore_24 (by decide) ?_
  obtain ⟨r5, h6, hfr5, hK⟩ := bd_so hK
  refine q_callVi C s_X3_advance w_ml_X4_163 (c_X3_advance l G hfr5) kd_25 rfl (by decide) (ce_2 kd_25) (by decide) hl.1 rfl rfl (Nat.le_of_ble_eq_true rfl) dX4_outWithMore_26 ?_
  refine q_pop C dX4_outWithMore_29 rfl ?_
  refine q_aload_n C dX4_outWithMore_30 rfl (lv_at hl 0 rfl) ?_
  refine g_X4_trial C kd_0 w_fl_X4_36 dX4_outWithMore_31 ?_
  refine g_X3_out C kd_25 w_fl_X4_199 dX4_outWithMore_34 ?_
  cases hK
  exact q_iret C dX4_outWithMore_37
theorem s_X4_outWithMore : sv yX4_outWithMore cX4_outWithMore 3 (some .int) 2 := ⟨w_co_X4_outWithMore, w_im_X4_outWithMore, w_se_X4_outWithMore, w_in_X4, by decide +kernel, by decide⟩
def f_X4_needs_b10 : Nat → Int32 → Int32 → Int32 → PH → Option (Int32 × PH)
  | 0, _, _, _, _ => none
  | n + 1, v1, v2, v3, h => if (40 : Int32) ≤ v3 then some ((40 : Int32), h) else bd (f_X4_outWithMore v1 v3 h) (fun r3 h4 => if r3 = v2 then some (v3, h4) else (f_X4_needs_b10 n) v1 v2 (v3 + 1) h4)
set_option maxHeartbeats 4000000 in
set_option maxRecDepth 100000 in
theorem t_X4_needs_b10 {p : Program} {l : Launch} {e : Env} {s : State} {m : MethodId} {args : Array Value} {below : List Frame} {meth : Method} {c : Code} {G : GG} {res : Int32 × PH} (C : cx p s m args meth c G RX4 cX4_needs 4 (some .int)) (n : Nat) : ∀ (v1 : Int32) (v2 : Int32) (v3 : Int32) (h : PH) (ls : Array Slot), lv_has ls 4 [(0, .ref (G.2.2.2.2 0)), (1, .int v1), (2, .int v2), (3, .int v3)] → f_X4_needs_b10 n v1 v2 v3 h = some res → WW p l e 5 s m args below meth c G h (MQ below (QI G res) args s 0 0 (Ar G)) (F0 m 10 ls []) := by
  induction n with
  | zero => intro v1 v2 v3 h ls hl hK; cases hK
  | succ n ih =>
    intro v1 v2 v3 h ls hl hK
    unfold f_X4_needs_b10 at hK
    refine q_iload_n C dX4_needs_10 rfl (lv_at hl 3 rfl) ?_
    refine q_bipush C (v := 40) dX4_needs_11 (by decide) ?_
    refine q_icmp_ge C dX4_needs_13 (tgt := 34) (by decide) (fun hc => ?_) (fun hc => ?_)
    · replace hK := if_po hc hK
      refine q_bipush C (v := 40) dX4_needs_34 (by decide) ?_
      cases hK
      exact q_iret C dX4_needs_36
    · replace hK := if_ne hc hK
      refine q_aload_n C dX4_needs_16 rfl (lv_at hl 0 rfl) ?_
      refine q_iload_n C dX4_needs_17 rfl (lv_at hl 1 rfl) ?_
      refine q_iload_n C dX4_needs_18 rfl (lv_at hl 3 rfl) ?_
      obtain ⟨r3, h4, hfr3, hK⟩ := bd_so hK
      refine q_callVi C s_X4_outWithMore w_ml_X4_202 (c_X4_outWithMore l G hfr3) kd_0 rfl (by decide) (ce_3 kd_0) (by decide) hl.1 rfl rfl (Nat.le_of_ble_eq_true rfl) dX4_needs_19 ?_
      refine q_iload_n C dX4_needs_22 rfl (lv_at hl 2 rfl) ?_
      refine q_icmp_ne C dX4_needs_23 (tgt := 28) (by decide) (fun hc => ?_) (fun hc => ?_)
      · replace hK := if_ne hc hK
        refine q_iinc C dX4_needs_28 hl (j := 3) (v := (v3 + 1)) rfl rfl (by decide) (lv2 := [(3, .int _), (0, .ref _), (1, .int _), (2, .int _)]) rfl (fun ls hl => ?_)
        refine q_goto C dX4_needs_31 (tgt := 10) (by decide) ?_
        exact ih _ _ _ _ _ (lv_sub hl [1, 2, 3, 0] rfl) hK
      · replace hK := if_po hc hK
        refine q_iload_n C dX4_needs_26 rfl (lv_at hl 3 rfl) ?_
        cases hK
        exact q_iret C dX4_needs_27
def f_X4_needs (a1 : Int32) (h : PH) : Option (Int32 × PH) := bd (f_X4_outWithMore a1 (40 : Int32) h) (fun r1 h2 => f_X4_needs_b10 200 a1 r1 (0 : Int32) h2)
set_option maxHeartbeats 4000000 in
set_option maxRecDepth 100000 in
theorem c_X4_needs (l : Launch) (G : GG) {a1 : Int32} {h : PH} {res : Int32 × PH} (hF : f_X4_needs a1 h = some res) : MI l G yX4_needs cX4_needs 4 .int 5 [.ref (G.2.2.2.2 0), .int a1] h res := by
  unfold f_X4_needs at hF
  refine MI_of (by decide +kernel) (Nat.le_of_ble_eq_true rfl) ?_
  intro p e s m args below meth c ls C hl
  have hK := hF
  clear hF
  have hl : lv_has ls 4 [(0, .ref (G.2.2.2.2 0)), (1, .int a1)] := hl
  have C : cx p s m args meth c G RX4 cX4_needs 4 (some .int) := C
  refine q_aload_n C dX4_needs_0 rfl (lv_at hl 0 rfl) ?_
  refine q_iload_n C dX4_needs_1 rfl (lv_at hl 1 rfl) ?_
  refine q_bipush C (v := 40) dX4_needs_2 (by decide) ?_
  obtain ⟨r1, h2, hfr1, hK⟩ := bd_so hK
  refine q_callVi C s_X4_outWithMore w_ml_X4_202 (c_X4_outWithMore l G hfr1) kd_0 rfl (by decide) (ce_3 kd_0) (by decide) hl.1 rfl rfl (Nat.le_of_ble_eq_true rfl) dX4_needs_4 ?_
  refine q_istore_n C dX4_needs_7 rfl hl (by decide) (lv2 := [(2, .int _), (0, .ref _), (1, .int _)]) rfl (fun ls hl => ?_)
  refine q_iconst C (v := 0) dX4_needs_8 (by decide) ?_
  refine q_istore_n C dX4_needs_9 rfl hl (by decide) (lv2 := [(3, .int _), (2, .int _), (0, .ref _), (1, .int _)]) rfl (fun ls hl => ?_)
  exact t_X4_needs_b10 C 200 _ _ _ _ _ (lv_sub hl [2, 3, 1, 0] rfl) hK
theorem s_X4_needs : sv yX4_needs cX4_needs 4 (some .int) 1 := ⟨w_co_X4_needs, w_im_X4_needs, w_se_X4_needs, w_in_X4, by decide +kernel, by decide⟩
def f_X4_intervenes (a1 : Int32) (h : PH) : Option (Int32 × PH) := if a1 = 2 then bd (f_X3_moveMarks 25 h) (fun _ h2 => some ((1 : Int32), h2)) else if a1 = 3 then if (h.1 25 11) = 0 then st h 25 11 (1 : Int32) (fun h4 => some ((1 : Int32), h4)) else st h 25 11 (0 : Int32) (fun h3 => some ((1 : Int32), h3)) else if a1 = 4 then if (h.1 25 10) = 0 then some ((0 : Int32), h) else bd (f_X3_endAlarm 25 h) (fun r5 h6 => some ((1 : Int32), h6)) else bd (f_X3_markBeforeScale 25 h) (fun _ h8 => some ((1 : Int32), h8))
set_option maxHeartbeats 4000000 in
set_option maxRecDepth 100000 in
theorem c_X4_intervenes (l : Launch) (G : GG) {a1 : Int32} {h : PH} {res : Int32 × PH} (hF : f_X4_intervenes a1 h = some res) : MI l G yX4_intervenes cX4_intervenes 2 .boolean 2 [.ref (G.2.2.2.2 0), .int a1] h res := by
  unfold f_X4_intervenes at hF
  refine MI_of (by decide +kernel) (Nat.le_of_ble_eq_true rfl) ?_
  intro p e s m args below meth c ls C hl
  have hK := hF
  clear hF
  have hl : lv_has ls 2 [(0, .ref (G.2.2.2.2 0)), (1, .int a1)] := hl
  have C : cx p s m args meth c G RX4 cX4_intervenes 2 (some .boolean) := C
  refine q_iload_n C dX4_intervenes_0 rfl (lv_at hl 1 rfl) ?_
  by_cases hc0 : a1 = 2
  · replace hK := if_po hc0 hK
    refine q_tsIn C 2 hc0 dX4_intervenes_1 (off := 27) (by decide) (tgt := 28) (by decide) ?_
    refine q_aload_n C dX4_intervenes_28 rfl (lv_at hl 0 rfl) ?_
    refine g_X4_trial C kd_0 w_fl_X4_36 dX4_intervenes_29 ?_
    obtain ⟨r1, h2, hfr1, hK⟩ := bd_so hK
    refine q_callVv C s_X3_moveMarks w_ml_X4_166 (c_X3_moveMarks l G hfr1) kd_25 rfl (by decide) (ce_2 kd_25) (by decide) hl.1 rfl rfl (Nat.le_of_ble_eq_true rfl) dX4_intervenes_32 ?_
    refine q_iconst C (v := 1) dX4_intervenes_35 (by decide) ?_
    cases hK
    exact q_zret C (Or.inr rfl) dX4_intervenes_36
  · replace hK := if_ne hc0 hK
    by_cases hc1 : a1 = 3
    · replace hK := if_po hc1 hK
      refine q_tsIn C 3 hc1 dX4_intervenes_1 (off := 36) (by decide) (tgt := 37) (by decide) ?_
      refine q_aload_n C dX4_intervenes_37 rfl (lv_at hl 0 rfl) ?_
      refine g_X4_trial C kd_0 w_fl_X4_36 dX4_intervenes_38 ?_
      refine q_aload_n C dX4_intervenes_41 rfl (lv_at hl 0 rfl) ?_
      refine g_X4_trial C kd_0 w_fl_X4_36 dX4_intervenes_42 ?_
      refine g_X3_jammed C kd_25 w_fl_X4_172 dX4_intervenes_45 ?_
      refine q_if_ne C dX4_intervenes_48 (tgt := 55) (by decide) (fun hc => ?_) (fun hc => ?_)
      · replace hK := if_ne hc hK
        refine q_iconst C (v := 0) dX4_intervenes_55 (by decide) ?_
        obtain ⟨h3, hh3, hK⟩ := st_so hK
        refine p_X3_jammed C kd_25 (Or.inl rfl) w_fl_X4_172 hh3 dX4_intervenes_56 ?_
        refine q_iconst C (v := 1) dX4_intervenes_59 (by decide) ?_
        cases hK
        exact q_zret C (Or.inr rfl) dX4_intervenes_60
      · replace hK := if_po hc hK
        refine q_iconst C (v := 1) dX4_intervenes_51 (by decide) ?_
        refine q_goto C dX4_intervenes_52 (tgt := 56) (by decide) ?_
        obtain ⟨h4, hh4, hK⟩ := st_so hK
        refine p_X3_jammed C kd_25 (Or.inr rfl) w_fl_X4_172 hh4 dX4_intervenes_56 ?_
        refine q_iconst C (v := 1) dX4_intervenes_59 (by decide) ?_
        cases hK
        exact q_zret C (Or.inr rfl) dX4_intervenes_60
    · replace hK := if_ne hc1 hK
      by_cases hc2 : a1 = 4
      · replace hK := if_po hc2 hK
        refine q_tsIn C 4 hc2 dX4_intervenes_1 (off := 60) (by decide) (tgt := 61) (by decide) ?_
        refine q_aload_n C dX4_intervenes_61 rfl (lv_at hl 0 rfl) ?_
        refine g_X4_trial C kd_0 w_fl_X4_36 dX4_intervenes_62 ?_
        refine g_X3_alarm C kd_25 w_fl_X4_156 dX4_intervenes_65 ?_
        refine q_if_ne C dX4_intervenes_68 (tgt := 73) (by decide) (fun hc => ?_) (fun hc => ?_)
        · replace hK := if_ne hc hK
          refine q_aload_n C dX4_intervenes_73 rfl (lv_at hl 0 rfl) ?_
          refine g_X4_trial C kd_0 w_fl_X4_36 dX4_intervenes_74 ?_
          obtain ⟨r5, h6, hfr5, hK⟩ := bd_so hK
          refine q_callVi C s_X3_endAlarm w_ml_X4_175 (c_X3_endAlarm l G hfr5) kd_25 rfl (by decide) (ce_2 kd_25) (by decide) hl.1 rfl rfl (Nat.le_of_ble_eq_true rfl) dX4_intervenes_77 ?_
          refine q_pop C dX4_intervenes_80 rfl ?_
          refine q_iconst C (v := 1) dX4_intervenes_81 (by decide) ?_
          cases hK
          exact q_zret C (Or.inr rfl) dX4_intervenes_82
        · replace hK := if_po hc hK
          refine q_iconst C (v := 0) dX4_intervenes_71 (by decide) ?_
          cases hK
          exact q_zret C (Or.inl rfl) dX4_intervenes_72
      · replace hK := if_ne hc2 hK
        have q0 : (a1 : Int32).toInt ≠ 2 := ne_i hc0
        have q1 : (a1 : Int32).toInt ≠ 3 := ne_i hc1
        have q2 : (a1 : Int32).toInt ≠ 4 := ne_i hc2
        refine q_tsOut C dX4_intervenes_1 (by omega) (tgt := 83) (by decide) ?_
        refine q_aload_n C dX4_intervenes_83 rfl (lv_at hl 0 rfl) ?_
        refine g_X4_trial C kd_0 w_fl_X4_36 dX4_intervenes_84 ?_
        obtain ⟨r7, h8, hfr7, hK⟩ := bd_so hK
        refine q_callVv C s_X3_markBeforeScale w_ml_X4_179 (c_X3_markBeforeScale l G hfr7) kd_25 rfl (by decide) (ce_2 kd_25) (by decide) hl.1 rfl rfl (Nat.le_of_ble_eq_true rfl) dX4_intervenes_87 ?_
        refine q_iconst C (v := 1) dX4_intervenes_90 (by decide) ?_
        cases hK
        exact q_zret C (Or.inr rfl) dX4_intervenes_91
theorem s_X4_intervenes : sv yX4_intervenes cX4_intervenes 2 (some .boolean) 1 := ⟨w_co_X4_intervenes, w_im_X4_intervenes, w_se_X4_intervenes, w_in_X4, by decide +kernel, by decide⟩
def f_X4_obeys_b254 (s0 : Int32) (s1 : Int32) (h : PH) : Option (Int32 × PH) := if s1 = s0 then some ((1 : Int32), h) else some ((0 : Int32), h)
set_option maxHeartbeats 4000000 in
set_option maxRecDepth 100000 in
theorem t_X4_obeys_b254 {p : Program} {l : Launch} {e : Env} {s : State} {m : MethodId} {args : Array Value} {below : List Frame} {meth : Method} {c : Code} {G : GG} {res : Int32 × PH} (C : cx p s m args meth c G RX4 cX4_obeys 5 (some .boolean)) {s0 : Int32} {s1 : Int32} {h : PH} {ls : Array Slot} (hl : lv_has ls 5 []) (hK : f_X4_obeys_b254 s0 s1 h = some res) : WW p l e 4 s m args below meth c G h (MQ below (QI G res) args s 0 0 (Ar G)) (F0 m 254 ls [.int s0, .int s1]) := by
  unfold f_X4_obeys_b254 at hK
  refine q_icmp_ne C dX4_obeys_254 (tgt := 261) (by decide) (fun hc => ?_) (fun hc => ?_)
  · replace hK := if_ne hc hK
    refine q_iconst C (v := 0) dX4_obeys_261 (by decide) ?_
    cases hK
    exact q_zret C (Or.inl rfl) dX4_obeys_262
  · replace hK := if_po hc hK
    refine q_iconst C (v := 1) dX4_obeys_257 (by decide) ?_
    refine q_goto C dX4_obeys_258 (tgt := 262) (by decide) ?_
    cases hK
    exact q_zret C (Or.inr rfl) dX4_obeys_262
def f_X4_obeys (a1 : Int32) (h : PH) : Option (Int32 × PH) := if (a1 / (100 : Int32)) = 1 then if (irm a1 (100 : Int32)) < (1 : Int32) then some ((0 : Int32), h) else bd (f_X3_advance 25 (irm a1 (100 : Int32)) h) (fun r1 h2 => if r1 = (irm a1 (100 : Int32)) then some ((1 : Int32), h2) else some ((0 : Int32), h2)) else if (a1 / (100 : Int32)) = 2 then if (irm a1 (100 : Int32)) = 0 then bd (f_X4_intervenes (a1 / (100 : Int32)) h) (fun r3 h4 => if r3 = 0 then some ((0 : Int32), h4) else some ((1 : Int32), h4)) else some ((0 : Int32), h) else if (a1 / (100 : Int32)) = 3 then if (irm a1 (100 : Int32)) = 0 then bd (f_X4_intervenes (a1 / (100 : Int32)) h) (fun r5 h6 => if r5 = 0 then some ((0 : Int32), h6) else some ((1 : Int32), h6)) else some ((0 : Int32), h) else if (a1 / (100 : Int32)) = 4 then if (irm a1 (100 : Int32)) = 0 then bd (f_X4_intervenes (a1 / (100 : Int32)) h) (fun r7 h8 => if r7 = 0 then some ((0 : Int32), h8) else some ((1 : Int32), h8)) else some ((0 : Int32), h) else if (a1 / (100 : Int32)) = 5 then if (irm a1 (100 : Int32)) = 0 then bd (f_X4_intervenes (a1 / (100 : Int32)) h) (fun r9 h10 => if r9 = 0 then some ((0 : Int32), h10) else some ((1 : Int32), h10)) else some ((0 : Int32), h) else if (a1 / (100 : Int32)) = 6 then if (irm a1 (10 : Int32)) = 0 then bd (f_X1_hasValve 12 (irm (a1 / (10 : Int32)) (10 : Int32)) h) (fun r11 h12 => if r11 = 0 then some ((0 : Int32), h12) else bd (f_X3_nextValve 25 h12) (fun r13 h14 => if r13 = (irm (a1 / (10 : Int32)) (10 : Int32)) then some ((1 : Int32), h14) else some ((0 : Int32), h14))) else some ((0 : Int32), h) else if (a1 / (100 : Int32)) = 7 then if (h.1 25 12) = (irm a1 (100 : Int32)) then some ((1 : Int32), h) else some ((0 : Int32), h) else if (a1 / (100 : Int32)) = 8 then bd (f_X1_hasCell 12 (irm (a1 / (10 : Int32)) (10 : Int32)) h) (fun r15 h16 => if r15 = 0 then some ((0 : Int32), h16) else rd h16 (25 + 2) (irm (a1 / (10 : Int32)) (10 : Int32)) (fun x17 => if x17 = (irm a1 (10 : Int32)) then some ((1 : Int32), h16) else some ((0 : Int32), h16))) else if (a1 / (100 : Int32)) = 9 then if (1 : Int32) < (irm a1 (10 : Int32)) then some ((0 : Int32), h) else bd (f_X1_hasCell 12 (irm (a1 / (10 : Int32)) (10 : Int32)) h) (fun r18 h19 => if r18 = 0 then some ((0 : Int32), h19) else rd h19 (25 + 1) (irm (a1 / (10 : Int32)) (10 : Int32)) (fun x20 => if x20 = 0 then some ((0 : Int32), h19) else rd h19 (25 + 1) (irm (a1 / (10 : Int32)) (10 : Int32)) (fun x21 => bd (f_X1_isGood 12 x21 h19) (fun r22 h23 => if (irm a1 (10 : Int32)) = (1 : Int32) then f_X4_obeys_b254 (1 : Int32) r22 h23 else f_X4_obeys_b254 (0 : Int32) r22 h23)))) else some ((0 : Int32), h)
set_option maxHeartbeats 4000000 in
set_option maxRecDepth 100000 in
theorem c_X4_obeys (l : Launch) (G : GG) {a1 : Int32} {h : PH} {res : Int32 × PH} (hF : f_X4_obeys a1 h = some res) : MI l G yX4_obeys cX4_obeys 5 .boolean 4 [.ref (G.2.2.2.2 0), .int a1] h res := by
  unfold f_X4_obeys at hF
  refine MI_of (by decide +kernel) (Nat.le_of_ble_eq_true rfl) ?_
  intro p e s m args below meth c ls C hl
  have hK := hF
  clear hF
  have hl : lv_has ls 5 [(0, .ref (G.2.2.2.2 0)), (1, .int a1)] := hl
  have C : cx p s m args meth c G RX4 cX4_obeys 5 (some .boolean) := C
  refine q_iload_n C dX4_obeys_0 rfl (lv_at hl 1 rfl) ?_
  refine q_bipush C (v := 10) dX4_obeys_1 (by decide) ?_
  refine q_idiv C dX4_obeys_3 (by decide) ?_
  refine q_bipush C (v := 10) dX4_obeys_4 (by decide) ?_
  refine q_irem C dX4_obeys_6 (by decide) ?_
  refine q_istore_n C dX4_obeys_7 rfl hl (by decide) (lv2 := [(2, .int _), (0, .ref _), (1, .int _)]) rfl (fun ls hl => ?_)
  refine q_iload_n C dX4_obeys_8 rfl (lv_at hl 2 rfl) ?_
  refine q_bipush C (v := 10) dX4_obeys_9 (by decide) ?_
  refine q_irem C dX4_obeys_11 (by decide) ?_
  refine q_istore_n C dX4_obeys_12 rfl hl (by decide) (lv2 := [(3, .int _), (2, .int _), (0, .ref _), (1, .int _)]) rfl (fun ls hl => ?_)
  refine q_iload_n C dX4_obeys_13 rfl (lv_at hl 3 rfl) ?_
  refine q_bipush C (v := 100) dX4_obeys_14 (by decide) ?_
  refine q_irem C dX4_obeys_16 (by decide) ?_
  refine q_istore C dX4_obeys_17 hl (by decide) (lv2 := [(4, .int _), (3, .int _), (2, .int _), (0, .ref _), (1, .int _)]) rfl (fun ls hl => ?_)
  refine q_iload_n C dX4_obeys_19 rfl (lv_at hl 4 rfl) ?_
  refine q_bipush C (v := 100) dX4_obeys_20 (by decide) ?_
  refine q_idiv C dX4_obeys_22 (by decide) ?_
  by_cases hc0 : (a1 / (100 : Int32)) = 1
  · replace hK := if_po hc0 hK
    refine q_tsIn C 1 hc0 dX4_obeys_23 (off := 49) (by decide) (tgt := 72) (by decide) ?_
    refine q_iload C dX4_obeys_72 (lv_at hl 0 rfl) ?_
    refine q_iconst C (v := 1) dX4_obeys_74 (by decide) ?_
    refine q_icmp_lt C dX4_obeys_75 (tgt := 96) (by decide) (fun hc => ?_) (fun hc => ?_)
    · replace hK := if_po hc hK
      refine q_iconst C (v := 0) dX4_obeys_96 (by decide) ?_
      cases hK
      exact q_zret C (Or.inl rfl) dX4_obeys_97
    · replace hK := if_ne hc hK
      refine q_aload_n C dX4_obeys_78 rfl (lv_at hl 3 rfl) ?_
      refine g_X4_trial C kd_0 w_fl_X4_36 dX4_obeys_79 ?_
      refine q_iload C dX4_obeys_82 (lv_at hl 0 rfl) ?_
      obtain ⟨r1, h2, hfr1, hK⟩ := bd_so hK
      refine q_callVi C s_X3_advance w_ml_X4_163 (c_X3_advance l G hfr1) kd_25 rfl (by decide) (ce_2 kd_25) (by decide) hl.1 rfl rfl (Nat.le_of_ble_eq_true rfl) dX4_obeys_84 ?_
      refine q_iload C dX4_obeys_87 (lv_at hl 0 rfl) ?_
      refine q_icmp_ne C dX4_obeys_89 (tgt := 96) (by decide) (fun hc => ?_) (fun hc => ?_)
      · replace hK := if_ne hc hK
        refine q_iconst C (v := 0) dX4_obeys_96 (by decide) ?_
        cases hK
        exact q_zret C (Or.inl rfl) dX4_obeys_97
      · replace hK := if_po hc hK
        refine q_iconst C (v := 1) dX4_obeys_92 (by decide) ?_
        refine q_goto C dX4_obeys_93 (tgt := 97) (by decide) ?_
        cases hK
        exact q_zret C (Or.inr rfl) dX4_obeys_97
  · replace hK := if_ne hc0 hK
    by_cases hc1 : (a1 / (100 : Int32)) = 2
    · replace hK := if_po hc1 hK
      refine q_tsIn C 2 hc1 dX4_obeys_23 (off := 75) (by decide) (tgt := 98) (by decide) ?_
      refine q_iload C dX4_obeys_98 (lv_at hl 0 rfl) ?_
      refine q_if_ne C dX4_obeys_100 (tgt := 118) (by decide) (fun hc => ?_) (fun hc => ?_)
      · replace hK := if_ne hc hK
        refine q_iconst C (v := 0) dX4_obeys_118 (by decide) ?_
        cases hK
        exact q_zret C (Or.inl rfl) dX4_obeys_119
      · replace hK := if_po hc hK
        refine q_aload_n C dX4_obeys_103 rfl (lv_at hl 3 rfl) ?_
        refine q_iload_n C dX4_obeys_104 rfl (lv_at hl 4 rfl) ?_
        refine q_bipush C (v := 100) dX4_obeys_105 (by decide) ?_
        refine q_idiv C dX4_obeys_107 (by decide) ?_
        obtain ⟨r3, h4, hfr3, hK⟩ := bd_so hK
        refine q_callVi C s_X4_intervenes w_ml_X4_277 (c_X4_intervenes l G hfr3) kd_0 rfl (by decide) (ce_3 kd_0) (by decide) hl.1 rfl rfl (Nat.le_of_ble_eq_true rfl) dX4_obeys_108 ?_
        refine q_if_eq C dX4_obeys_111 (tgt := 118) (by decide) (fun hc => ?_) (fun hc => ?_)
        · replace hK := if_po hc hK
          refine q_iconst C (v := 0) dX4_obeys_118 (by decide) ?_
          cases hK
          exact q_zret C (Or.inl rfl) dX4_obeys_119
        · replace hK := if_ne hc hK
          refine q_iconst C (v := 1) dX4_obeys_114 (by decide) ?_
          refine q_goto C dX4_obeys_115 (tgt := 119) (by decide) ?_
          cases hK
          exact q_zret C (Or.inr rfl) dX4_obeys_119
    · replace hK := if_ne hc1 hK
      by_cases hc2 : (a1 / (100 : Int32)) = 3
      · replace hK := if_po hc2 hK
        refine q_tsIn C 3 hc2 dX4_obeys_23 (off := 75) (by decide) (tgt := 98) (by decide) ?_
        refine q_iload C dX4_obeys_98 (lv_at hl 0 rfl) ?_
        refine q_if_ne C dX4_obeys_100 (tgt := 118) (by decide) (fun hc => ?_) (fun hc => ?_)
        · replace hK := if_ne hc hK
          refine q_iconst C (v := 0) dX4_obeys_118 (by decide) ?_
          cases hK
          exact q_zret C (Or.inl rfl) dX4_obeys_119
        · replace hK := if_po hc hK
          refine q_aload_n C dX4_obeys_103 rfl (lv_at hl 3 rfl) ?_
          refine q_iload_n C dX4_obeys_104 rfl (lv_at hl 4 rfl) ?_
          refine q_bipush C (v := 100) dX4_obeys_105 (by decide) ?_
          refine q_idiv C dX4_obeys_107 (by decide) ?_
          obtain ⟨r5, h6, hfr5, hK⟩ := bd_so hK
          refine q_callVi C s_X4_intervenes w_ml_X4_277 (c_X4_intervenes l G hfr5) kd_0 rfl (by decide) (ce_3 kd_0) (by decide) hl.1 rfl rfl (Nat.le_of_ble_eq_true rfl) dX4_obeys_108 ?_
          refine q_if_eq C dX4_obeys_111 (tgt := 118) (by decide) (fun hc => ?_) (fun hc => ?_)
          · replace hK := if_po hc hK
            refine q_iconst C (v := 0) dX4_obeys_118 (by decide) ?_
            cases hK
            exact q_zret C (Or.inl rfl) dX4_obeys_119
          · replace hK := if_ne hc hK
            refine q_iconst C (v := 1) dX4_obeys_114 (by decide) ?_
            refine q_goto C dX4_obeys_115 (tgt := 119) (by decide) ?_
            cases hK
            exact q_zret C (Or.inr rfl) dX4_obeys_119
      · replace hK := if_ne hc2 hK
        by_cases hc3 : (a1 / (100 : Int32)) = 4
        · replace hK := if_po hc3 hK
          refine q_tsIn C 4 hc3 dX4_obeys_23 (off := 75) (by decide) (tgt := 98) (by decide) ?_
          refine q_iload C dX4_obeys_98 (lv_at hl 0 rfl) ?_
          refine q_if_ne C dX4_obeys_100 (tgt := 118) (by decide) (fun hc => ?_) (fun hc => ?_)
          · replace hK := if_ne hc hK
            refine q_iconst C (v := 0) dX4_obeys_118 (by decide) ?_
            cases hK
            exact q_zret C (Or.inl rfl) dX4_obeys_119
          · replace hK := if_po hc hK
            refine q_aload_n C dX4_obeys_103 rfl (lv_at hl 3 rfl) ?_
            refine q_iload_n C dX4_obeys_104 rfl (lv_at hl 4 rfl) ?_
            refine q_bipush C (v := 100) dX4_obeys_105 (by decide) ?_
            refine q_idiv C dX4_obeys_107 (by decide) ?_
            obtain ⟨r7, h8, hfr7, hK⟩ := bd_so hK
            refine q_callVi C s_X4_intervenes w_ml_X4_277 (c_X4_intervenes l G hfr7) kd_0 rfl (by decide) (ce_3 kd_0) (by decide) hl.1 rfl rfl (Nat.le_of_ble_eq_true rfl) dX4_obeys_108 ?_
            refine q_if_eq C dX4_obeys_111 (tgt := 118) (by decide) (fun hc => ?_) (fun hc => ?_)
            · replace hK := if_po hc hK
              refine q_iconst C (v := 0) dX4_obeys_118 (by decide) ?_
              cases hK
              exact q_zret C (Or.inl rfl) dX4_obeys_119
            · replace hK := if_ne hc hK
              refine q_iconst C (v := 1) dX4_obeys_114 (by decide) ?_
              refine q_goto C dX4_obeys_115 (tgt := 119) (by decide) ?_
              cases hK
              exact q_zret C (Or.inr rfl) dX4_obeys_119
        · replace hK := if_ne hc3 hK
          by_cases hc4 : (a1 / (100 : Int32)) = 5
          · replace hK := if_po hc4 hK
            refine q_tsIn C 5 hc4 dX4_obeys_23 (off := 75) (by decide) (tgt := 98) (by decide) ?_
            refine q_iload C dX4_obeys_98 (lv_at hl 0 rfl) ?_
            refine q_if_ne C dX4_obeys_100 (tgt := 118) (by decide) (fun hc => ?_) (fun hc => ?_)
            · replace hK := if_ne hc hK
              refine q_iconst C (v := 0) dX4_obeys_118 (by decide) ?_
              cases hK
              exact q_zret C (Or.inl rfl) dX4_obeys_119
            · replace hK := if_po hc hK
              refine q_aload_n C dX4_obeys_103 rfl (lv_at hl 3 rfl) ?_
              refine q_iload_n C dX4_obeys_104 rfl (lv_at hl 4 rfl) ?_
              refine q_bipush C (v := 100) dX4_obeys_105 (by decide) ?_
              refine q_idiv C dX4_obeys_107 (by decide) ?_
              obtain ⟨r9, h10, hfr9, hK⟩ := bd_so hK
              refine q_callVi C s_X4_intervenes w_ml_X4_277 (c_X4_intervenes l G hfr9) kd_0 rfl (by decide) (ce_3 kd_0) (by decide) hl.1 rfl rfl (Nat.le_of_ble_eq_true rfl) dX4_obeys_108 ?_
              refine q_if_eq C dX4_obeys_111 (tgt := 118) (by decide) (fun hc => ?_) (fun hc => ?_)
              · replace hK := if_po hc hK
                refine q_iconst C (v := 0) dX4_obeys_118 (by decide) ?_
                cases hK
                exact q_zret C (Or.inl rfl) dX4_obeys_119
              · replace hK := if_ne hc hK
                refine q_iconst C (v := 1) dX4_obeys_114 (by decide) ?_
                refine q_goto C dX4_obeys_115 (tgt := 119) (by decide) ?_
                cases hK
                exact q_zret C (Or.inr rfl) dX4_obeys_119
          · replace hK := if_ne hc4 hK
            by_cases hc5 : (a1 / (100 : Int32)) = 6
            · replace hK := if_po hc5 hK
              refine q_tsIn C 6 hc5 dX4_obeys_23 (off := 97) (by decide) (tgt := 120) (by decide) ?_
              refine q_iload_n C dX4_obeys_120 rfl (lv_at hl 1 rfl) ?_
              refine q_if_ne C dX4_obeys_121 (tgt := 150) (by decide) (fun hc => ?_) (fun hc => ?_)
              · replace hK := if_ne hc hK
                refine q_iconst C (v := 0) dX4_obeys_150 (by decide) ?_
                cases hK
                exact q_zret C (Or.inl rfl) dX4_obeys_151
              · replace hK := if_po hc hK
                refine q_aload_n C dX4_obeys_124 rfl (lv_at hl 3 rfl) ?_
                refine g_X4_plan C kd_0 w_fl_X4_23 dX4_obeys_125 ?_
                refine q_iload_n C dX4_obeys_128 rfl (lv_at hl 2 rfl) ?_
                obtain ⟨r11, h12, hfr11, hK⟩ := bd_so hK
                refine q_callVi C s_X1_hasValve w_ml_X4_141 (c_X1_hasValve l G hfr11) kd_12 rfl (by decide) (ce_0 kd_12) (by decide) hl.1 rfl rfl (Nat.le_of_ble_eq_true rfl) dX4_obeys_129 ?_
                refine q_if_eq C dX4_obeys_132 (tgt := 150) (by decide) (fun hc => ?_) (fun hc => ?_)
                · replace hK := if_po hc hK
                  refine q_iconst C (v := 0) dX4_obeys_150 (by decide) ?_
                  cases hK
                  exact q_zret C (Or.inl rfl) dX4_obeys_151
                · replace hK := if_ne hc hK
                  refine q_aload_n C dX4_obeys_135 rfl (lv_at hl 3 rfl) ?_
                  refine g_X4_trial C kd_0 w_fl_X4_36 dX4_obeys_136 ?_
                  obtain ⟨r13, h14, hfr13, hK⟩ := bd_so hK
                  refine q_callVi C s_X3_nextValve w_ml_X4_280 (c_X3_nextValve l G hfr13) kd_25 rfl (by decide) (ce_2 kd_25) (by decide) hl.1 rfl rfl (Nat.le_of_ble_eq_true rfl) dX4_obeys_139 ?_
                  refine q_iload_n C dX4_obeys_142 rfl (lv_at hl 2 rfl) ?_
                  refine q_icmp_ne C dX4_obeys_143 (tgt := 150) (by decide) (fun hc => ?_) (fun hc => ?_)
                  · replace hK := if_ne hc hK
                    refine q_iconst C (v := 0) dX4_obeys_150 (by decide) ?_
                    cases hK
                    exact q_zret C (Or.inl rfl) dX4_obeys_151
                  · replace hK := if_po hc hK
                    refine q_iconst C (v := 1) dX4_obeys_146 (by decide) ?_
                    refine q_goto C dX4_obeys_147 (tgt := 151) (by decide) ?_
                    cases hK
                    exact q_zret C (Or.inr rfl) dX4_obeys_151
            · replace hK := if_ne hc5 hK
              by_cases hc6 : (a1 / (100 : Int32)) = 7
              · replace hK := if_po hc6 hK
                refine q_tsIn C 7 hc6 dX4_obeys_23 (off := 129) (by decide) (tgt := 152) (by decide) ?_
                refine q_aload_n C dX4_obeys_152 rfl (lv_at hl 3 rfl) ?_
                refine g_X4_trial C kd_0 w_fl_X4_36 dX4_obeys_153 ?_
                refine g_X3_out C kd_25 w_fl_X4_199 dX4_obeys_156 ?_
                refine q_iload C dX4_obeys_159 (lv_at hl 0 rfl) ?_
                refine q_icmp_ne C dX4_obeys_161 (tgt := 168) (by decide) (fun hc => ?_) (fun hc => ?_)
                · replace hK := if_ne hc hK
                  refine q_iconst C (v := 0) dX4_obeys_168 (by decide) ?_
                  cases hK
                  exact q_zret C (Or.inl rfl) dX4_obeys_169
                · replace hK := if_po hc hK
                  refine q_iconst C (v := 1) dX4_obeys_164 (by decide) ?_
                  refine q_goto C dX4_obeys_165 (tgt := 169) (by decide) ?_
                  cases hK
                  exact q_zret C (Or.inr rfl) dX4_obeys_169
              · replace hK := if_ne hc6 hK
                by_cases hc7 : (a1 / (100 : Int32)) = 8
                · replace hK := if_po hc7 hK
                  refine q_tsIn C 8 hc7 dX4_obeys_23 (off := 147) (by decide) (tgt := 170) (by decide) ?_
                  refine q_aload_n C dX4_obeys_170 rfl (lv_at hl 3 rfl) ?_
                  refine g_X4_plan C kd_0 w_fl_X4_23 dX4_obeys_171 ?_
                  refine q_iload_n C dX4_obeys_174 rfl (lv_at hl 2 rfl) ?_
                  obtain ⟨r15, h16, hfr15, hK⟩ := bd_so hK
                  refine q_callVi C s_X1_hasCell w_ml_X4_112 (c_X1_hasCell l G hfr15) kd_12 rfl (by decide) (ce_0 kd_12) (by decide) hl.1 rfl rfl (Nat.le_of_ble_eq_true rfl) dX4_obeys_175 ?_
                  refine q_if_eq C dX4_obeys_178 (tgt := 198) (by decide) (fun hc => ?_) (fun hc => ?_)
                  · replace hK := if_po hc hK
                    refine q_iconst C (v := 0) dX4_obeys_198 (by decide) ?_
                    cases hK
                    exact q_zret C (Or.inl rfl) dX4_obeys_199
                  · replace hK := if_ne hc hK
                    refine q_aload_n C dX4_obeys_181 rfl (lv_at hl 3 rfl) ?_
                    refine g_X4_trial C kd_0 w_fl_X4_36 dX4_obeys_182 ?_
                    refine g_X3_marks C kd_25 w_fl_X4_119 dX4_obeys_185 ?_
                    refine q_iload_n C dX4_obeys_188 rfl (lv_at hl 2 rfl) ?_
                    obtain ⟨x17, hx17, hK⟩ := rd_so hK
                    refine q_iald C (kd_s2 kd_25) hx17 dX4_obeys_189 ?_
                    refine q_iload_n C dX4_obeys_190 rfl (lv_at hl 1 rfl) ?_
                    refine q_icmp_ne C dX4_obeys_191 (tgt := 198) (by decide) (fun hc => ?_) (fun hc => ?_)
                    · replace hK := if_ne hc hK
                      refine q_iconst C (v := 0) dX4_obeys_198 (by decide) ?_
                      cases hK
                      exact q_zret C (Or.inl rfl) dX4_obeys_199
                    · replace hK := if_po hc hK
                      refine q_iconst C (v := 1) dX4_obeys_194 (by decide) ?_
                      refine q_goto C dX4_obeys_195 (tgt := 199) (by decide) ?_
                      cases hK
                      exact q_zret C (Or.inr rfl) dX4_obeys_199
                · replace hK := if_ne hc7 hK
                  by_cases hc8 : (a1 / (100 : Int32)) = 9
                  · replace hK := if_po hc8 hK
                    refine q_tsIn C 9 hc8 dX4_obeys_23 (off := 177) (by decide) (tgt := 200) (by decide) ?_
                    refine q_iload_n C dX4_obeys_200 rfl (lv_at hl 1 rfl) ?_
                    refine q_iconst C (v := 1) dX4_obeys_201 (by decide) ?_
                    refine q_icmp_gt C dX4_obeys_202 (tgt := 261) (by decide) (fun hc => ?_) (fun hc => ?_)
                    · replace hK := if_po hc hK
                      refine q_iconst C (v := 0) dX4_obeys_261 (by decide) ?_
                      cases hK
                      exact q_zret C (Or.inl rfl) dX4_obeys_262
                    · replace hK := if_ne hc hK
                      refine q_aload_n C dX4_obeys_205 rfl (lv_at hl 3 rfl) ?_
                      refine g_X4_plan C kd_0 w_fl_X4_23 dX4_obeys_206 ?_
                      refine q_iload_n C dX4_obeys_209 rfl (lv_at hl 2 rfl) ?_
                      obtain ⟨r18, h19, hfr18, hK⟩ := bd_so hK
                      refine q_callVi C s_X1_hasCell w_ml_X4_112 (c_X1_hasCell l G hfr18) kd_12 rfl (by decide) (ce_0 kd_12) (by decide) hl.1 rfl rfl (Nat.le_of_ble_eq_true rfl) dX4_obeys_210 ?_
                      refine q_if_eq C dX4_obeys_213 (tgt := 261) (by decide) (fun hc => ?_) (fun hc => ?_)
                      · replace hK := if_po hc hK
                        refine q_iconst C (v := 0) dX4_obeys_261 (by decide) ?_
                        cases hK
                        exact q_zret C (Or.inl rfl) dX4_obeys_262
                      · replace hK := if_ne hc hK
                        refine q_aload_n C dX4_obeys_216 rfl (lv_at hl 3 rfl) ?_
                        refine g_X4_trial C kd_0 w_fl_X4_36 dX4_obeys_217 ?_
                        refine g_X3_bottles C kd_25 w_fl_X4_116 dX4_obeys_220 ?_
                        refine q_iload_n C dX4_obeys_223 rfl (lv_at hl 2 rfl) ?_
                        obtain ⟨x20, hx20, hK⟩ := rd_so hK
                        refine q_iald C (kd_s1 kd_25) hx20 dX4_obeys_224 ?_
                        refine q_if_eq C dX4_obeys_225 (tgt := 261) (by decide) (fun hc => ?_) (fun hc => ?_)
                        · replace hK := if_po hc hK
                          refine q_iconst C (v := 0) dX4_obeys_261 (by decide) ?_
                          cases hK
                          exact q_zret C (Or.inl rfl) dX4_obeys_262
                        · replace hK := if_ne hc hK
                          refine q_aload_n C dX4_obeys_228 rfl (lv_at hl 3 rfl) ?_
                          refine g_X4_plan C kd_0 w_fl_X4_23 dX4_obeys_229 ?_
                          refine q_aload_n C dX4_obeys_232 rfl (lv_at hl 3 rfl) ?_
                          refine g_X4_trial C kd_0 w_fl_X4_36 dX4_obeys_233 ?_
                          refine g_X3_bottles C kd_25 w_fl_X4_116 dX4_obeys_236 ?_
                          refine q_iload_n C dX4_obeys_239 rfl (lv_at hl 2 rfl) ?_
                          obtain ⟨x21, hx21, hK⟩ := rd_so hK
                          refine q_iald C (kd_s1 kd_25) hx21 dX4_obeys_240 ?_
                          obtain ⟨r22, h23, hfr22, hK⟩ := bd_so hK
                          refine q_callVi C s_X1_isGood w_ml_X4_138 (c_X1_isGood l G hfr22) kd_12 rfl (by decide) (ce_0 kd_12) (by decide) hl.1 rfl rfl (Nat.le_of_ble_eq_true rfl) dX4_obeys_241 ?_
                          refine q_iload_n C dX4_obeys_244 rfl (lv_at hl 1 rfl) ?_
                          refine q_iconst C (v := 1) dX4_obeys_245 (by decide) ?_
                          refine q_icmp_ne C dX4_obeys_246 (tgt := 253) (by decide) (fun hc => ?_) (fun hc => ?_)
                          · replace hK := if_ne hc hK
                            refine q_iconst C (v := 0) dX4_obeys_253 (by decide) ?_
                            exact t_X4_obeys_b254 C (lv_sub hl [] rfl) hK
                          · replace hK := if_po hc hK
                            refine q_iconst C (v := 1) dX4_obeys_249 (by decide) ?_
                            refine q_goto C dX4_obeys_250 (tgt := 254) (by decide) ?_
                            exact t_X4_obeys_b254 C (lv_sub hl [] rfl) hK
                  · replace hK := if_ne hc8 hK
                    have q0 : ((a1 / (100 : Int32)) : Int32).toInt ≠ 1 := ne_i hc0
                    have q1 : ((a1 / (100 : Int32)) : Int32).toInt ≠ 2 := ne_i hc1
                    have q2 : ((a1 / (100 : Int32)) : Int32).toInt ≠ 3 := ne_i hc2
                    have q3 : ((a1 / (100 : Int32)) : Int32).toInt ≠ 4 := ne_i hc3
                    have q4 : ((a1 / (100 : Int32)) : Int32).toInt ≠ 5 := ne_i hc4
                    have q5 : ((a1 / (100 : Int32)) : Int32).toInt ≠ 6 := ne_i hc5
                    have q6 : ((a1 / (100 : Int32)) : Int32).toInt ≠ 7 := ne_i hc6
                    have q7 : ((a1 / (100 : Int32)) : Int32).toInt ≠ 8 := ne_i hc7
                    have q8 : ((a1 / (100 : Int32)) : Int32).toInt ≠ 9 := ne_i hc8
                    refine q_tsOut C dX4_obeys_23 (by omega) (tgt := 263) (by decide) ?_
                    refine q_iconst C (v := 0) dX4_obeys_263 (by decide) ?_
                    cases hK
                    exact q_zret C (Or.inl rfl) dX4_obeys_264
theorem s_X4_obeys : sv yX4_obeys cX4_obeys 5 (some .boolean) 1 := ⟨w_co_X4_obeys, w_im_X4_obeys, w_se_X4_obeys, w_in_X4, by decide +kernel, by decide⟩
def f_X4_judge_b61 : Nat → Int32 → Int32 → Int32 → Int32 → PH → Option (Int32 × PH)
  | 0, _, _, _, _, _ => none
  | n + 1, v1, v2, v3, v4, h => if v1 ≤ v4 then some ((-9 : Int32), h) else nz (imx (1 : Int32) (v3 / (1000 : Int32))) (bd (f_X4_obeys (irm (v2 / (imx (1 : Int32) (v3 / (1000 : Int32)))) (1000 : Int32)) h) (fun r6 h7 => if r6 = 0 then some (v4, h7) else (f_X4_judge_b61 n) v1 v2 (imx (1 : Int32) (v3 / (1000 : Int32))) (v4 + 1) h7))
set_option maxHeartbeats 4000000 in
set_option maxRecDepth 100000 in
theorem t_X4_judge_b61 {p : Program} {l : Launch} {e : Env} {s : State} {m : MethodId} {args : Array Value} {below : List Frame} {meth : Method} {c : Code} {G : GG} {res : Int32 × PH} (C : cx p s m args meth c G RX4 cX4_judge 5 (some .int)) (n : Nat) : ∀ (v1 : Int32) (v2 : Int32) (v3 : Int32) (v4 : Int32) (h : PH) (ls : Array Slot), lv_has ls 5 [(0, .ref (G.2.2.2.2 0)), (1, .int v1), (2, .int v2), (3, .int v3), (4, .int v4)] → f_X4_judge_b61 n v1 v2 v3 v4 h = some res → WW p l e 5 s m args below meth c G h (MQ below (QI G res) args s 0 0 (Ar G)) (F0 m 61 ls []) := by
  induction n with
  | zero => intro v1 v2 v3 v4 h ls hl hK; cases hK
  | succ n ih =>
    intro v1 v2 v3 v4 h ls hl hK
    unfold f_X4_judge_b61 at hK
    refine q_iload C dX4_judge_61 (lv_at hl 4 rfl) ?_
    refine q_iload_n C dX4_judge_63 rfl (lv_at hl 1 rfl) ?_
    refine q_icmp_ge C dX4_judge_64 (tgt := 100) (by decide) (fun hc => ?_) (fun hc => ?_)
    · replace hK := if_po hc hK
      refine q_bipush C (v := -9) dX4_judge_100 (by decide) ?_
      cases hK
      exact q_iret C dX4_judge_102
    · replace hK := if_ne hc hK
      refine q_iconst C (v := 1) dX4_judge_67 (by decide) ?_
      refine q_iload_n C dX4_judge_68 rfl (lv_at hl 3 rfl) ?_
      refine q_sipush C (v := 1000) dX4_judge_69 (by decide) ?_
      refine q_idiv C dX4_judge_72 (by decide) ?_
      refine q_max C (by decide) hl.1 w_ml_X4_206 (Nat.le_of_ble_eq_true rfl) dX4_judge_73 ?_
      refine q_istore_n C dX4_judge_76 rfl hl (by decide) (lv2 := [(3, .int _), (0, .ref _), (1, .int _), (2, .int _), (4, .int _)]) rfl (fun ls hl => ?_)
      refine q_aload_n C dX4_judge_77 rfl (lv_at hl 1 rfl) ?_
      refine q_iload_n C dX4_judge_78 rfl (lv_at hl 3 rfl) ?_
      refine q_iload_n C dX4_judge_79 rfl (lv_at hl 0 rfl) ?_
      obtain ⟨hn5, hK⟩ := nz_so hK
      refine q_idiv C dX4_judge_80 hn5 ?_
      refine q_sipush C (v := 1000) dX4_judge_81 (by decide) ?_
      refine q_irem C dX4_judge_84 (by decide) ?_
      obtain ⟨r6, h7, hfr6, hK⟩ := bd_so hK
      refine q_callVi C s_X4_obeys w_ml_X4_212 (c_X4_obeys l G hfr6) kd_0 rfl (by decide) (ce_3 kd_0) (by decide) hl.1 rfl rfl (Nat.le_of_ble_eq_true rfl) dX4_judge_85 ?_
      refine q_if_ne C dX4_judge_88 (tgt := 94) (by decide) (fun hc => ?_) (fun hc => ?_)
      · replace hK := if_ne hc hK
        refine q_iinc C dX4_judge_94 hl (j := 4) (v := (v4 + 1)) rfl rfl (by decide) (lv2 := [(4, .int _), (3, .int _), (0, .ref _), (1, .int _), (2, .int _)]) rfl (fun ls hl => ?_)
        refine q_goto C dX4_judge_97 (tgt := 61) (by decide) ?_
        exact ih _ _ _ _ _ _ (lv_sub hl [2, 3, 4, 1, 0] rfl) hK
      · replace hK := if_po hc hK
        refine q_iload C dX4_judge_91 (lv_at hl 4 rfl) ?_
        cases hK
        exact q_iret C dX4_judge_93
def f_X4_judge_b17 : Nat → Int32 → Int32 → Int32 → Int32 → PH → Option (Int32 × PH)
  | 0, _, _, _, _, _ => none
  | n + 1, v1, v2, v3, v4, h => if v1 ≤ v4 then if v2 < 0 then some ((-2 : Int32), h) else if v2 < v3 then bd (f_X3_copyFrom 25 20 h) (fun _ h4 => f_X4_judge_b61 200 v1 v2 v3 (0 : Int32) h4) else some ((-2 : Int32), h) else (f_X4_judge_b17 n) v1 v2 (v3 * (1000 : Int32)) (v4 + 1) h
set_option maxHeartbeats 4000000 in
set_option maxRecDepth 100000 in
theorem t_X4_judge_b17 {p : Program} {l : Launch} {e : Env} {s : State} {m : MethodId} {args : Array Value} {below : List Frame} {meth : Method} {c : Code} {G : GG} {res : Int32 × PH} (C : cx p s m args meth c G RX4 cX4_judge 5 (some .int)) (n : Nat) : ∀ (v1 : Int32) (v2 : Int32) (v3 : Int32) (v4 : Int32) (h : PH) (ls : Array Slot), lv_has ls 5 [(0, .ref (G.2.2.2.2 0)), (1, .int v1), (2, .int v2), (3, .int v3), (4, .int v4)] → f_X4_judge_b17 n v1 v2 v3 v4 h = some res → WW p l e 5 s m args below meth c G h (MQ below (QI G res) args s 0 0 (Ar G)) (F0 m 17 ls []) := by
  induction n with
  | zero => intro v1 v2 v3 v4 h ls hl hK; cases hK
  | succ n ih =>
    intro v1 v2 v3 v4 h ls hl hK
    unfold f_X4_judge_b17 at hK
    refine q_iload C dX4_judge_17 (lv_at hl 4 rfl) ?_
    refine q_iload_n C dX4_judge_19 rfl (lv_at hl 1 rfl) ?_
    refine q_icmp_ge C dX4_judge_20 (tgt := 35) (by decide) (fun hc => ?_) (fun hc => ?_)
    · replace hK := if_po hc hK
      refine q_iload_n C dX4_judge_35 rfl (lv_at hl 2 rfl) ?_
      refine q_if_lt C dX4_judge_36 (tgt := 44) (by decide) (fun hc => ?_) (fun hc => ?_)
      · replace hK := if_po hc hK
        refine q_bipush C (v := -2) dX4_judge_44 (by decide) ?_
        cases hK
        exact q_iret C dX4_judge_46
      · replace hK := if_ne hc hK
        refine q_iload_n C dX4_judge_39 rfl (lv_at hl 2 rfl) ?_
        refine q_iload_n C dX4_judge_40 rfl (lv_at hl 3 rfl) ?_
        refine q_icmp_lt C dX4_judge_41 (tgt := 47) (by decide) (fun hc => ?_) (fun hc => ?_)
        · replace hK := if_po hc hK
          refine q_aload_n C dX4_judge_47 rfl (lv_at hl 0 rfl) ?_
          refine g_X4_trial C kd_0 w_fl_X4_36 dX4_judge_48 ?_
          refine q_aload_n C dX4_judge_51 rfl (lv_at hl 0 rfl) ?_
          refine g_X4_now C kd_0 w_fl_X4_32 dX4_judge_52 ?_
          obtain ⟨r3, h4, hfr3, hK⟩ := bd_so hK
          refine q_callVv C s_X3_copyFrom w_ml_X4_78 (c_X3_copyFrom l G hfr3) kd_25 rfl (by decide) (ce_2 kd_25) (by decide) hl.1 rfl rfl (Nat.le_of_ble_eq_true rfl) dX4_judge_55 ?_
          refine q_iconst C (v := 0) dX4_judge_58 (by decide) ?_
          refine q_istore C dX4_judge_59 hl (by decide) (lv2 := [(4, .int _), (0, .ref _), (1, .int _), (2, .int _), (3, .int _)]) rfl (fun ls hl => ?_)
          exact t_X4_judge_b61 C 200 _ _ _ _ _ _ (lv_sub hl [1, 2, 3, 4, 0] rfl) hK
        · replace hK := if_ne hc hK
          refine q_bipush C (v := -2) dX4_judge_44 (by decide) ?_
          cases hK
          exact q_iret C dX4_judge_46
    · replace hK := if_ne hc hK
      refine q_iload_n C dX4_judge_23 rfl (lv_at hl 3 rfl) ?_
      refine q_sipush C (v := 1000) dX4_judge_24 (by decide) ?_
      refine q_imul C dX4_judge_27 ?_
      refine q_istore_n C dX4_judge_28 rfl hl (by decide) (lv2 := [(3, .int _), (0, .ref _), (1, .int _), (2, .int _), (4, .int _)]) rfl (fun ls hl => ?_)
      refine q_iinc C dX4_judge_29 hl (j := 4) (v := (v4 + 1)) rfl rfl (by decide) (lv2 := [(4, .int _), (3, .int _), (0, .ref _), (1, .int _), (2, .int _)]) rfl (fun ls hl => ?_)
      refine q_goto C dX4_judge_32 (tgt := 17) (by decide) ?_
      exact ih _ _ _ _ _ _ (lv_sub hl [2, 3, 4, 1, 0] rfl) hK
def f_X4_judge (a1 : Int32) (a2 : Int32) (h : PH) : Option (Int32 × PH) := bd (f_X4_isWithin a1 (1 : Int32) (3 : Int32) h) (fun r1 h2 => if r1 = 0 then some ((-2 : Int32), h2) else f_X4_judge_b17 200 a1 a2 (1 : Int32) (0 : Int32) h2)
set_option maxHeartbeats 4000000 in
set_option maxRecDepth 100000 in
theorem c_X4_judge (l : Launch) (G : GG) {a1 : Int32} {a2 : Int32} {h : PH} {res : Int32 × PH} (hF : f_X4_judge a1 a2 h = some res) : MI l G yX4_judge cX4_judge 5 .int 5 [.ref (G.2.2.2.2 0), .int a1, .int a2] h res := by
  unfold f_X4_judge at hF
  refine MI_of (by decide +kernel) (Nat.le_of_ble_eq_true rfl) ?_
  intro p e s m args below meth c ls C hl
  have hK := hF
  clear hF
  have hl : lv_has ls 5 [(0, .ref (G.2.2.2.2 0)), (1, .int a1), (2, .int a2)] := hl
  have C : cx p s m args meth c G RX4 cX4_judge 5 (some .int) := C
  refine q_iload_n C dX4_judge_0 rfl (lv_at hl 1 rfl) ?_
  refine q_iconst C (v := 1) dX4_judge_1 (by decide) ?_
  refine q_iconst C (v := 3) dX4_judge_2 (by decide) ?_
  obtain ⟨r1, h2, hfr1, hK⟩ := bd_so hK
  refine q_callSi C s_X4_isWithin w_ml_X4_59 (c_X4_isWithin l G hfr1) (by decide) hl.1 rfl rfl (Nat.le_of_ble_eq_true rfl) dX4_judge_3 ?_
  refine q_if_ne C dX4_judge_6 (tgt := 12) (by decide) (fun hc => ?_) (fun hc => ?_)
  · replace hK := if_ne hc hK
    refine q_iconst C (v := 1) dX4_judge_12 (by decide) ?_
    refine q_istore_n C dX4_judge_13 rfl hl (by decide) (lv2 := [(3, .int _), (0, .ref _), (1, .int _), (2, .int _)]) rfl (fun ls hl => ?_)
    refine q_iconst C (v := 0) dX4_judge_14 (by decide) ?_
    refine q_istore C dX4_judge_15 hl (by decide) (lv2 := [(4, .int _), (3, .int _), (0, .ref _), (1, .int _), (2, .int _)]) rfl (fun ls hl => ?_)
    exact t_X4_judge_b17 C 200 _ _ _ _ _ _ (lv_sub hl [2, 3, 4, 1, 0] rfl) hK
  · replace hK := if_po hc hK
    refine q_bipush C (v := -2) dX4_judge_9 (by decide) ?_
    cases hK
    exact q_iret C dX4_judge_11
theorem s_X4_judge : sv yX4_judge cX4_judge 5 (some .int) 2 := ⟨w_co_X4_judge, w_im_X4_judge, w_se_X4_judge, w_in_X4, by decide +kernel, by decide⟩
def f_X4_see (a1 : Int32) (a2 : Int32) (a3 : Int32) (h : PH) : Option (Int32 × PH) := bd (f_X4_isWithin a1 (0 : Int32) (2 : Int32) h) (fun r1 h2 => if r1 = 0 then some ((-2 : Int32), h2) else bd (f_X4_isWithin a2 (0 : Int32) (20 : Int32) h2) (fun r3 h4 => if r3 = 0 then some ((-2 : Int32), h4) else bd (f_X4_isWithin a3 (0 : Int32) (99 : Int32) h4) (fun r5 h6 => if r5 = 0 then some ((-2 : Int32), h6) else if (h6.1 0 14) < (6 : Int32) then wr h6 5 (h6.1 0 14) a1 (fun h7 => wr h7 6 (h7.1 0 14) a2 (fun h8 => wr h8 7 (h8.1 0 14) a3 (fun h9 => st h9 0 14 ((h9.1 0 14) + (1 : Int32)) (fun h10 => some ((h10.1 0 14), h10))))) else some ((-4 : Int32), h6))))
set_option maxHeartbeats 4000000 in
set_option maxRecDepth 100000 in
theorem c_X4_see (l : Launch) (G : GG) {a1 : Int32} {a2 : Int32} {a3 : Int32} {h : PH} {res : Int32 × PH} (hF : f_X4_see a1 a2 a3 h = some res) : MI l G yX4_see cX4_see 4 .int 1 [.ref (G.2.2.2.2 0), .int a1, .int a2, .int a3] h res := by
  unfold f_X4_see at hF
  refine MI_of (by decide +kernel) (Nat.le_of_ble_eq_true rfl) ?_
  intro p e s m args below meth c ls C hl
  have hK := hF
  clear hF
  have hl : lv_has ls 4 [(0, .ref (G.2.2.2.2 0)), (1, .int a1), (2, .int a2), (3, .int a3)] := hl
  have C : cx p s m args meth c G RX4 cX4_see 4 (some .int) := C
  refine q_iload_n C dX4_see_0 rfl (lv_at hl 1 rfl) ?_
  refine q_iconst C (v := 0) dX4_see_1 (by decide) ?_
  refine q_iconst C (v := 2) dX4_see_2 (by decide) ?_
  obtain ⟨r1, h2, hfr1, hK⟩ := bd_so hK
  refine q_callSi C s_X4_isWithin w_ml_X4_59 (c_X4_isWithin l G hfr1) (by decide) hl.1 rfl rfl (Nat.le_of_ble_eq_true rfl) dX4_see_3 ?_
  refine q_if_eq C dX4_see_6 (tgt := 29) (by decide) (fun hc => ?_) (fun hc => ?_)
  · replace hK := if_po hc hK
    refine q_bipush C (v := -2) dX4_see_29 (by decide) ?_
    cases hK
    exact q_iret C dX4_see_31
  · replace hK := if_ne hc hK
    refine q_iload_n C dX4_see_9 rfl (lv_at hl 2 rfl) ?_
    refine q_iconst C (v := 0) dX4_see_10 (by decide) ?_
    refine q_bipush C (v := 20) dX4_see_11 (by decide) ?_
    obtain ⟨r3, h4, hfr3, hK⟩ := bd_so hK
    refine q_callSi C s_X4_isWithin w_ml_X4_59 (c_X4_isWithin l G hfr3) (by decide) hl.1 rfl rfl (Nat.le_of_ble_eq_true rfl) dX4_see_13 ?_
    refine q_if_eq C dX4_see_16 (tgt := 29) (by decide) (fun hc => ?_) (fun hc => ?_)
    · replace hK := if_po hc hK
      refine q_bipush C (v := -2) dX4_see_29 (by decide) ?_
      cases hK
      exact q_iret C dX4_see_31
    · replace hK := if_ne hc hK
      refine q_iload_n C dX4_see_19 rfl (lv_at hl 3 rfl) ?_
      refine q_iconst C (v := 0) dX4_see_20 (by decide) ?_
      refine q_bipush C (v := 99) dX4_see_21 (by decide) ?_
      obtain ⟨r5, h6, hfr5, hK⟩ := bd_so hK
      refine q_callSi C s_X4_isWithin w_ml_X4_59 (c_X4_isWithin l G hfr5) (by decide) hl.1 rfl rfl (Nat.le_of_ble_eq_true rfl) dX4_see_23 ?_
      refine q_if_ne C dX4_see_26 (tgt := 32) (by decide) (fun hc => ?_) (fun hc => ?_)
      · replace hK := if_ne hc hK
        refine q_aload_n C dX4_see_32 rfl (lv_at hl 0 rfl) ?_
        refine g_X4_seenCount C kd_0 w_fl_X4_102 dX4_see_33 ?_
        refine q_bipush C (v := 6) dX4_see_36 (by decide) ?_
        refine q_icmp_lt C dX4_see_38 (tgt := 44) (by decide) (fun hc => ?_) (fun hc => ?_)
        · replace hK := if_po hc hK
          refine q_aload_n C dX4_see_44 rfl (lv_at hl 0 rfl) ?_
          refine g_X4_seenWhat C kd_0 w_fl_X4_50 dX4_see_45 ?_
          refine q_aload_n C dX4_see_48 rfl (lv_at hl 0 rfl) ?_
          refine g_X4_seenCount C kd_0 w_fl_X4_102 dX4_see_49 ?_
          refine q_iload_n C dX4_see_52 rfl (lv_at hl 1 rfl) ?_
          obtain ⟨h7, hh7, hK⟩ := wr_so hK
          refine q_iast C kd_5 hh7 dX4_see_53 ?_
          refine q_aload_n C dX4_see_54 rfl (lv_at hl 0 rfl) ?_
          refine g_X4_seenAfter C kd_0 w_fl_X4_53 dX4_see_55 ?_
          refine q_aload_n C dX4_see_58 rfl (lv_at hl 0 rfl) ?_
          refine g_X4_seenCount C kd_0 w_fl_X4_102 dX4_see_59 ?_
          refine q_iload_n C dX4_see_62 rfl (lv_at hl 2 rfl) ?_
          obtain ⟨h8, hh8, hK⟩ := wr_so hK
          refine q_iast C kd_6 hh8 dX4_see_63 ?_
          refine q_aload_n C dX4_see_64 rfl (lv_at hl 0 rfl) ?_
          refine g_X4_seenValue C kd_0 w_fl_X4_56 dX4_see_65 ?_
          refine q_aload_n C dX4_see_68 rfl (lv_at hl 0 rfl) ?_
          refine g_X4_seenCount C kd_0 w_fl_X4_102 dX4_see_69 ?_
          refine q_iload_n C dX4_see_72 rfl (lv_at hl 3 rfl) ?_
          obtain ⟨h9, hh9, hK⟩ := wr_so hK
          refine q_iast C kd_7 hh9 dX4_see_73 ?_
          refine q_aload_n C dX4_see_74 rfl (lv_at hl 0 rfl) ?_
          refine q_dup C dX4_see_75 rfl ?_
          refine g_X4_seenCount C kd_0 w_fl_X4_102 dX4_see_76 ?_
          refine q_iconst C (v := 1) dX4_see_79 (by decide) ?_
          refine q_iadd C dX4_see_80 ?_
          obtain ⟨h10, hh10, hK⟩ := st_so hK
          refine p_X4_seenCount C kd_0 w_fl_X4_102 hh10 dX4_see_81 ?_
          refine q_aload_n C dX4_see_84 rfl (lv_at hl 0 rfl) ?_
          refine g_X4_seenCount C kd_0 w_fl_X4_102 dX4_see_85 ?_
          cases hK
          exact q_iret C dX4_see_88
        · replace hK := if_ne hc hK
          refine q_bipush C (v := -4) dX4_see_41 (by decide) ?_
          cases hK
          exact q_iret C dX4_see_43
      · replace hK := if_po hc hK
        refine q_bipush C (v := -2) dX4_see_29 (by decide) ?_
        cases hK
        exact q_iret C dX4_see_31
theorem s_X4_see : sv yX4_see cX4_see 4 (some .int) 3 := ⟨w_co_X4_see, w_im_X4_see, w_se_X4_see, w_in_X4, by decide +kernel, by decide⟩
def f_X4_unsee (h : PH) : Option (Int32 × PH) := st h 0 14 (0 : Int32) (fun h1 => some ((h.1 0 14), h1))
set_option maxHeartbeats 4000000 in
set_option maxRecDepth 100000 in
theorem c_X4_unsee (l : Launch) (G : GG) {h : PH} {res : Int32 × PH} (hF : f_X4_unsee h = some res) : MI l G yX4_unsee cX4_unsee 2 .int 0 [.ref (G.2.2.2.2 0)] h res := by
  unfold f_X4_unsee at hF
  refine MI_of (by decide +kernel) (Nat.le_of_ble_eq_true rfl) ?_
  intro p e s m args below meth c ls C hl
  have hK := hF
  clear hF
  have hl : lv_has ls 2 [(0, .ref (G.2.2.2.2 0))] := hl
  have C : cx p s m args meth c G RX4 cX4_unsee 2 (some .int) := C
  refine q_aload_n C dX4_unsee_0 rfl (lv_at hl 0 rfl) ?_
  refine g_X4_seenCount C kd_0 w_fl_X4_102 dX4_unsee_1 ?_
  refine q_istore_n C dX4_unsee_4 rfl hl (by decide) (lv2 := [(1, .int _), (0, .ref _)]) rfl (fun ls hl => ?_)
  refine q_aload_n C dX4_unsee_5 rfl (lv_at hl 1 rfl) ?_
  refine q_iconst C (v := 0) dX4_unsee_6 (by decide) ?_
  obtain ⟨h1, hh1, hK⟩ := st_so hK
  refine p_X4_seenCount C kd_0 w_fl_X4_102 hh1 dX4_unsee_7 ?_
  refine q_iload_n C dX4_unsee_10 rfl (lv_at hl 0 rfl) ?_
  cases hK
  exact q_iret C dX4_unsee_11
theorem s_X4_unsee : sv yX4_unsee cX4_unsee 2 (some .int) 0 := ⟨w_co_X4_unsee, w_im_X4_unsee, w_se_X4_unsee, w_in_X4, by decide +kernel, by decide⟩
def f_X4_agreesAfter_b2 : Nat → Int32 → Int32 → PH → Option (Int32 × PH)
  | 0, _, _, _ => none
  | n + 1, v1, v2, h => if (h.1 0 14) ≤ v2 then some ((1 : Int32), h) else rd h 6 v2 (fun x1 => if x1 = v1 then rd h 5 v2 (fun x2 => bd (f_X3_observed 25 x2 h) (fun r3 h4 => rd h4 7 v2 (fun x5 => if r3 = x5 then (f_X4_agreesAfter_b2 n) v1 (v2 + 1) h4 else some ((0 : Int32), h4)))) else (f_X4_agreesAfter_b2 n) v1 (v2 + 1) h)
set_option maxHeartbeats 4000000 in
set_option maxRecDepth 100000 in
theorem t_X4_agreesAfter_b2 {p : Program} {l : Launch} {e : Env} {s : State} {m : MethodId} {args : Array Value} {below : List Frame} {meth : Method} {c : Code} {G : GG} {res : Int32 × PH} (C : cx p s m args meth c G RX4 cX4_agreesAfter 3 (some .boolean)) (n : Nat) : ∀ (v1 : Int32) (v2 : Int32) (h : PH) (ls : Array Slot), lv_has ls 3 [(0, .ref (G.2.2.2.2 0)), (1, .int v1), (2, .int v2)] → f_X4_agreesAfter_b2 n v1 v2 h = some res → WW p l e 1 s m args below meth c G h (MQ below (QI G res) args s 0 0 (Ar G)) (F0 m 2 ls []) := by
  induction n with
  | zero => intro v1 v2 h ls hl hK; cases hK
  | succ n ih =>
    intro v1 v2 h ls hl hK
    unfold f_X4_agreesAfter_b2 at hK
    refine q_iload_n C dX4_agreesAfter_2 rfl (lv_at hl 2 rfl) ?_
    refine q_aload_n C dX4_agreesAfter_3 rfl (lv_at hl 0 rfl) ?_
    refine g_X4_seenCount C kd_0 w_fl_X4_102 dX4_agreesAfter_4 ?_
    refine q_icmp_ge C dX4_agreesAfter_7 (tgt := 50) (by decide) (fun hc => ?_) (fun hc => ?_)
    · replace hK := if_po hc hK
      refine q_iconst C (v := 1) dX4_agreesAfter_50 (by decide) ?_
      cases hK
      exact q_zret C (Or.inr rfl) dX4_agreesAfter_51
    · replace hK := if_ne hc hK
      refine q_aload_n C dX4_agreesAfter_10 rfl (lv_at hl 0 rfl) ?_
      refine g_X4_seenAfter C kd_0 w_fl_X4_53 dX4_agreesAfter_11 ?_
      refine q_iload_n C dX4_agreesAfter_14 rfl (lv_at hl 2 rfl) ?_
      obtain ⟨x1, hx1, hK⟩ := rd_so hK
      refine q_iald C kd_6 hx1 dX4_agreesAfter_15 ?_
      refine q_iload_n C dX4_agreesAfter_16 rfl (lv_at hl 1 rfl) ?_
      refine q_icmp_ne C dX4_agreesAfter_17 (tgt := 44) (by decide) (fun hc => ?_) (fun hc => ?_)
      · replace hK := if_ne hc hK
        refine q_iinc C dX4_agreesAfter_44 hl (j := 2) (v := (v2 + 1)) rfl rfl (by decide) (lv2 := [(2, .int _), (0, .ref _), (1, .int _)]) rfl (fun ls hl => ?_)
        refine q_goto C dX4_agreesAfter_47 (tgt := 2) (by decide) ?_
        exact ih _ _ _ _ (lv_sub hl [1, 2, 0] rfl) hK
      · replace hK := if_po hc hK
        refine q_aload_n C dX4_agreesAfter_20 rfl (lv_at hl 0 rfl) ?_
        refine g_X4_trial C kd_0 w_fl_X4_36 dX4_agreesAfter_21 ?_
        refine q_aload_n C dX4_agreesAfter_24 rfl (lv_at hl 0 rfl) ?_
        refine g_X4_seenWhat C kd_0 w_fl_X4_50 dX4_agreesAfter_25 ?_
        refine q_iload_n C dX4_agreesAfter_28 rfl (lv_at hl 2 rfl) ?_
        obtain ⟨x2, hx2, hK⟩ := rd_so hK
        refine q_iald C kd_5 hx2 dX4_agreesAfter_29 ?_
        obtain ⟨r3, h4, hfr3, hK⟩ := bd_so hK
        refine q_callVi C s_X3_observed w_ml_X4_286 (c_X3_observed l G hfr3) kd_25 rfl (by decide) (ce_2 kd_25) (by decide) hl.1 rfl rfl (Nat.le_of_ble_eq_true rfl) dX4_agreesAfter_30 ?_
        refine q_aload_n C dX4_agreesAfter_33 rfl (lv_at hl 0 rfl) ?_
        refine g_X4_seenValue C kd_0 w_fl_X4_56 dX4_agreesAfter_34 ?_
        refine q_iload_n C dX4_agreesAfter_37 rfl (lv_at hl 2 rfl) ?_
        obtain ⟨x5, hx5, hK⟩ := rd_so hK
        refine q_iald C kd_7 hx5 dX4_agreesAfter_38 ?_
        refine q_icmp_eq C dX4_agreesAfter_39 (tgt := 44) (by decide) (fun hc => ?_) (fun hc => ?_)
        · replace hK := if_po hc hK
          refine q_iinc C dX4_agreesAfter_44 hl (j := 2) (v := (v2 + 1)) rfl rfl (by decide) (lv2 := [(2, .int _), (0, .ref _), (1, .int _)]) rfl (fun ls hl => ?_)
          refine q_goto C dX4_agreesAfter_47 (tgt := 2) (by decide) ?_
          exact ih _ _ _ _ (lv_sub hl [1, 2, 0] rfl) hK
        · replace hK := if_ne hc hK
          refine q_iconst C (v := 0) dX4_agreesAfter_42 (by decide) ?_
          cases hK
          exact q_zret C (Or.inl rfl) dX4_agreesAfter_43
def f_X4_agreesAfter (a1 : Int32) (h : PH) : Option (Int32 × PH) := f_X4_agreesAfter_b2 200 a1 (0 : Int32) h
set_option maxHeartbeats 4000000 in
set_option maxRecDepth 100000 in
theorem c_X4_agreesAfter (l : Launch) (G : GG) {a1 : Int32} {h : PH} {res : Int32 × PH} (hF : f_X4_agreesAfter a1 h = some res) : MI l G yX4_agreesAfter cX4_agreesAfter 3 .boolean 1 [.ref (G.2.2.2.2 0), .int a1] h res := by
  unfold f_X4_agreesAfter at hF
  refine MI_of (by decide +kernel) (Nat.le_of_ble_eq_true rfl) ?_
  intro p e s m args below meth c ls C hl
  have hK := hF
  clear hF
  have hl : lv_has ls 3 [(0, .ref (G.2.2.2.2 0)), (1, .int a1)] := hl
  have C : cx p s m args meth c G RX4 cX4_agreesAfter 3 (some .boolean) := C
  refine q_iconst C (v := 0) dX4_agreesAfter_0 (by decide) ?_
  refine q_istore_n C dX4_agreesAfter_1 rfl hl (by decide) (lv2 := [(2, .int _), (0, .ref _), (1, .int _)]) rfl (fun ls hl => ?_)
  exact t_X4_agreesAfter_b2 C 200 _ _ _ _ (lv_sub hl [1, 2, 0] rfl) hK
theorem s_X4_agreesAfter : sv yX4_agreesAfter cX4_agreesAfter 3 (some .boolean) 1 := ⟨w_co_X4_agreesAfter, w_im_X4_agreesAfter, w_se_X4_agreesAfter, w_in_X4, by decide +kernel, by decide⟩
def f_X4_agreesWithSlipAfter_b41 (rec13 : Int32 → Int32 → PH → Option (Int32 × PH)) (v1 : Int32) (v2 : Int32) (h : PH) : Option (Int32 × PH) := bd (f_X3_advance 25 (1 : Int32) h) (fun r7 h8 => rec13 v1 (v2 + 1) h8)
set_option maxHeartbeats 4000000 in
set_option maxRecDepth 100000 in
theorem t_X4_agreesWithSlipAfter_b41 {p : Program} {l : Launch} {e : Env} {s : State} {m : MethodId} {args : Array Value} {below : List Frame} {meth : Method} {c : Code} {G : GG} {res : Int32 × PH} (C : cx p s m args meth c G RX4 cX4_agreesWithSlipAfter 3 (some .boolean)) {rec13 : Int32 → Int32 → PH → Option (Int32 × PH)} (hrec13 : ∀ (v1 : Int32) (v2 : Int32) (h : PH) (ls : Array Slot), lv_has ls 3 [(0, .ref (G.2.2.2.2 0)), (1, .int v1), (2, .int v2)] → rec13 v1 v2 h = some res → WW p l e 4 s m args below meth c G h (MQ below (QI G res) args s 0 0 (Ar G)) (F0 m 13 ls [])) {v1 : Int32} {v2 : Int32} {h : PH} {ls : Array Slot} (hl : lv_has ls 3 [(0, .ref (G.2.2.2.2 0)), (1, .int v1), (2, .int v2)]) (hK : f_X4_agreesWithSlipAfter_b41 rec13 v1 v2 h = some res) : WW p l e 4 s m args below meth c G h (MQ below (QI G res) args s 0 0 (Ar G)) (F0 m 41 ls []) := by
  unfold f_X4_agreesWithSlipAfter_b41 at hK
  refine q_aload_n C dX4_agreesWithSlipAfter_41 rfl (lv_at hl 0 rfl) ?_
  refine g_X4_trial C kd_0 w_fl_X4_36 dX4_agreesWithSlipAfter_42 ?_
  refine q_iconst C (v := 1) dX4_agreesWithSlipAfter_45 (by decide) ?_
  obtain ⟨r7, h8, hfr7, hK⟩ := bd_so hK
  refine q_callVi C s_X3_advance w_ml_X4_163 (c_X3_advance l G hfr7) kd_25 rfl (by decide) (ce_2 kd_25) (by decide) hl.1 rfl rfl (Nat.le_of_ble_eq_true rfl) dX4_agreesWithSlipAfter_46 ?_
  refine q_pop C dX4_agreesWithSlipAfter_49 rfl ?_
  refine q_iinc C dX4_agreesWithSlipAfter_50 hl (j := 2) (v := (v2 + 1)) rfl rfl (by decide) (lv2 := [(2, .int _), (0, .ref _), (1, .int _)]) rfl (fun ls hl => ?_)
  refine q_goto C dX4_agreesWithSlipAfter_53 (tgt := 13) (by decide) ?_
  exact hrec13 _ _ _ _ (lv_sub hl [1, 2, 0] rfl) hK
def f_X4_agreesWithSlipAfter_b13 : Nat → Int32 → Int32 → PH → Option (Int32 × PH)
  | 0, _, _, _ => none
  | n + 1, v1, v2, h => if (20 : Int32) < v2 then some ((1 : Int32), h) else bd (f_X4_agreesAfter v2 h) (fun r3 h4 => if r3 = 0 then some ((0 : Int32), h4) else if v2 = v1 then bd (f_X3_moveMarks 25 h4) (fun _ h6 => f_X4_agreesWithSlipAfter_b41 (f_X4_agreesWithSlipAfter_b13 n) v1 v2 h6) else f_X4_agreesWithSlipAfter_b41 (f_X4_agreesWithSlipAfter_b13 n) v1 v2 h4)
set_option maxHeartbeats 4000000 in
set_option maxRecDepth 100000 in
theorem t_X4_agreesWithSlipAfter_b13 {p : Program} {l : Launch} {e : Env} {s : State} {m : MethodId} {args : Array Value} {below : List Frame} {meth : Method} {c : Code} {G : GG} {res : Int32 × PH} (C : cx p s m args meth c G RX4 cX4_agreesWithSlipAfter 3 (some .boolean)) (n : Nat) : ∀ (v1 : Int32) (v2 : Int32) (h : PH) (ls : Array Slot), lv_has ls 3 [(0, .ref (G.2.2.2.2 0)), (1, .int v1), (2, .int v2)] → f_X4_agreesWithSlipAfter_b13 n v1 v2 h = some res → WW p l e 4 s m args below meth c G h (MQ below (QI G res) args s 0 0 (Ar G)) (F0 m 13 ls []) := by
  induction n with
  | zero => intro v1 v2 h ls hl hK; cases hK
  | succ n ih =>
    intro v1 v2 h ls hl hK
    unfold f_X4_agreesWithSlipAfter_b13 at hK
    refine q_iload_n C dX4_agreesWithSlipAfter_13 rfl (lv_at hl 2 rfl) ?_
    refine q_bipush C (v := 20) dX4_agreesWithSlipAfter_14 (by decide) ?_
    refine q_icmp_gt C dX4_agreesWithSlipAfter_16 (tgt := 56) (by decide) (fun hc => ?_) (fun hc => ?_)
    · replace hK := if_po hc hK
      refine q_iconst C (v := 1) dX4_agreesWithSlipAfter_56 (by decide) ?_
      cases hK
      exact q_zret C (Or.inr rfl) dX4_agreesWithSlipAfter_57
    · replace hK := if_ne hc hK
      refine q_aload_n C dX4_agreesWithSlipAfter_19 rfl (lv_at hl 0 rfl) ?_
      refine q_iload_n C dX4_agreesWithSlipAfter_20 rfl (lv_at hl 2 rfl) ?_
      obtain ⟨r3, h4, hfr3, hK⟩ := bd_so hK
      refine q_callVi C s_X4_agreesAfter w_ml_X4_283 (c_X4_agreesAfter l G hfr3) kd_0 rfl (by decide) (ce_3 kd_0) (by decide) hl.1 rfl rfl (Nat.le_of_ble_eq_true rfl) dX4_agreesWithSlipAfter_21 ?_
      refine q_if_ne C dX4_agreesWithSlipAfter_24 (tgt := 29) (by decide) (fun hc => ?_) (fun hc => ?_)
      · replace hK := if_ne hc hK
        refine q_iload_n C dX4_agreesWithSlipAfter_29 rfl (lv_at hl 2 rfl) ?_
        refine q_iload_n C dX4_agreesWithSlipAfter_30 rfl (lv_at hl 1 rfl) ?_
        refine q_icmp_ne C dX4_agreesWithSlipAfter_31 (tgt := 41) (by decide) (fun hc => ?_) (fun hc => ?_)
        · replace hK := if_ne hc hK
          exact t_X4_agreesWithSlipAfter_b41 C ih (lv_sub hl [0, 1, 2] rfl) hK
        · replace hK := if_po hc hK
          refine q_aload_n C dX4_agreesWithSlipAfter_34 rfl (lv_at hl 0 rfl) ?_
          refine g_X4_trial C kd_0 w_fl_X4_36 dX4_agreesWithSlipAfter_35 ?_
          obtain ⟨r5, h6, hfr5, hK⟩ := bd_so hK
          refine q_callVv C s_X3_moveMarks w_ml_X4_166 (c_X3_moveMarks l G hfr5) kd_25 rfl (by decide) (ce_2 kd_25) (by decide) hl.1 rfl rfl (Nat.le_of_ble_eq_true rfl) dX4_agreesWithSlipAfter_38 ?_
          exact t_X4_agreesWithSlipAfter_b41 C ih (lv_sub hl [0, 1, 2] rfl) hK
      · replace hK := if_po hc hK
        refine q_iconst C (v := 0) dX4_agreesWithSlipAfter_27 (by decide) ?_
        cases hK
        exact q_zret C (Or.inl rfl) dX4_agreesWithSlipAfter_28
def f_X4_agreesWithSlipAfter (a1 : Int32) (h : PH) : Option (Int32 × PH) := bd (f_X3_copyFrom 25 20 h) (fun _ h2 => f_X4_agreesWithSlipAfter_b13 200 a1 (0 : Int32) h2)
set_option maxHeartbeats 4000000 in
set_option maxRecDepth 100000 in
theorem c_X4_agreesWithSlipAfter (l : Launch) (G : GG) {a1 : Int32} {h : PH} {res : Int32 × PH} (hF : f_X4_agreesWithSlipAfter a1 h = some res) : MI l G yX4_agreesWithSlipAfter cX4_agreesWithSlipAfter 3 .boolean 4 [.ref (G.2.2.2.2 0), .int a1] h res := by
  unfold f_X4_agreesWithSlipAfter at hF
  refine MI_of (by decide +kernel) (Nat.le_of_ble_eq_true rfl) ?_
  intro p e s m args below meth c ls C hl
  have hK := hF
  clear hF
  have hl : lv_has ls 3 [(0, .ref (G.2.2.2.2 0)), (1, .int a1)] := hl
  have C : cx p s m args meth c G RX4 cX4_agreesWithSlipAfter 3 (some .boolean) := C
  refine q_aload_n C dX4_agreesWithSlipAfter_0 rfl (lv_at hl 0 rfl) ?_
  refine g_X4_trial C kd_0 w_fl_X4_36 dX4_agreesWithSlipAfter_1 ?_
  refine q_aload_n C dX4_agreesWithSlipAfter_4 rfl (lv_at hl 0 rfl) ?_
  refine g_X4_now C kd_0 w_fl_X4_32 dX4_agreesWithSlipAfter_5 ?_
  obtain ⟨r1, h2, hfr1, hK⟩ := bd_so hK
  refine q_callVv C s_X3_copyFrom w_ml_X4_78 (c_X3_copyFrom l G hfr1) kd_25 rfl (by decide) (ce_2 kd_25) (by decide) hl.1 rfl rfl (Nat.le_of_ble_eq_true rfl) dX4_agreesWithSlipAfter_8 ?_
  refine q_iconst C (v := 0) dX4_agreesWithSlipAfter_11 (by decide) ?_
  refine q_istore_n C dX4_agreesWithSlipAfter_12 rfl hl (by decide) (lv2 := [(2, .int _), (0, .ref _), (1, .int _)]) rfl (fun ls hl => ?_)
  exact t_X4_agreesWithSlipAfter_b13 C 200 _ _ _ _ (lv_sub hl [1, 2, 0] rfl) hK
theorem s_X4_agreesWithSlipAfter : sv yX4_agreesWithSlipAfter cX4_agreesWithSlipAfter 3 (some .boolean) 1 := ⟨w_co_X4_agreesWithSlipAfter, w_im_X4_agreesWithSlipAfter, w_se_X4_agreesWithSlipAfter, w_in_X4, by decide +kernel, by decide⟩
def f_X4_which_b4 : Nat → Int32 → Int32 → PH → Option (Int32 × PH)
  | 0, _, _, _ => none
  | n + 1, v1, v2, h => if (10 : Int32) ≤ v2 then some (v1, h) else bd (f_X4_agreesWithSlipAfter v2 h) (fun r1 h2 => if r1 = 0 then (f_X4_which_b4 n) v1 (v2 + 1) h2 else (f_X4_which_b4 n) (v1 ||| ((1 : Int32) <<< (v2 &&& 31))) (v2 + 1) h2)
set_option maxHeartbeats 4000000 in
set_option maxRecDepth 100000 in
theorem t_X4_which_b4 {p : Program} {l : Launch} {e : Env} {s : State} {m : MethodId} {args : Array Value} {below : List Frame} {meth : Method} {c : Code} {G : GG} {res : Int32 × PH} (C : cx p s m args meth c G RX4 cX4_which 3 (some .int)) (n : Nat) : ∀ (v1 : Int32) (v2 : Int32) (h : PH) (ls : Array Slot), lv_has ls 3 [(0, .ref (G.2.2.2.2 0)), (1, .int v1), (2, .int v2)] → f_X4_which_b4 n v1 v2 h = some res → WW p l e 5 s m args below meth c G h (MQ below (QI G res) args s 0 0 (Ar G)) (F0 m 4 ls []) := by
  induction n with
  | zero => intro v1 v2 h ls hl hK; cases hK
  | succ n ih =>
    intro v1 v2 h ls hl hK
    unfold f_X4_which_b4 at hK
    refine q_iload_n C dX4_which_4 rfl (lv_at hl 2 rfl) ?_
    refine q_bipush C (v := 10) dX4_which_5 (by decide) ?_
    refine q_icmp_ge C dX4_which_7 (tgt := 30) (by decide) (fun hc => ?_) (fun hc => ?_)
    · replace hK := if_po hc hK
      refine q_iload_n C dX4_which_30 rfl (lv_at hl 1 rfl) ?_
      cases hK
      exact q_iret C dX4_which_31
    · replace hK := if_ne hc hK
      refine q_aload_n C dX4_which_10 rfl (lv_at hl 0 rfl) ?_
      refine q_iload_n C dX4_which_11 rfl (lv_at hl 2 rfl) ?_
      obtain ⟨r1, h2, hfr1, hK⟩ := bd_so hK
      refine q_callVi C s_X4_agreesWithSlipAfter w_ml_X4_215 (c_X4_agreesWithSlipAfter l G hfr1) kd_0 rfl (by decide) (ce_3 kd_0) (by decide) hl.1 rfl rfl (Nat.le_of_ble_eq_true rfl) dX4_which_12 ?_
      refine q_if_eq C dX4_which_15 (tgt := 24) (by decide) (fun hc => ?_) (fun hc => ?_)
      · replace hK := if_po hc hK
        refine q_iinc C dX4_which_24 hl (j := 2) (v := (v2 + 1)) rfl rfl (by decide) (lv2 := [(2, .int _), (0, .ref _), (1, .int _)]) rfl (fun ls hl => ?_)
        refine q_goto C dX4_which_27 (tgt := 4) (by decide) ?_
        exact ih _ _ _ _ (lv_sub hl [1, 2, 0] rfl) hK
      · replace hK := if_ne hc hK
        refine q_iload_n C dX4_which_18 rfl (lv_at hl 1 rfl) ?_
        refine q_iconst C (v := 1) dX4_which_19 (by decide) ?_
        refine q_iload_n C dX4_which_20 rfl (lv_at hl 2 rfl) ?_
        refine q_ishl C dX4_which_21 ?_
        refine q_ior C dX4_which_22 ?_
        refine q_istore_n C dX4_which_23 rfl hl (by decide) (lv2 := [(1, .int _), (0, .ref _), (2, .int _)]) rfl (fun ls hl => ?_)
        refine q_iinc C dX4_which_24 hl (j := 2) (v := (v2 + 1)) rfl rfl (by decide) (lv2 := [(2, .int _), (1, .int _), (0, .ref _)]) rfl (fun ls hl => ?_)
        refine q_goto C dX4_which_27 (tgt := 4) (by decide) ?_
        exact ih _ _ _ _ (lv_sub hl [2, 1, 0] rfl) hK
def f_X4_which (h : PH) : Option (Int32 × PH) := f_X4_which_b4 200 (0 : Int32) (0 : Int32) h
set_option maxHeartbeats 4000000 in
set_option maxRecDepth 100000 in
theorem c_X4_which (l : Launch) (G : GG) {h : PH} {res : Int32 × PH} (hF : f_X4_which h = some res) : MI l G yX4_which cX4_which 3 .int 5 [.ref (G.2.2.2.2 0)] h res := by
  unfold f_X4_which at hF
  refine MI_of (by decide +kernel) (Nat.le_of_ble_eq_true rfl) ?_
  intro p e s m args below meth c ls C hl
  have hK := hF
  clear hF
  have hl : lv_has ls 3 [(0, .ref (G.2.2.2.2 0))] := hl
  have C : cx p s m args meth c G RX4 cX4_which 3 (some .int) := C
  refine q_iconst C (v := 0) dX4_which_0 (by decide) ?_
  refine q_istore_n C dX4_which_1 rfl hl (by decide) (lv2 := [(1, .int _), (0, .ref _)]) rfl (fun ls hl => ?_)
  refine q_iconst C (v := 0) dX4_which_2 (by decide) ?_
  refine q_istore_n C dX4_which_3 rfl hl (by decide) (lv2 := [(2, .int _), (1, .int _), (0, .ref _)]) rfl (fun ls hl => ?_)
  exact t_X4_which_b4 C 200 _ _ _ _ (lv_sub hl [2, 1, 0] rfl) hK
theorem s_X4_which : sv yX4_which cX4_which 3 (some .int) 0 := ⟨w_co_X4_which, w_im_X4_which, w_se_X4_which, w_in_X4, by decide +kernel, by decide⟩
def f_X4_outWithOff (a1 : Int32) (h : PH) : Option (Int32 × PH) := bd (f_X3_copyFrom 25 20 h) (fun _ h2 => st h2 25 4 a1 (fun h3 => bd (f_X3_advance 25 (30 : Int32) h3) (fun r4 h5 => some ((h5.1 25 12), h5))))
set_option maxHeartbeats 4000000 in
set_option maxRecDepth 100000 in
theorem c_X4_outWithOff (l : Launch) (G : GG) {a1 : Int32} {h : PH} {res : Int32 × PH} (hF : f_X4_outWithOff a1 h = some res) : MI l G yX4_outWithOff cX4_outWithOff 2 .int 4 [.ref (G.2.2.2.2 0), .int a1] h res := by
  unfold f_X4_outWithOff at hF
  refine MI_of (by decide +kernel) (Nat.le_of_ble_eq_true rfl) ?_
  intro p e s m args below meth c ls C hl
  have hK := hF
  clear hF
  have hl : lv_has ls 2 [(0, .ref (G.2.2.2.2 0)), (1, .int a1)] := hl
  have C : cx p s m args meth c G RX4 cX4_outWithOff 2 (some .int) := C
  refine q_aload_n C dX4_outWithOff_0 rfl (lv_at hl 0 rfl) ?_
  refine g_X4_trial C kd_0 w_fl_X4_36 dX4_outWithOff_1 ?_
  refine q_aload_n C dX4_outWithOff_4 rfl (lv_at hl 0 rfl) ?_
  refine g_X4_now C kd_0 w_fl_X4_32 dX4_outWithOff_5 ?_
  obtain ⟨r1, h2, hfr1, hK⟩ := bd_so hK
  refine q_callVv C s_X3_copyFrom w_ml_X4_78 (c_X3_copyFrom l G hfr1) kd_25 rfl (by decide) (ce_2 kd_25) (by decide) hl.1 rfl rfl (Nat.le_of_ble_eq_true rfl) dX4_outWithOff_8 ?_
  refine q_aload_n C dX4_outWithOff_11 rfl (lv_at hl 0 rfl) ?_
  refine g_X4_trial C kd_0 w_fl_X4_36 dX4_outWithOff_12 ?_
  refine q_iload_n C dX4_outWithOff_15 rfl (lv_at hl 1 rfl) ?_
  obtain ⟨h3, hh3, hK⟩ := st_so hK
  refine p_X3_off C kd_25 w_fl_X4_274 hh3 dX4_outWithOff_16 ?_
  refine q_aload_n C dX4_outWithOff_19 rfl (lv_at hl 0 rfl) ?_
  refine g_X4_trial C kd_0 w_fl_X4_36 dX4_outWithOff_20 ?_
  refine q_bipush C (v := 30) dX4_outWithOff_23 (by decide) ?_
  obtain ⟨r4, h5, hfr4, hK⟩ := bd_so hK
  refine q_callVi C s_X3_advance w_ml_X4_163 (c_X3_advance l G hfr4) kd_25 rfl (by decide) (ce_2 kd_25) (by decide) hl.1 rfl rfl (Nat.le_of_ble_eq_true rfl) dX4_outWithOff_25 ?_
  refine q_pop C dX4_outWithOff_28 rfl ?_
  refine q_aload_n C dX4_outWithOff_29 rfl (lv_at hl 0 rfl) ?_
  refine g_X4_trial C kd_0 w_fl_X4_36 dX4_outWithOff_30 ?_
  refine g_X3_out C kd_25 w_fl_X4_199 dX4_outWithOff_33 ?_
  cases hK
  exact q_iret C dX4_outWithOff_36
theorem s_X4_outWithOff : sv yX4_outWithOff cX4_outWithOff 2 (some .int) 1 := ⟨w_co_X4_outWithOff, w_im_X4_outWithOff, w_se_X4_outWithOff, w_in_X4, by decide +kernel, by decide⟩
def f_X4_share_b47 : Nat → Int32 → Int32 → Int32 → Int32 → Int32 → Int32 → PH → Option (Int32 × PH)
  | 0, _, _, _, _, _, _, _ => none
  | n + 1, v2, v3, v4, v5, v6, v7, h => if v5 < v7 then bd (f_X4_factorial (h.1 12 5) h) (fun r3 h4 => bd (f_X4_partOf v6 r3 v2 h4) (fun r5 h6 => some (r5, h6))) else if (v7 &&& v4) = 0 then bd (f_J6_bitCount_0f7a4 v7 h) (fun r7 h8 => bd (f_X4_factorial r7 h8) (fun r9 h10 => bd (f_X4_factorial (v3 - r7) h10) (fun r11 h12 => bd (f_X4_outWithOff (v5 &&& ((v7 ||| v4) ^^^ (-1 : Int32))) h12) (fun r13 h14 => bd (f_X4_outWithOff (v5 &&& (v7 ^^^ (-1 : Int32))) h14) (fun r15 h16 => (f_X4_share_b47 n) v2 v3 v4 v5 (v6 + ((r9 * r11) * (r13 - r15))) (v7 + 1) h16))))) else (f_X4_share_b47 n) v2 v3 v4 v5 v6 (v7 + 1) h
set_option maxHeartbeats 4000000 in
set_option maxRecDepth 100000 in
theorem t_X4_share_b47 {p : Program} {l : Launch} {e : Env} {s : State} {m : MethodId} {args : Array Value} {below : List Frame} {meth : Method} {c : Code} {G : GG} {res : Int32 × PH} (C : cx p s m args meth c G RX4 cX4_share 10 (some .int)) (n : Nat) : ∀ (v2 : Int32) (v3 : Int32) (v4 : Int32) (v5 : Int32) (v6 : Int32) (v7 : Int32) (h : PH) (ls : Array Slot), lv_has ls 10 [(0, .ref (G.2.2.2.2 0)), (2, .int v2), (3, .int v3), (4, .int v4), (5, .int v5), (6, .int v6), (7, .int v7)] → f_X4_share_b47 n v2 v3 v4 v5 v6 v7 h = some res → WW p l e 5 s m args below meth c G h (MQ below (QI G res) args s 0 0 (Ar G)) (F0 m 47 ls []) := by
  induction n with
  | zero => intro v2 v3 v4 v5 v6 v7 h ls hl hK; cases hK
  | succ n ih =>
    intro v2 v3 v4 v5 v6 v7 h ls hl hK
    unfold f_X4_share_b47 at hK
    refine q_iload C dX4_share_47 (lv_at hl 6 rfl) ?_
    refine q_iload C dX4_share_49 (lv_at hl 4 rfl) ?_
    refine q_icmp_gt C dX4_share_51 (tgt := 124) (by decide) (fun hc => ?_) (fun hc => ?_)
    · replace hK := if_po hc hK
      refine q_iload C dX4_share_124 (lv_at hl 5 rfl) ?_
      refine q_aload_n C dX4_share_126 rfl (lv_at hl 0 rfl) ?_
      refine g_X4_plan C kd_0 w_fl_X4_23 dX4_share_127 ?_
      refine g_X1_valves C kd_12 w_fl_X4_84 dX4_share_130 ?_
      obtain ⟨r3, h4, hfr3, hK⟩ := bd_so hK
      refine q_callSi C s_X4_factorial w_ml_X4_223 (c_X4_factorial l G hfr3) (by decide) hl.1 rfl rfl (Nat.le_of_ble_eq_true rfl) dX4_share_133 ?_
      refine q_iload_n C dX4_share_136 rfl (lv_at hl 1 rfl) ?_
      obtain ⟨r5, h6, hfr5, hK⟩ := bd_so hK
      refine q_callSi C s_X4_partOf w_ml_X4_229 (c_X4_partOf l G hfr5) (by decide) hl.1 rfl rfl (Nat.le_of_ble_eq_true rfl) dX4_share_137 ?_
      cases hK
      exact q_iret C dX4_share_140
    · replace hK := if_ne hc hK
      refine q_iload C dX4_share_54 (lv_at hl 6 rfl) ?_
      refine q_iload C dX4_share_56 (lv_at hl 3 rfl) ?_
      refine q_iand C dX4_share_58 ?_
      refine q_if_ne C dX4_share_59 (tgt := 118) (by decide) (fun hc => ?_) (fun hc => ?_)
      · replace hK := if_ne hc hK
        refine q_iinc C dX4_share_118 hl (j := 6) (v := (v7 + 1)) rfl rfl (by decide) (lv2 := [(7, .int _), (0, .ref _), (2, .int _), (3, .int _), (4, .int _), (5, .int _), (6, .int _)]) rfl (fun ls hl => ?_)
        refine q_goto C dX4_share_121 (tgt := 47) (by decide) ?_
        exact ih _ _ _ _ _ _ _ _ (lv_sub hl [1, 2, 3, 4, 5, 6, 0] rfl) hK
      · replace hK := if_po hc hK
        refine q_iload C dX4_share_62 (lv_at hl 6 rfl) ?_
        obtain ⟨r7, h8, hfr7, hK⟩ := bd_so hK
        refine q_callSi C s_J6_bitCount_0f7a4 w_ml_X4_218 (c_J6_bitCount_0f7a4 l G hfr7) (by decide) hl.1 rfl rfl (Nat.le_of_ble_eq_true rfl) dX4_share_64 ?_
        refine q_istore C dX4_share_67 hl (by decide) (lv2 := [(8, .int _), (0, .ref _), (2, .int _), (3, .int _), (4, .int _), (5, .int _), (6, .int _), (7, .int _)]) rfl (fun ls hl => ?_)
        refine q_iload C dX4_share_69 (lv_at hl 0 rfl) ?_
        obtain ⟨r9, h10, hfr9, hK⟩ := bd_so hK
        refine q_callSi C s_X4_factorial w_ml_X4_223 (c_X4_factorial l G hfr9) (by decide) hl.1 rfl rfl (Nat.le_of_ble_eq_true rfl) dX4_share_71 ?_
        refine q_iload_n C dX4_share_74 rfl (lv_at hl 3 rfl) ?_
        refine q_iload C dX4_share_75 (lv_at hl 0 rfl) ?_
        refine q_isub C dX4_share_77 ?_
        obtain ⟨r11, h12, hfr11, hK⟩ := bd_so hK
        refine q_callSi C s_X4_factorial w_ml_X4_223 (c_X4_factorial l G hfr11) (by decide) hl.1 rfl rfl (Nat.le_of_ble_eq_true rfl) dX4_share_78 ?_
        refine q_imul C dX4_share_81 ?_
        refine q_istore C dX4_share_82 hl (by decide) (lv2 := [(9, .int _), (8, .int _), (0, .ref _), (2, .int _), (3, .int _), (4, .int _), (5, .int _), (6, .int _), (7, .int _)]) rfl (fun ls hl => ?_)
        refine q_iload C dX4_share_84 (lv_at hl 7 rfl) ?_
        refine q_iload C dX4_share_86 (lv_at hl 0 rfl) ?_
        refine q_aload_n C dX4_share_88 rfl (lv_at hl 2 rfl) ?_
        refine q_iload C dX4_share_89 (lv_at hl 6 rfl) ?_
        refine q_iload C dX4_share_91 (lv_at hl 8 rfl) ?_
        refine q_iload C dX4_share_93 (lv_at hl 5 rfl) ?_
        refine q_ior C dX4_share_95 ?_
        refine q_iconst C (v := -1) dX4_share_96 (by decide) ?_
        refine q_ixor C dX4_share_97 ?_
        refine q_iand C dX4_share_98 ?_
        obtain ⟨r13, h14, hfr13, hK⟩ := bd_so hK
        refine q_callVi C s_X4_outWithOff w_ml_X4_226 (c_X4_outWithOff l G hfr13) kd_0 rfl (by decide) (ce_3 kd_0) (by decide) hl.1 rfl rfl (Nat.le_of_ble_eq_true rfl) dX4_share_99 ?_
        refine q_aload_n C dX4_share_102 rfl (lv_at hl 2 rfl) ?_
        refine q_iload C dX4_share_103 (lv_at hl 6 rfl) ?_
        refine q_iload C dX4_share_105 (lv_at hl 8 rfl) ?_
        refine q_iconst C (v := -1) dX4_share_107 (by decide) ?_
        refine q_ixor C dX4_share_108 ?_
        refine q_iand C dX4_share_109 ?_
        obtain ⟨r15, h16, hfr15, hK⟩ := bd_so hK
        refine q_callVi C s_X4_outWithOff w_ml_X4_226 (c_X4_outWithOff l G hfr15) kd_0 rfl (by decide) (ce_3 kd_0) (by decide) hl.1 rfl rfl (Nat.le_of_ble_eq_true rfl) dX4_share_110 ?_
        refine q_isub C dX4_share_113 ?_
        refine q_imul C dX4_share_114 ?_
        refine q_iadd C dX4_share_115 ?_
        refine q_istore C dX4_share_116 hl (by decide) (lv2 := [(6, .int _), (9, .int _), (8, .int _), (0, .ref _), (2, .int _), (3, .int _), (4, .int _), (5, .int _), (7, .int _)]) rfl (fun ls hl => ?_)
        refine q_iinc C dX4_share_118 hl (j := 8) (v := (v7 + 1)) rfl rfl (by decide) (lv2 := [(7, .int _), (6, .int _), (9, .int _), (8, .int _), (0, .ref _), (2, .int _), (3, .int _), (4, .int _), (5, .int _)]) rfl (fun ls hl => ?_)
        refine q_goto C dX4_share_121 (tgt := 47) (by decide) ?_
        exact ih _ _ _ _ _ _ _ _ (lv_sub hl [4, 5, 6, 7, 8, 1, 0] rfl) hK
def f_X4_share (a1 : Int32) (a2 : Int32) (h : PH) : Option (Int32 × PH) := bd (f_X1_hasValve 12 a1 h) (fun r1 h2 => if r1 = 0 then some ((-1 : Int32), h2) else f_X4_share_b47 200 a2 ((h2.1 12 5) - (1 : Int32)) ((1 : Int32) <<< (a1 &&& 31)) (((1 : Int32) <<< ((h2.1 12 5) &&& 31)) - (1 : Int32)) (0 : Int32) (0 : Int32) h2)
set_option maxHeartbeats 4000000 in
set_option maxRecDepth 100000 in
theorem c_X4_share (l : Launch) (G : GG) {a1 : Int32} {a2 : Int32} {h : PH} {res : Int32 × PH} (hF : f_X4_share a1 a2 h = some res) : MI l G yX4_share cX4_share 10 .int 5 [.ref (G.2.2.2.2 0), .int a1, .int a2] h res := by
  unfold f_X4_share at hF
  refine MI_of (by decide +kernel) (Nat.le_of_ble_eq_true rfl) ?_
  intro p e s m args below meth c ls C hl
  have hK := hF
  clear hF
  have hl : lv_has ls 10 [(0, .ref (G.2.2.2.2 0)), (1, .int a1), (2, .int a2)] := hl
  have C : cx p s m args meth c G RX4 cX4_share 10 (some .int) := C
  refine q_aload_n C dX4_share_0 rfl (lv_at hl 0 rfl) ?_
  refine g_X4_plan C kd_0 w_fl_X4_23 dX4_share_1 ?_
  refine q_iload_n C dX4_share_4 rfl (lv_at hl 1 rfl) ?_
  obtain ⟨r1, h2, hfr1, hK⟩ := bd_so hK
  refine q_callVi C s_X1_hasValve w_ml_X4_141 (c_X1_hasValve l G hfr1) kd_12 rfl (by decide) (ce_0 kd_12) (by decide) hl.1 rfl rfl (Nat.le_of_ble_eq_true rfl) dX4_share_5 ?_
  refine q_if_ne C dX4_share_8 (tgt := 13) (by decide) (fun hc => ?_) (fun hc => ?_)
  · replace hK := if_ne hc hK
    refine q_aload_n C dX4_share_13 rfl (lv_at hl 0 rfl) ?_
    refine g_X4_plan C kd_0 w_fl_X4_23 dX4_share_14 ?_
    refine g_X1_valves C kd_12 w_fl_X4_84 dX4_share_17 ?_
    refine q_iconst C (v := 1) dX4_share_20 (by decide) ?_
    refine q_isub C dX4_share_21 ?_
    refine q_istore_n C dX4_share_22 rfl hl (by decide) (lv2 := [(3, .int _), (0, .ref _), (1, .int _), (2, .int _)]) rfl (fun ls hl => ?_)
    refine q_iconst C (v := 1) dX4_share_23 (by decide) ?_
    refine q_iload_n C dX4_share_24 rfl (lv_at hl 2 rfl) ?_
    refine q_ishl C dX4_share_25 ?_
    refine q_istore C dX4_share_26 hl (by decide) (lv2 := [(4, .int _), (3, .int _), (0, .ref _), (1, .int _), (2, .int _)]) rfl (fun ls hl => ?_)
    refine q_iconst C (v := 1) dX4_share_28 (by decide) ?_
    refine q_aload_n C dX4_share_29 rfl (lv_at hl 2 rfl) ?_
    refine g_X4_plan C kd_0 w_fl_X4_23 dX4_share_30 ?_
    refine g_X1_valves C kd_12 w_fl_X4_84 dX4_share_33 ?_
    refine q_ishl C dX4_share_36 ?_
    refine q_iconst C (v := 1) dX4_share_37 (by decide) ?_
    refine q_isub C dX4_share_38 ?_
    refine q_istore C dX4_share_39 hl (by decide) (lv2 := [(5, .int _), (4, .int _), (3, .int _), (0, .ref _), (1, .int _), (2, .int _)]) rfl (fun ls hl => ?_)
    refine q_iconst C (v := 0) dX4_share_41 (by decide) ?_
    refine q_istore C dX4_share_42 hl (by decide) (lv2 := [(6, .int _), (5, .int _), (4, .int _), (3, .int _), (0, .ref _), (1, .int _), (2, .int _)]) rfl (fun ls hl => ?_)
    refine q_iconst C (v := 0) dX4_share_44 (by decide) ?_
    refine q_istore C dX4_share_45 hl (by decide) (lv2 := [(7, .int _), (6, .int _), (5, .int _), (4, .int _), (3, .int _), (0, .ref _), (1, .int _), (2, .int _)]) rfl (fun ls hl => ?_)
    exact t_X4_share_b47 C 200 _ _ _ _ _ _ _ _ (lv_sub hl [5, 7, 4, 3, 2, 1, 0] rfl) hK
  · replace hK := if_po hc hK
    refine q_iconst C (v := -1) dX4_share_11 (by decide) ?_
    cases hK
    exact q_iret C dX4_share_12
theorem s_X4_share : sv yX4_share cX4_share 10 (some .int) 2 := ⟨w_co_X4_share, w_im_X4_share, w_se_X4_share, w_in_X4, by decide +kernel, by decide⟩
def f_X4_chance_b127 (v3 : Int32) (v4 : Int32) (v5 : Int32) (h : PH) : Option (Int32 × PH) := if (h.1 25 10) = 0 then bd (f_X4_partOf v4 v5 v3 h) (fun r9 h10 => some (r9, h10)) else bd (f_X4_partOf (0 : Int32) v5 v3 h) (fun r11 h12 => some (r11, h12))
set_option maxHeartbeats 4000000 in
set_option maxRecDepth 100000 in
theorem t_X4_chance_b127 {p : Program} {l : Launch} {e : Env} {s : State} {m : MethodId} {args : Array Value} {below : List Frame} {meth : Method} {c : Code} {G : GG} {res : Int32 × PH} (C : cx p s m args meth c G RX4 cX4_chance 8 (some .int)) {v3 : Int32} {v4 : Int32} {v5 : Int32} {h : PH} {ls : Array Slot} (hl : lv_has ls 8 [(0, .ref (G.2.2.2.2 0)), (3, .int v3), (4, .int v4), (5, .int v5)]) (hK : f_X4_chance_b127 v3 v4 v5 h = some res) : WW p l e 4 s m args below meth c G h (MQ below (QI G res) args s 0 0 (Ar G)) (F0 m 127 ls []) := by
  unfold f_X4_chance_b127 at hK
  refine q_aload_n C dX4_chance_127 rfl (lv_at hl 0 rfl) ?_
  refine g_X4_trial C kd_0 w_fl_X4_36 dX4_chance_128 ?_
  refine g_X3_alarm C kd_25 w_fl_X4_156 dX4_chance_131 ?_
  refine q_if_eq C dX4_chance_134 (tgt := 141) (by decide) (fun hc => ?_) (fun hc => ?_)
  · replace hK := if_po hc hK
    refine q_iload C dX4_chance_141 (lv_at hl 2 rfl) ?_
    refine q_iload C dX4_chance_143 (lv_at hl 3 rfl) ?_
    refine q_iload_n C dX4_chance_145 rfl (lv_at hl 1 rfl) ?_
    obtain ⟨r9, h10, hfr9, hK⟩ := bd_so hK
    refine q_callSi C s_X4_partOf w_ml_X4_229 (c_X4_partOf l G hfr9) (by decide) hl.1 rfl rfl (Nat.le_of_ble_eq_true rfl) dX4_chance_146 ?_
    cases hK
    exact q_iret C dX4_chance_149
  · replace hK := if_ne hc hK
    refine q_iconst C (v := 0) dX4_chance_137 (by decide) ?_
    refine q_goto C dX4_chance_138 (tgt := 143) (by decide) ?_
    refine q_iload C dX4_chance_143 (lv_at hl 3 rfl) ?_
    refine q_iload_n C dX4_chance_145 rfl (lv_at hl 1 rfl) ?_
    obtain ⟨r11, h12, hfr11, hK⟩ := bd_so hK
    refine q_callSi C s_X4_partOf w_ml_X4_229 (c_X4_partOf l G hfr11) (by decide) hl.1 rfl rfl (Nat.le_of_ble_eq_true rfl) dX4_chance_146 ?_
    cases hK
    exact q_iret C dX4_chance_149
def f_X4_chance_b43 : Nat → Int32 → Int32 → Int32 → Int32 → Int32 → Int32 → PH → Option (Int32 × PH)
  | 0, _, _, _, _, _, _, _ => none
  | n + 1, v1, v2, v3, v4, v5, v6, h => if v1 ≤ v6 then f_X4_chance_b127 v3 v4 v5 h else if (h.1 25 10) = 0 then bd (f_X3_advance 25 (1 : Int32) h) (fun r7 h8 => if ((h8.1 25 14) + (h8.1 25 15)) ≤ ((h.1 25 14) + (h.1 25 15)) then (f_X4_chance_b43 n) v1 v2 v3 v4 v5 (v6 + 1) h8 else (f_X4_chance_b43 n) v1 v2 v3 (v4 * ((10 : Int32) - v2)) (v5 * (10 : Int32)) (v6 + 1) h8) else f_X4_chance_b127 v3 v4 v5 h
set_option maxHeartbeats 4000000 in
set_option maxRecDepth 100000 in
theorem t_X4_chance_b43 {p : Program} {l : Launch} {e : Env} {s : State} {m : MethodId} {args : Array Value} {below : List Frame} {meth : Method} {c : Code} {G : GG} {res : Int32 × PH} (C : cx p s m args meth c G RX4 cX4_chance 8 (some .int)) (n : Nat) : ∀ (v1 : Int32) (v2 : Int32) (v3 : Int32) (v4 : Int32) (v5 : Int32) (v6 : Int32) (h : PH) (ls : Array Slot), lv_has ls 8 [(0, .ref (G.2.2.2.2 0)), (1, .int v1), (2, .int v2), (3, .int v3), (4, .int v4), (5, .int v5), (6, .int v6)] → f_X4_chance_b43 n v1 v2 v3 v4 v5 v6 h = some res → WW p l e 4 s m args below meth c G h (MQ below (QI G res) args s 0 0 (Ar G)) (F0 m 43 ls []) := by
  induction n with
  | zero => intro v1 v2 v3 v4 v5 v6 h ls hl hK; cases hK
  | succ n ih =>
    intro v1 v2 v3 v4 v5 v6 h ls hl hK
    unfold f_X4_chance_b43 at hK
    refine q_iload C dX4_chance_43 (lv_at hl 6 rfl) ?_
    refine q_iload_n C dX4_chance_45 rfl (lv_at hl 1 rfl) ?_
    refine q_icmp_ge C dX4_chance_46 (tgt := 127) (by decide) (fun hc => ?_) (fun hc => ?_)
    · replace hK := if_po hc hK
      exact t_X4_chance_b127 C (lv_sub hl [0, 3, 4, 5] rfl) hK
    · replace hK := if_ne hc hK
      refine q_aload_n C dX4_chance_49 rfl (lv_at hl 0 rfl) ?_
      refine g_X4_trial C kd_0 w_fl_X4_36 dX4_chance_50 ?_
      refine g_X3_alarm C kd_25 w_fl_X4_156 dX4_chance_53 ?_
      refine q_if_ne C dX4_chance_56 (tgt := 127) (by decide) (fun hc => ?_) (fun hc => ?_)
      · replace hK := if_ne hc hK
        exact t_X4_chance_b127 C (lv_sub hl [0, 3, 4, 5] rfl) hK
      · replace hK := if_po hc hK
        refine q_aload_n C dX4_chance_59 rfl (lv_at hl 0 rfl) ?_
        refine g_X4_trial C kd_0 w_fl_X4_36 dX4_chance_60 ?_
        refine g_X3_rejected C kd_25 w_fl_X4_233 dX4_chance_63 ?_
        refine q_aload_n C dX4_chance_66 rfl (lv_at hl 0 rfl) ?_
        refine g_X4_trial C kd_0 w_fl_X4_36 dX4_chance_67 ?_
        refine g_X3_sampled C kd_25 w_fl_X4_236 dX4_chance_70 ?_
        refine q_iadd C dX4_chance_73 ?_
        refine q_istore C dX4_chance_74 hl (by decide) (lv2 := [(7, .int _), (0, .ref _), (1, .int _), (2, .int _), (3, .int _), (4, .int _), (5, .int _), (6, .int _)]) rfl (fun ls hl => ?_)
        refine q_aload_n C dX4_chance_76 rfl (lv_at hl 1 rfl) ?_
        refine g_X4_trial C kd_0 w_fl_X4_36 dX4_chance_77 ?_
        refine q_iconst C (v := 1) dX4_chance_80 (by decide) ?_
        obtain ⟨r7, h8, hfr7, hK⟩ := bd_so hK
        refine q_callVi C s_X3_advance w_ml_X4_163 (c_X3_advance l G hfr7) kd_25 rfl (by decide) (ce_2 kd_25) (by decide) hl.1 rfl rfl (Nat.le_of_ble_eq_true rfl) dX4_chance_81 ?_
        refine q_pop C dX4_chance_84 rfl ?_
        refine q_aload_n C dX4_chance_85 rfl (lv_at hl 1 rfl) ?_
        refine g_X4_trial C kd_0 w_fl_X4_36 dX4_chance_86 ?_
        refine g_X3_rejected C kd_25 w_fl_X4_233 dX4_chance_89 ?_
        refine q_aload_n C dX4_chance_92 rfl (lv_at hl 1 rfl) ?_
        refine g_X4_trial C kd_0 w_fl_X4_36 dX4_chance_93 ?_
        refine g_X3_sampled C kd_25 w_fl_X4_236 dX4_chance_96 ?_
        refine q_iadd C dX4_chance_99 ?_
        refine q_iload C dX4_chance_100 (lv_at hl 0 rfl) ?_
        refine q_icmp_le C dX4_chance_102 (tgt := 121) (by decide) (fun hc => ?_) (fun hc => ?_)
        · replace hK := if_po hc hK
          refine q_iinc C dX4_chance_121 hl (j := 7) (v := (v6 + 1)) rfl rfl (by decide) (lv2 := [(6, .int _), (7, .int _), (0, .ref _), (1, .int _), (2, .int _), (3, .int _), (4, .int _), (5, .int _)]) rfl (fun ls hl => ?_)
          refine q_goto C dX4_chance_124 (tgt := 43) (by decide) ?_
          exact ih _ _ _ _ _ _ _ _ (lv_sub hl [2, 3, 4, 5, 6, 7, 0] rfl) hK
        · replace hK := if_ne hc hK
          refine q_iload C dX4_chance_105 (lv_at hl 5 rfl) ?_
          refine q_bipush C (v := 10) dX4_chance_107 (by decide) ?_
          refine q_iload_n C dX4_chance_109 rfl (lv_at hl 3 rfl) ?_
          refine q_isub C dX4_chance_110 ?_
          refine q_imul C dX4_chance_111 ?_
          refine q_istore C dX4_chance_112 hl (by decide) (lv2 := [(4, .int _), (7, .int _), (0, .ref _), (1, .int _), (2, .int _), (3, .int _), (5, .int _), (6, .int _)]) rfl (fun ls hl => ?_)
          refine q_iload C dX4_chance_114 (lv_at hl 6 rfl) ?_
          refine q_bipush C (v := 10) dX4_chance_116 (by decide) ?_
          refine q_imul C dX4_chance_118 ?_
          refine q_istore C dX4_chance_119 hl (by decide) (lv2 := [(5, .int _), (4, .int _), (7, .int _), (0, .ref _), (1, .int _), (2, .int _), (3, .int _), (6, .int _)]) rfl (fun ls hl => ?_)
          refine q_iinc C dX4_chance_121 hl (j := 7) (v := (v6 + 1)) rfl rfl (by decide) (lv2 := [(6, .int _), (5, .int _), (4, .int _), (7, .int _), (0, .ref _), (1, .int _), (2, .int _), (3, .int _)]) rfl (fun ls hl => ?_)
          refine q_goto C dX4_chance_124 (tgt := 43) (by decide) ?_
          exact ih _ _ _ _ _ _ _ _ (lv_sub hl [4, 5, 6, 7, 2, 1, 0] rfl) hK
def f_X4_chance (a1 : Int32) (a2 : Int32) (a3 : Int32) (h : PH) : Option (Int32 × PH) := bd (f_X4_isWithin a1 (1 : Int32) (6 : Int32) h) (fun r1 h2 => if r1 = 0 then some ((-2 : Int32), h2) else bd (f_X4_isWithin a2 (0 : Int32) (10 : Int32) h2) (fun r3 h4 => if r3 = 0 then some ((-2 : Int32), h4) else bd (f_X3_copyFrom 25 20 h4) (fun _ h6 => f_X4_chance_b43 200 a1 a2 a3 (1 : Int32) (1 : Int32) (0 : Int32) h6)))
set_option maxHeartbeats 4000000 in
set_option maxRecDepth 100000 in
theorem c_X4_chance (l : Launch) (G : GG) {a1 : Int32} {a2 : Int32} {a3 : Int32} {h : PH} {res : Int32 × PH} (hF : f_X4_chance a1 a2 a3 h = some res) : MI l G yX4_chance cX4_chance 8 .int 4 [.ref (G.2.2.2.2 0), .int a1, .int a2, .int a3] h res := by
  unfold f_X4_chance at hF
  refine MI_of (by decide +kernel) (Nat.le_of_ble_eq_true rfl) ?_
  intro p e s m args below meth c ls C hl
  have hK := hF
  clear hF
  have hl : lv_has ls 8 [(0, .ref (G.2.2.2.2 0)), (1, .int a1), (2, .int a2), (3, .int a3)] := hl
  have C : cx p s m args meth c G RX4 cX4_chance 8 (some .int) := C
  refine q_iload_n C dX4_chance_0 rfl (lv_at hl 1 rfl) ?_
  refine q_iconst C (v := 1) dX4_chance_1 (by decide) ?_
  refine q_bipush C (v := 6) dX4_chance_2 (by decide) ?_
  obtain ⟨r1, h2, hfr1, hK⟩ := bd_so hK
  refine q_callSi C s_X4_isWithin w_ml_X4_59 (c_X4_isWithin l G hfr1) (by decide) hl.1 rfl rfl (Nat.le_of_ble_eq_true rfl) dX4_chance_4 ?_
  refine q_if_eq C dX4_chance_7 (tgt := 20) (by decide) (fun hc => ?_) (fun hc => ?_)
  · replace hK := if_po hc hK
    refine q_bipush C (v := -2) dX4_chance_20 (by decide) ?_
    cases hK
    exact q_iret C dX4_chance_22
  · replace hK := if_ne hc hK
    refine q_iload_n C dX4_chance_10 rfl (lv_at hl 2 rfl) ?_
    refine q_iconst C (v := 0) dX4_chance_11 (by decide) ?_
    refine q_bipush C (v := 10) dX4_chance_12 (by decide) ?_
    obtain ⟨r3, h4, hfr3, hK⟩ := bd_so hK
    refine q_callSi C s_X4_isWithin w_ml_X4_59 (c_X4_isWithin l G hfr3) (by decide) hl.1 rfl rfl (Nat.le_of_ble_eq_true rfl) dX4_chance_14 ?_
    refine q_if_ne C dX4_chance_17 (tgt := 23) (by decide) (fun hc => ?_) (fun hc => ?_)
    · replace hK := if_ne hc hK
      refine q_iconst C (v := 1) dX4_chance_23 (by decide) ?_
      refine q_istore C dX4_chance_24 hl (by decide) (lv2 := [(4, .int _), (0, .ref _), (1, .int _), (2, .int _), (3, .int _)]) rfl (fun ls hl => ?_)
      refine q_iconst C (v := 1) dX4_chance_26 (by decide) ?_
      refine q_istore C dX4_chance_27 hl (by decide) (lv2 := [(5, .int _), (4, .int _), (0, .ref _), (1, .int _), (2, .int _), (3, .int _)]) rfl (fun ls hl => ?_)
      refine q_aload_n C dX4_chance_29 rfl (lv_at hl 2 rfl) ?_
      refine g_X4_trial C kd_0 w_fl_X4_36 dX4_chance_30 ?_
      refine q_aload_n C dX4_chance_33 rfl (lv_at hl 2 rfl) ?_
      refine g_X4_now C kd_0 w_fl_X4_32 dX4_chance_34 ?_
      obtain ⟨r5, h6, hfr5, hK⟩ := bd_so hK
      refine q_callVv C s_X3_copyFrom w_ml_X4_78 (c_X3_copyFrom l G hfr5) kd_25 rfl (by decide) (ce_2 kd_25) (by decide) hl.1 rfl rfl (Nat.le_of_ble_eq_true rfl) dX4_chance_37 ?_
      refine q_iconst C (v := 0) dX4_chance_40 (by decide) ?_
      refine q_istore C dX4_chance_41 hl (by decide) (lv2 := [(6, .int _), (5, .int _), (4, .int _), (0, .ref _), (1, .int _), (2, .int _), (3, .int _)]) rfl (fun ls hl => ?_)
      exact t_X4_chance_b43 C 200 _ _ _ _ _ _ _ _ (lv_sub hl [3, 4, 5, 6, 2, 1, 0] rfl) hK
    · replace hK := if_po hc hK
      refine q_bipush C (v := -2) dX4_chance_20 (by decide) ?_
      cases hK
      exact q_iret C dX4_chance_22
theorem s_X4_chance : sv yX4_chance cX4_chance 8 (some .int) 3 := ⟨w_co_X4_chance, w_im_X4_chance, w_se_X4_chance, w_in_X4, by decide +kernel, by decide⟩
def f_X4_seed (a1 : Int64) (h : PH) : Option (Int64 × PH) := sj h 0 a1 (fun h1 => some ((h.2 0), h1))
set_option maxHeartbeats 4000000 in
set_option maxRecDepth 100000 in
theorem c_X4_seed (l : Launch) (G : GG) {a1 : Int64} {h : PH} {res : Int64 × PH} (hF : f_X4_seed a1 h = some res) : MLo l G yX4_seed cX4_seed 5 0 [.ref (G.2.2.2.2 0), .long a1] h res := by
  unfold f_X4_seed at hF
  refine MLo_of (by decide +kernel) (Nat.le_of_ble_eq_true rfl) ?_
  intro p e s m args below meth c ls C hl
  have hK := hF
  clear hF
  have hl : lv_has ls 5 [(0, .ref (G.2.2.2.2 0)), (1, .long a1)] := hl
  have C : cx p s m args meth c G RX4 cX4_seed 5 (some .long) := C
  refine q_aload_n C dX4_seed_0 rfl (lv_at hl 0 rfl) ?_
  refine g_X4_random C kd_0 w_fl_X4_239 dX4_seed_1 ?_
  refine q_lstore_n C dX4_seed_4 rfl hl (by decide) (lv2 := [(3, .long _), (0, .ref _), (1, .long _)]) rfl (fun ls hl => ?_)
  refine q_aload_n C dX4_seed_5 rfl (lv_at hl 1 rfl) ?_
  refine q_lload_n C dX4_seed_6 rfl (lv_at hl 2 rfl) ?_
  obtain ⟨h1, hh1, hK⟩ := sj_so hK
  refine p_X4_random C kd_0 w_fl_X4_239 hh1 dX4_seed_7 ?_
  refine q_lload_n C dX4_seed_10 rfl (lv_at hl 0 rfl) ?_
  cases hK
  exact q_lret C dX4_seed_11
theorem s_X4_seed : sv yX4_seed cX4_seed 5 (some .long) 1 := ⟨w_co_X4_seed, w_im_X4_seed, w_se_X4_seed, w_in_X4, by decide +kernel, by decide⟩
def f_X4_happen (a1 : Int32) (h : PH) : Option (Unit × PH) := if a1 = 0 then bd (f_X3_moveMarks 25 h) (fun _ h2 => some ((), h2)) else if a1 = 1 then if (h.1 25 11) = 0 then st h 25 11 (1 : Int32) (fun h4 => some ((), h4)) else st h 25 11 (0 : Int32) (fun h3 => some ((), h3)) else if a1 = 2 then if (h.1 25 10) = 0 then bd (f_X3_markBeforeScale 25 h) (fun _ h6 => some ((), h6)) else bd (f_X3_endAlarm 25 h) (fun r7 h8 => some ((), h8)) else bd (f_X3_advance 25 (1 : Int32) h) (fun r9 h10 => some ((), h10))
set_option maxHeartbeats 4000000 in
set_option maxRecDepth 100000 in
theorem c_X4_happen (l : Launch) (G : GG) {a1 : Int32} {h : PH} {res : Unit × PH} (hF : f_X4_happen a1 h = some res) : MV l G yX4_happen cX4_happen 2 4 [.ref (G.2.2.2.2 0), .int a1] h res := by
  unfold f_X4_happen at hF
  refine MV_of (by decide +kernel) (Nat.le_of_ble_eq_true rfl) ?_
  intro p e s m args below meth c ls C hl
  have hK := hF
  clear hF
  have hl : lv_has ls 2 [(0, .ref (G.2.2.2.2 0)), (1, .int a1)] := hl
  have C : cx p s m args meth c G RX4 cX4_happen 2 none := C
  refine q_iload_n C dX4_happen_0 rfl (lv_at hl 1 rfl) ?_
  by_cases hc0 : a1 = 0
  · replace hK := if_po hc0 hK
    refine q_tsIn C 0 hc0 dX4_happen_1 (off := 27) (by decide) (tgt := 28) (by decide) ?_
    refine q_aload_n C dX4_happen_28 rfl (lv_at hl 0 rfl) ?_
    refine g_X4_trial C kd_0 w_fl_X4_36 dX4_happen_29 ?_
    obtain ⟨r1, h2, hfr1, hK⟩ := bd_so hK
    refine q_callVv C s_X3_moveMarks w_ml_X4_166 (c_X3_moveMarks l G hfr1) kd_25 rfl (by decide) (ce_2 kd_25) (by decide) hl.1 rfl rfl (Nat.le_of_ble_eq_true rfl) dX4_happen_32 ?_
    refine q_goto C dX4_happen_35 (tgt := 103) (by decide) ?_
    cases hK
    exact q_vret C dX4_happen_103
  · replace hK := if_ne hc0 hK
    by_cases hc1 : a1 = 1
    · replace hK := if_po hc1 hK
      refine q_tsIn C 1 hc1 dX4_happen_1 (off := 37) (by decide) (tgt := 38) (by decide) ?_
      refine q_aload_n C dX4_happen_38 rfl (lv_at hl 0 rfl) ?_
      refine g_X4_trial C kd_0 w_fl_X4_36 dX4_happen_39 ?_
      refine q_aload_n C dX4_happen_42 rfl (lv_at hl 0 rfl) ?_
      refine g_X4_trial C kd_0 w_fl_X4_36 dX4_happen_43 ?_
      refine g_X3_jammed C kd_25 w_fl_X4_172 dX4_happen_46 ?_
      refine q_if_ne C dX4_happen_49 (tgt := 56) (by decide) (fun hc => ?_) (fun hc => ?_)
      · replace hK := if_ne hc hK
        refine q_iconst C (v := 0) dX4_happen_56 (by decide) ?_
        obtain ⟨h3, hh3, hK⟩ := st_so hK
        refine p_X3_jammed C kd_25 (Or.inl rfl) w_fl_X4_172 hh3 dX4_happen_57 ?_
        refine q_goto C dX4_happen_60 (tgt := 103) (by decide) ?_
        cases hK
        exact q_vret C dX4_happen_103
      · replace hK := if_po hc hK
        refine q_iconst C (v := 1) dX4_happen_52 (by decide) ?_
        refine q_goto C dX4_happen_53 (tgt := 57) (by decide) ?_
        obtain ⟨h4, hh4, hK⟩ := st_so hK
        refine p_X3_jammed C kd_25 (Or.inr rfl) w_fl_X4_172 hh4 dX4_happen_57 ?_
        refine q_goto C dX4_happen_60 (tgt := 103) (by decide) ?_
        cases hK
        exact q_vret C dX4_happen_103
    · replace hK := if_ne hc1 hK
      by_cases hc2 : a1 = 2
      · replace hK := if_po hc2 hK
        refine q_tsIn C 2 hc2 dX4_happen_1 (off := 62) (by decide) (tgt := 63) (by decide) ?_
        refine q_aload_n C dX4_happen_63 rfl (lv_at hl 0 rfl) ?_
        refine g_X4_trial C kd_0 w_fl_X4_36 dX4_happen_64 ?_
        refine g_X3_alarm C kd_25 w_fl_X4_156 dX4_happen_67 ?_
        refine q_if_eq C dX4_happen_70 (tgt := 84) (by decide) (fun hc => ?_) (fun hc => ?_)
        · replace hK := if_po hc hK
          refine q_aload_n C dX4_happen_84 rfl (lv_at hl 0 rfl) ?_
          refine g_X4_trial C kd_0 w_fl_X4_36 dX4_happen_85 ?_
          obtain ⟨r5, h6, hfr5, hK⟩ := bd_so hK
          refine q_callVv C s_X3_markBeforeScale w_ml_X4_179 (c_X3_markBeforeScale l G hfr5) kd_25 rfl (by decide) (ce_2 kd_25) (by decide) hl.1 rfl rfl (Nat.le_of_ble_eq_true rfl) dX4_happen_88 ?_
          refine q_goto C dX4_happen_91 (tgt := 103) (by decide) ?_
          cases hK
          exact q_vret C dX4_happen_103
        · replace hK := if_ne hc hK
          refine q_aload_n C dX4_happen_73 rfl (lv_at hl 0 rfl) ?_
          refine g_X4_trial C kd_0 w_fl_X4_36 dX4_happen_74 ?_
          obtain ⟨r7, h8, hfr7, hK⟩ := bd_so hK
          refine q_callVi C s_X3_endAlarm w_ml_X4_175 (c_X3_endAlarm l G hfr7) kd_25 rfl (by decide) (ce_2 kd_25) (by decide) hl.1 rfl rfl (Nat.le_of_ble_eq_true rfl) dX4_happen_77 ?_
          refine q_pop C dX4_happen_80 rfl ?_
          refine q_goto C dX4_happen_81 (tgt := 103) (by decide) ?_
          cases hK
          exact q_vret C dX4_happen_103
      · replace hK := if_ne hc2 hK
        have q0 : (a1 : Int32).toInt ≠ 0 := ne_i hc0
        have q1 : (a1 : Int32).toInt ≠ 1 := ne_i hc1
        have q2 : (a1 : Int32).toInt ≠ 2 := ne_i hc2
        refine q_tsOut C dX4_happen_1 (by omega) (tgt := 94) (by decide) ?_
        refine q_aload_n C dX4_happen_94 rfl (lv_at hl 0 rfl) ?_
        refine g_X4_trial C kd_0 w_fl_X4_36 dX4_happen_95 ?_
        refine q_iconst C (v := 1) dX4_happen_98 (by decide) ?_
        obtain ⟨r9, h10, hfr9, hK⟩ := bd_so hK
        refine q_callVi C s_X3_advance w_ml_X4_163 (c_X3_advance l G hfr9) kd_25 rfl (by decide) (ce_2 kd_25) (by decide) hl.1 rfl rfl (Nat.le_of_ble_eq_true rfl) dX4_happen_99 ?_
        refine q_pop C dX4_happen_102 rfl ?_
        cases hK
        exact q_vret C dX4_happen_103
theorem s_X4_happen : sv yX4_happen cX4_happen 2 none 1 := ⟨w_co_X4_happen, w_im_X4_happen, w_se_X4_happen, w_in_X4, by decide +kernel, by decide⟩
def f_X4_drawn_b28 : Nat → Int32 → Int32 → Int32 → PH → Option (Int32 × PH)
  | 0, _, _, _, _ => none
  | n + 1, v1, v2, v3, h => if v1 ≤ v3 then some (v2, h) else sj h 0 (((h.2 0) * (6364136223846793005 : Int64)) + (1442695040888963407 : Int64)) (fun h5 => bd (f_X4_happen (irm ((lus (h5.2 0) (33 : Int32))).toInt32 (10 : Int32)) h5) (fun _ h7 => (f_X4_drawn_b28 n) v1 (v2 + ((h7.1 25 12) - (h7.1 25 13))) (v3 + 1) h7))
set_option maxHeartbeats 4000000 in
set_option maxRecDepth 100000 in
theorem t_X4_drawn_b28 {p : Program} {l : Launch} {e : Env} {s : State} {m : MethodId} {args : Array Value} {below : List Frame} {meth : Method} {c : Code} {G : GG} {res : Int32 × PH} (C : cx p s m args meth c G RX4 cX4_drawn 4 (some .int)) (n : Nat) : ∀ (v1 : Int32) (v2 : Int32) (v3 : Int32) (h : PH) (ls : Array Slot), lv_has ls 4 [(0, .ref (G.2.2.2.2 0)), (1, .int v1), (2, .int v2), (3, .int v3)] → f_X4_drawn_b28 n v1 v2 v3 h = some res → WW p l e 5 s m args below meth c G h (MQ below (QI G res) args s 0 0 (Ar G)) (F0 m 28 ls []) := by
  induction n with
  | zero => intro v1 v2 v3 h ls hl hK; cases hK
  | succ n ih =>
    intro v1 v2 v3 h ls hl hK
    unfold f_X4_drawn_b28 at hK
    refine q_iload_n C dX4_drawn_28 rfl (lv_at hl 3 rfl) ?_
    refine q_iload_n C dX4_drawn_29 rfl (lv_at hl 1 rfl) ?_
    refine q_icmp_ge C dX4_drawn_30 (tgt := 88) (by decide) (fun hc => ?_) (fun hc => ?_)
    · replace hK := if_po hc hK
      refine q_iload_n C dX4_drawn_88 rfl (lv_at hl 2 rfl) ?_
      cases hK
      exact q_iret C dX4_drawn_89
    · replace hK := if_ne hc hK
      refine q_aload_n C dX4_drawn_33 rfl (lv_at hl 0 rfl) ?_
      refine q_aload_n C dX4_drawn_34 rfl (lv_at hl 0 rfl) ?_
      refine g_X4_random C kd_0 w_fl_X4_239 dX4_drawn_35 ?_
      refine q_ldc2 C w_k_X4_243 dX4_drawn_38 ?_
      refine q_lmul C dX4_drawn_41 ?_
      refine q_ldc2 C w_k_X4_245 dX4_drawn_42 ?_
      refine q_ladd C dX4_drawn_45 ?_
      obtain ⟨h5, hh5, hK⟩ := sj_so hK
      refine p_X4_random C kd_0 w_fl_X4_239 hh5 dX4_drawn_46 ?_
      refine q_aload_n C dX4_drawn_49 rfl (lv_at hl 0 rfl) ?_
      refine q_aload_n C dX4_drawn_50 rfl (lv_at hl 0 rfl) ?_
      refine g_X4_random C kd_0 w_fl_X4_239 dX4_drawn_51 ?_
      refine q_bipush C (v := 33) dX4_drawn_54 (by decide) ?_
      refine q_lushr C dX4_drawn_56 (v := lus (h5.2 0) (33 : Int32)) rfl ?_
      refine q_l2i C dX4_drawn_57 rfl ?_
      refine q_bipush C (v := 10) dX4_drawn_58 (by decide) ?_
      refine q_irem C dX4_drawn_60 (by decide) ?_
      obtain ⟨r6, h7, hfr6, hK⟩ := bd_so hK
      refine q_callVv C s_X4_happen w_ml_X4_247 (c_X4_happen l G hfr6) kd_0 rfl (by decide) (ce_3 kd_0) (by decide) hl.1 rfl rfl (Nat.le_of_ble_eq_true rfl) dX4_drawn_61 ?_
      refine q_iload_n C dX4_drawn_64 rfl (lv_at hl 2 rfl) ?_
      refine q_aload_n C dX4_drawn_65 rfl (lv_at hl 0 rfl) ?_
      refine g_X4_trial C kd_0 w_fl_X4_36 dX4_drawn_66 ?_
      refine g_X3_out C kd_25 w_fl_X4_199 dX4_drawn_69 ?_
      refine q_aload_n C dX4_drawn_72 rfl (lv_at hl 0 rfl) ?_
      refine g_X4_trial C kd_0 w_fl_X4_36 dX4_drawn_73 ?_
      refine g_X3_escaped C kd_25 w_fl_X4_250 dX4_drawn_76 ?_
      refine q_isub C dX4_drawn_79 ?_
      refine q_iadd C dX4_drawn_80 ?_
      refine q_istore_n C dX4_drawn_81 rfl hl (by decide) (lv2 := [(2, .int _), (0, .ref _), (1, .int _), (3, .int _)]) rfl (fun ls hl => ?_)
      refine q_iinc C dX4_drawn_82 hl (j := 3) (v := (v3 + 1)) rfl rfl (by decide) (lv2 := [(3, .int _), (2, .int _), (0, .ref _), (1, .int _)]) rfl (fun ls hl => ?_)
      refine q_goto C dX4_drawn_85 (tgt := 28) (by decide) ?_
      exact ih _ _ _ _ _ (lv_sub hl [2, 3, 1, 0] rfl) hK
def f_X4_drawn (a1 : Int32) (h : PH) : Option (Int32 × PH) := bd (f_X4_isWithin a1 (1 : Int32) (20 : Int32) h) (fun r1 h2 => if r1 = 0 then some ((-2 : Int32), h2) else bd (f_X3_copyFrom 25 20 h2) (fun _ h4 => f_X4_drawn_b28 200 a1 (0 : Int32) (0 : Int32) h4))
set_option maxHeartbeats 4000000 in
set_option maxRecDepth 100000 in
theorem c_X4_drawn (l : Launch) (G : GG) {a1 : Int32} {h : PH} {res : Int32 × PH} (hF : f_X4_drawn a1 h = some res) : MI l G yX4_drawn cX4_drawn 4 .int 5 [.ref (G.2.2.2.2 0), .int a1] h res := by
  unfold f_X4_drawn at hF
  refine MI_of (by decide +kernel) (Nat.le_of_ble_eq_true rfl) ?_
  intro p e s m args below meth c ls C hl
  have hK := hF
  clear hF
  have hl : lv_has ls 4 [(0, .ref (G.2.2.2.2 0)), (1, .int a1)] := hl
  have C : cx p s m args meth c G RX4 cX4_drawn 4 (some .int) := C
  refine q_iload_n C dX4_drawn_0 rfl (lv_at hl 1 rfl) ?_
  refine q_iconst C (v := 1) dX4_drawn_1 (by decide) ?_
  refine q_bipush C (v := 20) dX4_drawn_2 (by decide) ?_
  obtain ⟨r1, h2, hfr1, hK⟩ := bd_so hK
  refine q_callSi C s_X4_isWithin w_ml_X4_59 (c_X4_isWithin l G hfr1) (by decide) hl.1 rfl rfl (Nat.le_of_ble_eq_true rfl) dX4_drawn_4 ?_
  refine q_if_ne C dX4_drawn_7 (tgt := 13) (by decide) (fun hc => ?_) (fun hc => ?_)
  · replace hK := if_ne hc hK
    refine q_aload_n C dX4_drawn_13 rfl (lv_at hl 0 rfl) ?_
    refine g_X4_trial C kd_0 w_fl_X4_36 dX4_drawn_14 ?_
    refine q_aload_n C dX4_drawn_17 rfl (lv_at hl 0 rfl) ?_
    refine g_X4_now C kd_0 w_fl_X4_32 dX4_drawn_18 ?_
    obtain ⟨r3, h4, hfr3, hK⟩ := bd_so hK
    refine q_callVv C s_X3_copyFrom w_ml_X4_78 (c_X3_copyFrom l G hfr3) kd_25 rfl (by decide) (ce_2 kd_25) (by decide) hl.1 rfl rfl (Nat.le_of_ble_eq_true rfl) dX4_drawn_21 ?_
    refine q_iconst C (v := 0) dX4_drawn_24 (by decide) ?_
    refine q_istore_n C dX4_drawn_25 rfl hl (by decide) (lv2 := [(2, .int _), (0, .ref _), (1, .int _)]) rfl (fun ls hl => ?_)
    refine q_iconst C (v := 0) dX4_drawn_26 (by decide) ?_
    refine q_istore_n C dX4_drawn_27 rfl hl (by decide) (lv2 := [(3, .int _), (2, .int _), (0, .ref _), (1, .int _)]) rfl (fun ls hl => ?_)
    exact t_X4_drawn_b28 C 200 _ _ _ _ _ (lv_sub hl [2, 3, 1, 0] rfl) hK
  · replace hK := if_po hc hK
    refine q_bipush C (v := -2) dX4_drawn_10 (by decide) ?_
    cases hK
    exact q_iret C dX4_drawn_12
theorem s_X4_drawn : sv yX4_drawn cX4_drawn 4 (some .int) 1 := ⟨w_co_X4_drawn, w_im_X4_drawn, w_se_X4_drawn, w_in_X4, by decide +kernel, by decide⟩
def f_X4_keep (a1 : Int32) (h : PH) : Option (Int32 × PH) := bd (f_X4_isWithin a1 (0 : Int32) (1 : Int32) h) (fun r1 h2 => if r1 = 0 then some ((-1 : Int32), h2) else rq 3 a1 (fun q3 => bd (f_X3_copyFrom q3 20 h2) (fun _ h5 => wr h5 4 a1 (1 : Int32) (fun h6 => some ((h6.1 20 9), h6)))))
set_option maxHeartbeats 4000000 in
set_option maxRecDepth 100000 in
theorem c_X4_keep (l : Launch) (G : GG) {a1 : Int32} {h : PH} {res : Int32 × PH} (hF : f_X4_keep a1 h = some res) : MI l G yX4_keep cX4_keep 2 .int 2 [.ref (G.2.2.2.2 0), .int a1] h res := by
  unfold f_X4_keep at hF
  refine MI_of (by decide +kernel) (Nat.le_of_ble_eq_true rfl) ?_
  intro p e s m args below meth c ls C hl
  have hK := hF
  clear hF
  have hl : lv_has ls 2 [(0, .ref (G.2.2.2.2 0)), (1, .int a1)] := hl
  have C : cx p s m args meth c G RX4 cX4_keep 2 (some .int) := C
  refine q_iload_n C dX4_keep_0 rfl (lv_at hl 1 rfl) ?_
  refine q_iconst C (v := 0) dX4_keep_1 (by decide) ?_
  refine q_iconst C (v := 1) dX4_keep_2 (by decide) ?_
  obtain ⟨r1, h2, hfr1, hK⟩ := bd_so hK
  refine q_callSi C s_X4_isWithin w_ml_X4_59 (c_X4_isWithin l G hfr1) (by decide) hl.1 rfl rfl (Nat.le_of_ble_eq_true rfl) dX4_keep_3 ?_
  refine q_if_ne C dX4_keep_6 (tgt := 11) (by decide) (fun hc => ?_) (fun hc => ?_)
  · replace hK := if_ne hc hK
    refine q_aload_n C dX4_keep_11 rfl (lv_at hl 0 rfl) ?_
    refine g_X4_slots C kd_0 w_fl_X4_43 dX4_keep_12 ?_
    refine q_iload_n C dX4_keep_15 rfl (lv_at hl 1 rfl) ?_
    obtain ⟨q3, hq3, hK⟩ := rq_so hK
    refine q_aald C kd_3 hq3 dX4_keep_16 ?_
    have kq3 : kd q3 = 2 := by rw [hq3.2]; exact kd_sta3 hq3.1
    refine q_aload_n C dX4_keep_17 rfl (lv_at hl 0 rfl) ?_
    refine g_X4_now C kd_0 w_fl_X4_32 dX4_keep_18 ?_
    obtain ⟨r4, h5, hfr4, hK⟩ := bd_so hK
    refine q_callVv C s_X3_copyFrom w_ml_X4_78 (c_X3_copyFrom l G hfr4) kq3 rfl (by decide) (ce_2 kq3) (by decide) hl.1 rfl rfl (Nat.le_of_ble_eq_true rfl) dX4_keep_21 ?_
    refine q_aload_n C dX4_keep_24 rfl (lv_at hl 0 rfl) ?_
    refine g_X4_isKept C kd_0 w_fl_X4_46 dX4_keep_25 ?_
    refine q_iload_n C dX4_keep_28 rfl (lv_at hl 1 rfl) ?_
    refine q_iconst C (v := 1) dX4_keep_29 (by decide) ?_
    obtain ⟨h6, hh6, hK⟩ := wr_so hK
    refine q_zast C kd_4 (Or.inr rfl) hh6 dX4_keep_30 ?_
    refine q_aload_n C dX4_keep_31 rfl (lv_at hl 0 rfl) ?_
    refine g_X4_now C kd_0 w_fl_X4_32 dX4_keep_32 ?_
    refine g_X3_steps C kd_20 w_fl_X4_253 dX4_keep_35 ?_
    cases hK
    exact q_iret C dX4_keep_38
  · replace hK := if_po hc hK
    refine q_iconst C (v := -1) dX4_keep_9 (by decide) ?_
    cases hK
    exact q_iret C dX4_keep_10
theorem s_X4_keep : sv yX4_keep cX4_keep 2 (some .int) 1 := ⟨w_co_X4_keep, w_im_X4_keep, w_se_X4_keep, w_in_X4, by decide +kernel, by decide⟩
def f_X4_again (a1 : Int32) (h : PH) : Option (Int32 × PH) := bd (f_X4_isWithin a1 (0 : Int32) (1 : Int32) h) (fun r1 h2 => if r1 = 0 then some ((-1 : Int32), h2) else rd h2 4 a1 (fun x3 => if x3 = 0 then some ((-3 : Int32), h2) else rq 3 a1 (fun q4 => bd (f_X3_copyFrom 20 q4 h2) (fun _ h6 => bd (f_X4_forgetActs h6) (fun _ h8 => some ((h8.1 20 9), h8))))))
set_option maxHeartbeats 4000000 in
set_option maxRecDepth 100000 in
theorem c_X4_again (l : Launch) (G : GG) {a1 : Int32} {h : PH} {res : Int32 × PH} (hF : f_X4_again a1 h = some res) : MI l G yX4_again cX4_again 2 .int 2 [.ref (G.2.2.2.2 0), .int a1] h res := by
  unfold f_X4_again at hF
  refine MI_of (by decide +kernel) (Nat.le_of_ble_eq_true rfl) ?_
  intro p e s m args below meth c ls C hl
  have hK := hF
  clear hF
  have hl : lv_has ls 2 [(0, .ref (G.2.2.2.2 0)), (1, .int a1)] := hl
  have C : cx p s m args meth c G RX4 cX4_again 2 (some .int) := C
  refine q_iload_n C dX4_again_0 rfl (lv_at hl 1 rfl) ?_
  refine q_iconst C (v := 0) dX4_again_1 (by decide) ?_
  refine q_iconst C (v := 1) dX4_again_2 (by decide) ?_
  obtain ⟨r1, h2, hfr1, hK⟩ := bd_so hK
  refine q_callSi C s_X4_isWithin w_ml_X4_59 (c_X4_isWithin l G hfr1) (by decide) hl.1 rfl rfl (Nat.le_of_ble_eq_true rfl) dX4_again_3 ?_
  refine q_if_ne C dX4_again_6 (tgt := 11) (by decide) (fun hc => ?_) (fun hc => ?_)
  · replace hK := if_ne hc hK
    refine q_aload_n C dX4_again_11 rfl (lv_at hl 0 rfl) ?_
    refine g_X4_isKept C kd_0 w_fl_X4_46 dX4_again_12 ?_
    refine q_iload_n C dX4_again_15 rfl (lv_at hl 1 rfl) ?_
    obtain ⟨x3, hx3, hK⟩ := rd_so hK
    refine q_zald C kd_4 hx3 dX4_again_16 ?_
    refine q_if_ne C dX4_again_17 (tgt := 23) (by decide) (fun hc => ?_) (fun hc => ?_)
    · replace hK := if_ne hc hK
      refine q_aload_n C dX4_again_23 rfl (lv_at hl 0 rfl) ?_
      refine g_X4_now C kd_0 w_fl_X4_32 dX4_again_24 ?_
      refine q_aload_n C dX4_again_27 rfl (lv_at hl 0 rfl) ?_
      refine g_X4_slots C kd_0 w_fl_X4_43 dX4_again_28 ?_
      refine q_iload_n C dX4_again_31 rfl (lv_at hl 1 rfl) ?_
      obtain ⟨q4, hq4, hK⟩ := rq_so hK
      refine q_aald C kd_3 hq4 dX4_again_32 ?_
      have kq4 : kd q4 = 2 := by rw [hq4.2]; exact kd_sta3 hq4.1
      obtain ⟨r5, h6, hfr5, hK⟩ := bd_so hK
      refine q_callVv C s_X3_copyFrom w_ml_X4_78 (c_X3_copyFrom l G hfr5) kd_20 rfl (by decide) (ce_2 kd_20) (by decide) hl.1 rfl rfl (Nat.le_of_ble_eq_true rfl) dX4_again_33 ?_
      refine q_aload_n C dX4_again_36 rfl (lv_at hl 0 rfl) ?_
      obtain ⟨r7, h8, hfr7, hK⟩ := bd_so hK
      refine q_callVv C s_X4_forgetActs w_ml_X4_81 (c_X4_forgetActs l G hfr7) kd_0 rfl (by decide) (ce_3 kd_0) (by decide) hl.1 rfl rfl (Nat.le_of_ble_eq_true rfl) dX4_again_37 ?_
      refine q_aload_n C dX4_again_40 rfl (lv_at hl 0 rfl) ?_
      refine g_X4_now C kd_0 w_fl_X4_32 dX4_again_41 ?_
      refine g_X3_steps C kd_20 w_fl_X4_253 dX4_again_44 ?_
      cases hK
      exact q_iret C dX4_again_47
    · replace hK := if_po hc hK
      refine q_bipush C (v := -3) dX4_again_20 (by decide) ?_
      cases hK
      exact q_iret C dX4_again_22
  · replace hK := if_po hc hK
    refine q_iconst C (v := -1) dX4_again_9 (by decide) ?_
    cases hK
    exact q_iret C dX4_again_10
theorem s_X4_again : sv yX4_again cX4_again 2 (some .int) 1 := ⟨w_co_X4_again, w_im_X4_again, w_se_X4_again, w_in_X4, by decide +kernel, by decide⟩
