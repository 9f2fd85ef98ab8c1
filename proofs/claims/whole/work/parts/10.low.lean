def f_X0_has (a1 : Int32) (a2 : Int32) (h : PH) : Option (Int32 × PH) := if (a1 &&& a2) = 0 then some ((0 : Int32), h) else some ((1 : Int32), h)
set_option maxHeartbeats 4000000 in
set_option maxRecDepth 100000 in
theorem c_X0_has (l : Launch) (G : GG) {a1 : Int32} {a2 : Int32} {h : PH} {res : Int32 × PH} (hF : f_X0_has a1 a2 h = some res) : MI l G yX0_has cX0_has 2 .boolean 0 [.int a1, .int a2] h res := by
  unfold f_X0_has at hF
  refine MI_of (by decide +kernel) (Nat.le_of_ble_eq_true rfl) ?_
  intro p e s m args below meth c ls C hl
  have hK := hF
  clear hF
  have hl : lv_has ls 2 [(0, .int a1), (1, .int a2)] := hl
  have C : cx p s m args meth c G RX0 cX0_has 2 (some .boolean) := C
  refine q_iload_n C dX0_has_0 rfl (lv_at hl 0 rfl) ?_
  refine q_iload_n C dX0_has_1 rfl (lv_at hl 1 rfl) ?_
  refine q_iand C dX0_has_2 ?_
  refine q_if_eq C dX0_has_3 (tgt := 10) (by decide) (fun hc => ?_) (fun hc => ?_)
  · replace hK := if_po hc hK
    refine q_iconst C (v := 0) dX0_has_10 (by decide) ?_
    cases hK
    exact q_zret C (Or.inl rfl) dX0_has_11
  · replace hK := if_ne hc hK
    refine q_iconst C (v := 1) dX0_has_6 (by decide) ?_
    refine q_goto C dX0_has_7 (tgt := 11) (by decide) ?_
    cases hK
    exact q_zret C (Or.inr rfl) dX0_has_11
theorem s_X0_has : ss yX0_has cX0_has 2 (some .boolean) 2 := ⟨w_co_X0_has, w_st_X0_has, w_in_X0, by decide +kernel, by decide⟩
def f_X0_fillOf (a1 : Int32) (h : PH) : Option (Int32 × PH) := some ((a1 &&& (127 : Int32)), h)
set_option maxHeartbeats 4000000 in
set_option maxRecDepth 100000 in
theorem c_X0_fillOf (l : Launch) (G : GG) {a1 : Int32} {h : PH} {res : Int32 × PH} (hF : f_X0_fillOf a1 h = some res) : MI l G yX0_fillOf cX0_fillOf 1 .int 0 [.int a1] h res := by
  unfold f_X0_fillOf at hF
  refine MI_of (by decide +kernel) (Nat.le_of_ble_eq_true rfl) ?_
  intro p e s m args below meth c ls C hl
  have hK := hF
  clear hF
  have hl : lv_has ls 1 [(0, .int a1)] := hl
  have C : cx p s m args meth c G RX0 cX0_fillOf 1 (some .int) := C
  refine q_iload_n C dX0_fillOf_0 rfl (lv_at hl 0 rfl) ?_
  refine q_bipush C (v := 127) dX0_fillOf_1 (by decide) ?_
  refine q_iand C dX0_fillOf_3 ?_
  cases hK
  exact q_iret C dX0_fillOf_4
theorem s_X0_fillOf : ss yX0_fillOf cX0_fillOf 1 (some .int) 1 := ⟨w_co_X0_fillOf, w_st_X0_fillOf, w_in_X0, by decide +kernel, by decide⟩
def f_X0_valveOf (a1 : Int32) (h : PH) : Option (Int32 × PH) := if 0 ≤ (((a1 >>> ((7 : Int32) &&& 31)) &&& (7 : Int32)) - (1 : Int32)) then some ((((a1 >>> ((7 : Int32) &&& 31)) &&& (7 : Int32)) - (1 : Int32)), h) else some ((-9 : Int32), h)
set_option maxHeartbeats 4000000 in
set_option maxRecDepth 100000 in
theorem c_X0_valveOf (l : Launch) (G : GG) {a1 : Int32} {h : PH} {res : Int32 × PH} (hF : f_X0_valveOf a1 h = some res) : MI l G yX0_valveOf cX0_valveOf 2 .int 0 [.int a1] h res := by
  unfold f_X0_valveOf at hF
  refine MI_of (by decide +kernel) (Nat.le_of_ble_eq_true rfl) ?_
  intro p e s m args below meth c ls C hl
  have hK := hF
  clear hF
  have hl : lv_has ls 2 [(0, .int a1)] := hl
  have C : cx p s m args meth c G RX0 cX0_valveOf 2 (some .int) := C
  refine q_iload_n C dX0_valveOf_0 rfl (lv_at hl 0 rfl) ?_
  refine q_bipush C (v := 7) dX0_valveOf_1 (by decide) ?_
  refine q_ishr C dX0_valveOf_3 ?_
  refine q_bipush C (v := 7) dX0_valveOf_4 (by decide) ?_
  refine q_iand C dX0_valveOf_6 ?_
  refine q_iconst C (v := 1) dX0_valveOf_7 (by decide) ?_
  refine q_isub C dX0_valveOf_8 ?_
  refine q_istore_n C dX0_valveOf_9 rfl hl (by decide) (lv2 := [(1, .int _), (0, .int _)]) rfl (fun ls hl => ?_)
  refine q_iload_n C dX0_valveOf_10 rfl (lv_at hl 0 rfl) ?_
  refine q_if_ge C dX0_valveOf_11 (tgt := 19) (by decide) (fun hc => ?_) (fun hc => ?_)
  · replace hK := if_po hc hK
    refine q_iload_n C dX0_valveOf_19 rfl (lv_at hl 0 rfl) ?_
    cases hK
    exact q_iret C dX0_valveOf_20
  · replace hK := if_ne hc hK
    refine q_bipush C (v := -9) dX0_valveOf_14 (by decide) ?_
    refine q_goto C dX0_valveOf_16 (tgt := 20) (by decide) ?_
    cases hK
    exact q_iret C dX0_valveOf_20
theorem s_X0_valveOf : ss yX0_valveOf cX0_valveOf 2 (some .int) 1 := ⟨w_co_X0_valveOf, w_st_X0_valveOf, w_in_X0, by decide +kernel, by decide⟩
def f_X0_ofEntry (a1 : Int32) (h : PH) : Option (Int32 × PH) := if a1 = 1 then some ((8192 : Int32), h) else if a1 = 2 then some ((12288 : Int32), h) else some ((0 : Int32), h)
set_option maxHeartbeats 4000000 in
set_option maxRecDepth 100000 in
theorem c_X0_ofEntry (l : Launch) (G : GG) {a1 : Int32} {h : PH} {res : Int32 × PH} (hF : f_X0_ofEntry a1 h = some res) : MI l G yX0_ofEntry cX0_ofEntry 1 .int 0 [.int a1] h res := by
  unfold f_X0_ofEntry at hF
  refine MI_of (by decide +kernel) (Nat.le_of_ble_eq_true rfl) ?_
  intro p e s m args below meth c ls C hl
  have hK := hF
  clear hF
  have hl : lv_has ls 1 [(0, .int a1)] := hl
  have C : cx p s m args meth c G RX0 cX0_ofEntry 1 (some .int) := C
  refine q_iload_n C dX0_ofEntry_0 rfl (lv_at hl 0 rfl) ?_
  by_cases hc0 : a1 = 1
  · replace hK := if_po hc0 hK
    refine q_lsw C dX0_ofEntry_1 (by decide) (off := 27) (by rw [hc0]; decide) (tgt := 28) (by decide) ?_
    refine q_sipush C (v := 8192) dX0_ofEntry_28 (by decide) ?_
    cases hK
    exact q_iret C dX0_ofEntry_31
  · replace hK := if_ne hc0 hK
    by_cases hc1 : a1 = 2
    · replace hK := if_po hc1 hK
      refine q_lsw C dX0_ofEntry_1 (by decide) (off := 31) (by rw [hc1]; decide) (tgt := 32) (by decide) ?_
      refine q_sipush C (v := 12288) dX0_ofEntry_32 (by decide) ?_
      cases hK
      exact q_iret C dX0_ofEntry_35
    · replace hK := if_ne hc1 hK
      have q0 : (a1 : Int32).toInt ≠ 1 := ne_i hc0
      have q1 : (a1 : Int32).toInt ≠ 2 := ne_i hc1
      refine q_lsw C dX0_ofEntry_1 (by decide) (off := 35) ((if_neg (Ne.symm q0)).trans ((if_neg (Ne.symm q1)).trans rfl)) (tgt := 36) (by decide) ?_
      refine q_iconst C (v := 0) dX0_ofEntry_36 (by decide) ?_
      cases hK
      exact q_iret C dX0_ofEntry_37
theorem s_X0_ofEntry : ss yX0_ofEntry cX0_ofEntry 1 (some .int) 1 := ⟨w_co_X0_ofEntry, w_st_X0_ofEntry, w_in_X0, by decide +kernel, by decide⟩
def f_X0_filled (a1 : Int32) (a2 : Int32) (a3 : Int32) (h : PH) : Option (Int32 × PH) := some ((((a1 &&& (-1024 : Int32)) ||| a3) ||| ((a2 + (1 : Int32)) <<< ((7 : Int32) &&& 31))), h)
set_option maxHeartbeats 4000000 in
set_option maxRecDepth 100000 in
theorem c_X0_filled (l : Launch) (G : GG) {a1 : Int32} {a2 : Int32} {a3 : Int32} {h : PH} {res : Int32 × PH} (hF : f_X0_filled a1 a2 a3 h = some res) : MI l G yX0_filled cX0_filled 4 .int 0 [.int a1, .int a2, .int a3] h res := by
  unfold f_X0_filled at hF
  refine MI_of (by decide +kernel) (Nat.le_of_ble_eq_true rfl) ?_
  intro p e s m args below meth c ls C hl
  have hK := hF
  clear hF
  have hl : lv_has ls 4 [(0, .int a1), (1, .int a2), (2, .int a3)] := hl
  have C : cx p s m args meth c G RX0 cX0_filled 4 (some .int) := C
  refine q_iload_n C dX0_filled_0 rfl (lv_at hl 0 rfl) ?_
  refine q_sipush C (v := -1024) dX0_filled_1 (by decide) ?_
  refine q_iand C dX0_filled_4 ?_
  refine q_istore_n C dX0_filled_5 rfl hl (by decide) (lv2 := [(3, .int _), (0, .int _), (1, .int _), (2, .int _)]) rfl (fun ls hl => ?_)
  refine q_iload_n C dX0_filled_6 rfl (lv_at hl 0 rfl) ?_
  refine q_iload_n C dX0_filled_7 rfl (lv_at hl 3 rfl) ?_
  refine q_ior C dX0_filled_8 ?_
  refine q_iload_n C dX0_filled_9 rfl (lv_at hl 2 rfl) ?_
  refine q_iconst C (v := 1) dX0_filled_10 (by decide) ?_
  refine q_iadd C dX0_filled_11 ?_
  refine q_bipush C (v := 7) dX0_filled_12 (by decide) ?_
  refine q_ishl C dX0_filled_14 ?_
  refine q_ior C dX0_filled_15 ?_
  cases hK
  exact q_iret C dX0_filled_16
theorem s_X0_filled : ss yX0_filled cX0_filled 4 (some .int) 3 := ⟨w_co_X0_filled, w_st_X0_filled, w_in_X0, by decide +kernel, by decide⟩
def f_X0_leaked (a1 : Int32) (h : PH) : Option (Int32 × PH) := some ((a1 - (1 : Int32)), h)
set_option maxHeartbeats 4000000 in
set_option maxRecDepth 100000 in
theorem c_X0_leaked (l : Launch) (G : GG) {a1 : Int32} {h : PH} {res : Int32 × PH} (hF : f_X0_leaked a1 h = some res) : MI l G yX0_leaked cX0_leaked 1 .int 0 [.int a1] h res := by
  unfold f_X0_leaked at hF
  refine MI_of (by decide +kernel) (Nat.le_of_ble_eq_true rfl) ?_
  intro p e s m args below meth c ls C hl
  have hK := hF
  clear hF
  have hl : lv_has ls 1 [(0, .int a1)] := hl
  have C : cx p s m args meth c G RX0 cX0_leaked 1 (some .int) := C
  refine q_iload_n C dX0_leaked_0 rfl (lv_at hl 0 rfl) ?_
  refine q_iconst C (v := 1) dX0_leaked_1 (by decide) ?_
  refine q_isub C dX0_leaked_2 ?_
  cases hK
  exact q_iret C dX0_leaked_3
theorem s_X0_leaked : ss yX0_leaked cX0_leaked 1 (some .int) 1 := ⟨w_co_X0_leaked, w_st_X0_leaked, w_in_X0, by decide +kernel, by decide⟩
def f_X4_isWithin (a1 : Int32) (a2 : Int32) (a3 : Int32) (h : PH) : Option (Int32 × PH) := if a1 < a2 then some ((0 : Int32), h) else if a3 < a1 then some ((0 : Int32), h) else some ((1 : Int32), h)
set_option maxHeartbeats 4000000 in
set_option maxRecDepth 100000 in
theorem c_X4_isWithin (l : Launch) (G : GG) {a1 : Int32} {a2 : Int32} {a3 : Int32} {h : PH} {res : Int32 × PH} (hF : f_X4_isWithin a1 a2 a3 h = some res) : MI l G yX4_isWithin cX4_isWithin 3 .boolean 0 [.int a1, .int a2, .int a3] h res := by
  unfold f_X4_isWithin at hF
  refine MI_of (by decide +kernel) (Nat.le_of_ble_eq_true rfl) ?_
  intro p e s m args below meth c ls C hl
  have hK := hF
  clear hF
  have hl : lv_has ls 3 [(0, .int a1), (1, .int a2), (2, .int a3)] := hl
  have C : cx p s m args meth c G RX4 cX4_isWithin 3 (some .boolean) := C
  refine q_iload_n C dX4_isWithin_0 rfl (lv_at hl 0 rfl) ?_
  refine q_iload_n C dX4_isWithin_1 rfl (lv_at hl 1 rfl) ?_
  refine q_icmp_lt C dX4_isWithin_2 (tgt := 14) (by decide) (fun hc => ?_) (fun hc => ?_)
  · replace hK := if_po hc hK
    refine q_iconst C (v := 0) dX4_isWithin_14 (by decide) ?_
    cases hK
    exact q_zret C (Or.inl rfl) dX4_isWithin_15
  · replace hK := if_ne hc hK
    refine q_iload_n C dX4_isWithin_5 rfl (lv_at hl 0 rfl) ?_
    refine q_iload_n C dX4_isWithin_6 rfl (lv_at hl 2 rfl) ?_
    refine q_icmp_gt C dX4_isWithin_7 (tgt := 14) (by decide) (fun hc => ?_) (fun hc => ?_)
    · replace hK := if_po hc hK
      refine q_iconst C (v := 0) dX4_isWithin_14 (by decide) ?_
      cases hK
      exact q_zret C (Or.inl rfl) dX4_isWithin_15
    · replace hK := if_ne hc hK
      refine q_iconst C (v := 1) dX4_isWithin_10 (by decide) ?_
      refine q_goto C dX4_isWithin_11 (tgt := 15) (by decide) ?_
      cases hK
      exact q_zret C (Or.inr rfl) dX4_isWithin_15
theorem s_X4_isWithin : ss yX4_isWithin cX4_isWithin 3 (some .boolean) 3 := ⟨w_co_X4_isWithin, w_st_X4_isWithin, w_in_X4, by decide +kernel, by decide⟩
def f_X4_asNumber (a1 : Int32) (h : PH) : Option (Int32 × PH) := if a1 = 0 then some ((0 : Int32), h) else some ((1 : Int32), h)
set_option maxHeartbeats 4000000 in
set_option maxRecDepth 100000 in
theorem c_X4_asNumber (l : Launch) (G : GG) {a1 : Int32} {h : PH} {res : Int32 × PH} (hF : f_X4_asNumber a1 h = some res) : MI l G yX4_asNumber cX4_asNumber 1 .int 0 [.int a1] h res := by
  unfold f_X4_asNumber at hF
  refine MI_of (by decide +kernel) (Nat.le_of_ble_eq_true rfl) ?_
  intro p e s m args below meth c ls C hl
  have hK := hF
  clear hF
  have hl : lv_has ls 1 [(0, .int a1)] := hl
  have C : cx p s m args meth c G RX4 cX4_asNumber 1 (some .int) := C
  refine q_iload_n C dX4_asNumber_0 rfl (lv_at hl 0 rfl) ?_
  refine q_if_eq C dX4_asNumber_1 (tgt := 8) (by decide) (fun hc => ?_) (fun hc => ?_)
  · replace hK := if_po hc hK
    refine q_iconst C (v := 0) dX4_asNumber_8 (by decide) ?_
    cases hK
    exact q_iret C dX4_asNumber_9
  · replace hK := if_ne hc hK
    refine q_iconst C (v := 1) dX4_asNumber_4 (by decide) ?_
    refine q_goto C dX4_asNumber_5 (tgt := 9) (by decide) ?_
    cases hK
    exact q_iret C dX4_asNumber_9
theorem s_X4_asNumber : ss yX4_asNumber cX4_asNumber 1 (some .int) 1 := ⟨w_co_X4_asNumber, w_st_X4_asNumber, w_in_X4, by decide +kernel, by decide⟩
def f_J9_floorMod_7cf53 (a1 : Int32) (a2 : Int32) (h : PH) : Option (Int32 × PH) := nz a2 (if 0 ≤ (a1 ^^^ a2) then some ((irm a1 a2), h) else if (irm a1 a2) = 0 then some ((irm a1 a2), h) else some (((irm a1 a2) + a2), h))
set_option maxHeartbeats 4000000 in
set_option maxRecDepth 100000 in
theorem c_J9_floorMod_7cf53 (l : Launch) (G : GG) {a1 : Int32} {a2 : Int32} {h : PH} {res : Int32 × PH} (hF : f_J9_floorMod_7cf53 a1 a2 h = some res) : MI l G yJ9_floorMod_7cf53 cJ9_floorMod_7cf53 3 .int 0 [.int a1, .int a2] h res := by
  unfold f_J9_floorMod_7cf53 at hF
  refine MI_of (by decide +kernel) (Nat.le_of_ble_eq_true rfl) ?_
  intro p e s m args below meth c ls C hl
  have hK := hF
  clear hF
  have hl : lv_has ls 3 [(0, .int a1), (1, .int a2)] := hl
  have C : cx p s m args meth c G RJ9 cJ9_floorMod_7cf53 3 (some .int) := C
  refine q_iload_n C dJ9_floorMod_7cf53_0 rfl (lv_at hl 0 rfl) ?_
  refine q_iload_n C dJ9_floorMod_7cf53_1 rfl (lv_at hl 1 rfl) ?_
  obtain ⟨hn1, hK⟩ := nz_so hK
  refine q_irem C dJ9_floorMod_7cf53_2 hn1 ?_
  refine q_istore_n C dJ9_floorMod_7cf53_3 rfl hl (by decide) (lv2 := [(2, .int _), (0, .int _), (1, .int _)]) rfl (fun ls hl => ?_)
  refine q_iload_n C dJ9_floorMod_7cf53_4 rfl (lv_at hl 1 rfl) ?_
  refine q_iload_n C dJ9_floorMod_7cf53_5 rfl (lv_at hl 2 rfl) ?_
  refine q_ixor C dJ9_floorMod_7cf53_6 ?_
  refine q_if_ge C dJ9_floorMod_7cf53_7 (tgt := 18) (by decide) (fun hc => ?_) (fun hc => ?_)
  · replace hK := if_po hc hK
    refine q_iload_n C dJ9_floorMod_7cf53_18 rfl (lv_at hl 0 rfl) ?_
    cases hK
    exact q_iret C dJ9_floorMod_7cf53_19
  · replace hK := if_ne hc hK
    refine q_iload_n C dJ9_floorMod_7cf53_10 rfl (lv_at hl 0 rfl) ?_
    refine q_if_eq C dJ9_floorMod_7cf53_11 (tgt := 18) (by decide) (fun hc => ?_) (fun hc => ?_)
    · replace hK := if_po hc hK
      refine q_iload_n C dJ9_floorMod_7cf53_18 rfl (lv_at hl 0 rfl) ?_
      cases hK
      exact q_iret C dJ9_floorMod_7cf53_19
    · replace hK := if_ne hc hK
      refine q_iload_n C dJ9_floorMod_7cf53_14 rfl (lv_at hl 0 rfl) ?_
      refine q_iload_n C dJ9_floorMod_7cf53_15 rfl (lv_at hl 2 rfl) ?_
      refine q_iadd C dJ9_floorMod_7cf53_16 ?_
      cases hK
      exact q_iret C dJ9_floorMod_7cf53_17
theorem s_J9_floorMod_7cf53 : ss yJ9_floorMod_7cf53 cJ9_floorMod_7cf53 3 (some .int) 2 := ⟨w_co_J9_floorMod_7cf53, w_st_J9_floorMod_7cf53, w_in_J9, by decide +kernel, by decide⟩
def f_X4_limited (a1 : Int32) (h : PH) : Option (Int32 × PH) := some ((imx (0 : Int32) (imn (99 : Int32) a1)), h)
set_option maxHeartbeats 4000000 in
set_option maxRecDepth 100000 in
theorem c_X4_limited (l : Launch) (G : GG) {a1 : Int32} {h : PH} {res : Int32 × PH} (hF : f_X4_limited a1 h = some res) : MI l G yX4_limited cX4_limited 1 .int 1 [.int a1] h res := by
  unfold f_X4_limited at hF
  refine MI_of (by decide +kernel) (Nat.le_of_ble_eq_true rfl) ?_
  intro p e s m args below meth c ls C hl
  have hK := hF
  clear hF
  have hl : lv_has ls 1 [(0, .int a1)] := hl
  have C : cx p s m args meth c G RX4 cX4_limited 1 (some .int) := C
  refine q_iconst C (v := 0) dX4_limited_0 (by decide) ?_
  refine q_bipush C (v := 99) dX4_limited_1 (by decide) ?_
  refine q_iload_n C dX4_limited_3 rfl (lv_at hl 0 rfl) ?_
  refine q_min C (by decide) hl.1 w_ml_X4_256 (Nat.le_of_ble_eq_true rfl) dX4_limited_4 ?_
  refine q_max C (by decide) hl.1 w_ml_X4_206 (Nat.le_of_ble_eq_true rfl) dX4_limited_7 ?_
  cases hK
  exact q_iret C dX4_limited_10
theorem s_X4_limited : ss yX4_limited cX4_limited 1 (some .int) 1 := ⟨w_co_X4_limited, w_st_X4_limited, w_in_X4, by decide +kernel, by decide⟩
def f_J6_bitCount_0f7a4 (a1 : Int32) (h : PH) : Option (Int32 × PH) := some (((((((((a1 - ((ius a1 (1 : Int32)) &&& (1431655765 : Int32))) &&& (858993459 : Int32)) + ((ius (a1 - ((ius a1 (1 : Int32)) &&& (1431655765 : Int32))) (2 : Int32)) &&& (858993459 : Int32))) + (ius (((a1 - ((ius a1 (1 : Int32)) &&& (1431655765 : Int32))) &&& (858993459 : Int32)) + ((ius (a1 - ((ius a1 (1 : Int32)) &&& (1431655765 : Int32))) (2 : Int32)) &&& (858993459 : Int32))) (4 : Int32))) &&& (252645135 : Int32)) + (ius (((((a1 - ((ius a1 (1 : Int32)) &&& (1431655765 : Int32))) &&& (858993459 : Int32)) + ((ius (a1 - ((ius a1 (1 : Int32)) &&& (1431655765 : Int32))) (2 : Int32)) &&& (858993459 : Int32))) + (ius (((a1 - ((ius a1 (1 : Int32)) &&& (1431655765 : Int32))) &&& (858993459 : Int32)) + ((ius (a1 - ((ius a1 (1 : Int32)) &&& (1431655765 : Int32))) (2 : Int32)) &&& (858993459 : Int32))) (4 : Int32))) &&& (252645135 : Int32)) (8 : Int32))) + (ius ((((((a1 - ((ius a1 (1 : Int32)) &&& (1431655765 : Int32))) &&& (858993459 : Int32)) + ((ius (a1 - ((ius a1 (1 : Int32)) &&& (1431655765 : Int32))) (2 : Int32)) &&& (858993459 : Int32))) + (ius (((a1 - ((ius a1 (1 : Int32)) &&& (1431655765 : Int32))) &&& (858993459 : Int32)) + ((ius (a1 - ((ius a1 (1 : Int32)) &&& (1431655765 : Int32))) (2 : Int32)) &&& (858993459 : Int32))) (4 : Int32))) &&& (252645135 : Int32)) + (ius (((((a1 - ((ius a1 (1 : Int32)) &&& (1431655765 : Int32))) &&& (858993459 : Int32)) + ((ius (a1 - ((ius a1 (1 : Int32)) &&& (1431655765 : Int32))) (2 : Int32)) &&& (858993459 : Int32))) + (ius (((a1 - ((ius a1 (1 : Int32)) &&& (1431655765 : Int32))) &&& (858993459 : Int32)) + ((ius (a1 - ((ius a1 (1 : Int32)) &&& (1431655765 : Int32))) (2 : Int32)) &&& (858993459 : Int32))) (4 : Int32))) &&& (252645135 : Int32)) (8 : Int32))) (16 : Int32))) &&& (63 : Int32)), h)
set_option maxHeartbeats 4000000 in
set_option maxRecDepth 100000 in
theorem c_J6_bitCount_0f7a4 (l : Launch) (G : GG) {a1 : Int32} {h : PH} {res : Int32 × PH} (hF : f_J6_bitCount_0f7a4 a1 h = some res) : MI l G yJ6_bitCount_0f7a4 cJ6_bitCount_0f7a4 1 .int 0 [.int a1] h res := by
  unfold f_J6_bitCount_0f7a4 at hF
  refine MI_of (by decide +kernel) (Nat.le_of_ble_eq_true rfl) ?_
  intro p e s m args below meth c ls C hl
  have hK := hF
  clear hF
  have hl : lv_has ls 1 [(0, .int a1)] := hl
  have C : cx p s m args meth c G RJ6 cJ6_bitCount_0f7a4 1 (some .int) := C
  refine q_iload_n C dJ6_bitCount_0f7a4_0 rfl (lv_at hl 0 rfl) ?_
  refine q_iload_n C dJ6_bitCount_0f7a4_1 rfl (lv_at hl 0 rfl) ?_
  refine q_iconst C (v := 1) dJ6_bitCount_0f7a4_2 (by decide) ?_
  refine q_iushr C dJ6_bitCount_0f7a4_3 (v := ius a1 (1 : Int32)) rfl ?_
  refine q_ldcw C w_k_J6_265 dJ6_bitCount_0f7a4_4 ?_
  refine q_iand C dJ6_bitCount_0f7a4_7 ?_
  refine q_isub C dJ6_bitCount_0f7a4_8 ?_
  refine q_istore_n C dJ6_bitCount_0f7a4_9 rfl hl (by decide) (lv2 := [(0, .int _)]) rfl (fun ls hl => ?_)
  refine q_iload_n C dJ6_bitCount_0f7a4_10 rfl (lv_at hl 0 rfl) ?_
  refine q_ldcw C w_k_J6_266 dJ6_bitCount_0f7a4_11 ?_
  refine q_iand C dJ6_bitCount_0f7a4_14 ?_
  refine q_iload_n C dJ6_bitCount_0f7a4_15 rfl (lv_at hl 0 rfl) ?_
  refine q_iconst C (v := 2) dJ6_bitCount_0f7a4_16 (by decide) ?_
  refine q_iushr C dJ6_bitCount_0f7a4_17 (v := ius (a1 - ((ius a1 (1 : Int32)) &&& (1431655765 : Int32))) (2 : Int32)) rfl ?_
  refine q_ldcw C w_k_J6_266 dJ6_bitCount_0f7a4_18 ?_
  refine q_iand C dJ6_bitCount_0f7a4_21 ?_
  refine q_iadd C dJ6_bitCount_0f7a4_22 ?_
  refine q_istore_n C dJ6_bitCount_0f7a4_23 rfl hl (by decide) (lv2 := [(0, .int _)]) rfl (fun ls hl => ?_)
  refine q_iload_n C dJ6_bitCount_0f7a4_24 rfl (lv_at hl 0 rfl) ?_
  refine q_iload_n C dJ6_bitCount_0f7a4_25 rfl (lv_at hl 0 rfl) ?_
  refine q_iconst C (v := 4) dJ6_bitCount_0f7a4_26 (by decide) ?_
  refine q_iushr C dJ6_bitCount_0f7a4_27 (v := ius (((a1 - ((ius a1 (1 : Int32)) &&& (1431655765 : Int32))) &&& (858993459 : Int32)) + ((ius (a1 - ((ius a1 (1 : Int32)) &&& (1431655765 : Int32))) (2 : Int32)) &&& (858993459 : Int32))) (4 : Int32)) rfl ?_
  refine q_iadd C dJ6_bitCount_0f7a4_28 ?_
  refine q_ldcw C w_k_J6_267 dJ6_bitCount_0f7a4_29 ?_
  refine q_iand C dJ6_bitCount_0f7a4_32 ?_
  refine q_istore_n C dJ6_bitCount_0f7a4_33 rfl hl (by decide) (lv2 := [(0, .int _)]) rfl (fun ls hl => ?_)
  refine q_iload_n C dJ6_bitCount_0f7a4_34 rfl (lv_at hl 0 rfl) ?_
  refine q_iload_n C dJ6_bitCount_0f7a4_35 rfl (lv_at hl 0 rfl) ?_
  refine q_bipush C (v := 8) dJ6_bitCount_0f7a4_36 (by decide) ?_
  refine q_iushr C dJ6_bitCount_0f7a4_38 (v := ius (((((a1 - ((ius a1 (1 : Int32)) &&& (1431655765 : Int32))) &&& (858993459 : Int32)) + ((ius (a1 - ((ius a1 (1 : Int32)) &&& (1431655765 : Int32))) (2 : Int32)) &&& (858993459 : Int32))) + (ius (((a1 - ((ius a1 (1 : Int32)) &&& (1431655765 : Int32))) &&& (858993459 : Int32)) + ((ius (a1 - ((ius a1 (1 : Int32)) &&& (1431655765 : Int32))) (2 : Int32)) &&& (858993459 : Int32))) (4 : Int32))) &&& (252645135 : Int32)) (8 : Int32)) rfl ?_
  refine q_iadd C dJ6_bitCount_0f7a4_39 ?_
  refine q_istore_n C dJ6_bitCount_0f7a4_40 rfl hl (by decide) (lv2 := [(0, .int _)]) rfl (fun ls hl => ?_)
  refine q_iload_n C dJ6_bitCount_0f7a4_41 rfl (lv_at hl 0 rfl) ?_
  refine q_iload_n C dJ6_bitCount_0f7a4_42 rfl (lv_at hl 0 rfl) ?_
  refine q_bipush C (v := 16) dJ6_bitCount_0f7a4_43 (by decide) ?_
  refine q_iushr C dJ6_bitCount_0f7a4_45 (v := ius ((((((a1 - ((ius a1 (1 : Int32)) &&& (1431655765 : Int32))) &&& (858993459 : Int32)) + ((ius (a1 - ((ius a1 (1 : Int32)) &&& (1431655765 : Int32))) (2 : Int32)) &&& (858993459 : Int32))) + (ius (((a1 - ((ius a1 (1 : Int32)) &&& (1431655765 : Int32))) &&& (858993459 : Int32)) + ((ius (a1 - ((ius a1 (1 : Int32)) &&& (1431655765 : Int32))) (2 : Int32)) &&& (858993459 : Int32))) (4 : Int32))) &&& (252645135 : Int32)) + (ius (((((a1 - ((ius a1 (1 : Int32)) &&& (1431655765 : Int32))) &&& (858993459 : Int32)) + ((ius (a1 - ((ius a1 (1 : Int32)) &&& (1431655765 : Int32))) (2 : Int32)) &&& (858993459 : Int32))) + (ius (((a1 - ((ius a1 (1 : Int32)) &&& (1431655765 : Int32))) &&& (858993459 : Int32)) + ((ius (a1 - ((ius a1 (1 : Int32)) &&& (1431655765 : Int32))) (2 : Int32)) &&& (858993459 : Int32))) (4 : Int32))) &&& (252645135 : Int32)) (8 : Int32))) (16 : Int32)) rfl ?_
  refine q_iadd C dJ6_bitCount_0f7a4_46 ?_
  refine q_istore_n C dJ6_bitCount_0f7a4_47 rfl hl (by decide) (lv2 := [(0, .int _)]) rfl (fun ls hl => ?_)
  refine q_iload_n C dJ6_bitCount_0f7a4_48 rfl (lv_at hl 0 rfl) ?_
  refine q_bipush C (v := 63) dJ6_bitCount_0f7a4_49 (by decide) ?_
  refine q_iand C dJ6_bitCount_0f7a4_51 ?_
  cases hK
  exact q_iret C dJ6_bitCount_0f7a4_52
theorem s_J6_bitCount_0f7a4 : ss yJ6_bitCount_0f7a4 cJ6_bitCount_0f7a4 1 (some .int) 1 := ⟨w_co_J6_bitCount_0f7a4, w_st_J6_bitCount_0f7a4, w_in_J6, by decide +kernel, by decide⟩
def f_X4_factorial_b4 : Nat → Int32 → Int32 → Int32 → PH → Option (Int32 × PH)
  | 0, _, _, _, _ => none
  | n + 1, v0, v1, v2, h => if v0 < v2 then some (v1, h) else if (4 : Int32) < v2 then some (v1, h) else (f_X4_factorial_b4 n) v0 (v1 * v2) (v2 + 1) h
set_option maxHeartbeats 4000000 in
set_option maxRecDepth 100000 in
theorem t_X4_factorial_b4 {p : Program} {l : Launch} {e : Env} {s : State} {m : MethodId} {args : Array Value} {below : List Frame} {meth : Method} {c : Code} {G : GG} {res : Int32 × PH} (C : cx p s m args meth c G RX4 cX4_factorial 3 (some .int)) (n : Nat) : ∀ (v0 : Int32) (v1 : Int32) (v2 : Int32) (h : PH) (ls : Array Slot), lv_has ls 3 [(0, .int v0), (1, .int v1), (2, .int v2)] → f_X4_factorial_b4 n v0 v1 v2 h = some res → WW p l e 0 s m args below meth c G h (MQ below (QI G res) args s 0 0 (Ar G)) (F0 m 4 ls []) := by
  induction n with
  | zero => intro v0 v1 v2 h ls hl hK; cases hK
  | succ n ih =>
    intro v0 v1 v2 h ls hl hK
    unfold f_X4_factorial_b4 at hK
    refine q_iload_n C dX4_factorial_4 rfl (lv_at hl 2 rfl) ?_
    refine q_iload_n C dX4_factorial_5 rfl (lv_at hl 0 rfl) ?_
    refine q_icmp_gt C dX4_factorial_6 (tgt := 24) (by decide) (fun hc => ?_) (fun hc => ?_)
    · replace hK := if_po hc hK
      refine q_iload_n C dX4_factorial_24 rfl (lv_at hl 1 rfl) ?_
      cases hK
      exact q_iret C dX4_factorial_25
    · replace hK := if_ne hc hK
      refine q_iload_n C dX4_factorial_9 rfl (lv_at hl 2 rfl) ?_
      refine q_iconst C (v := 4) dX4_factorial_10 (by decide) ?_
      refine q_icmp_gt C dX4_factorial_11 (tgt := 24) (by decide) (fun hc => ?_) (fun hc => ?_)
      · replace hK := if_po hc hK
        refine q_iload_n C dX4_factorial_24 rfl (lv_at hl 1 rfl) ?_
        cases hK
        exact q_iret C dX4_factorial_25
      · replace hK := if_ne hc hK
        refine q_iload_n C dX4_factorial_14 rfl (lv_at hl 1 rfl) ?_
        refine q_iload_n C dX4_factorial_15 rfl (lv_at hl 2 rfl) ?_
        refine q_imul C dX4_factorial_16 ?_
        refine q_istore_n C dX4_factorial_17 rfl hl (by decide) (lv2 := [(1, .int _), (0, .int _), (2, .int _)]) rfl (fun ls hl => ?_)
        refine q_iinc C dX4_factorial_18 hl (j := 2) (v := (v2 + 1)) rfl rfl (by decide) (lv2 := [(2, .int _), (1, .int _), (0, .int _)]) rfl (fun ls hl => ?_)
        refine q_goto C dX4_factorial_21 (tgt := 4) (by decide) ?_
        exact ih _ _ _ _ _ (lv_sub hl [2, 1, 0] rfl) hK
def f_X4_factorial (a1 : Int32) (h : PH) : Option (Int32 × PH) := f_X4_factorial_b4 200 a1 (1 : Int32) (2 : Int32) h
set_option maxHeartbeats 4000000 in
set_option maxRecDepth 100000 in
theorem c_X4_factorial (l : Launch) (G : GG) {a1 : Int32} {h : PH} {res : Int32 × PH} (hF : f_X4_factorial a1 h = some res) : MI l G yX4_factorial cX4_factorial 3 .int 0 [.int a1] h res := by
  unfold f_X4_factorial at hF
  refine MI_of (by decide +kernel) (Nat.le_of_ble_eq_true rfl) ?_
  intro p e s m args below meth c ls C hl
  have hK := hF
  clear hF
  have hl : lv_has ls 3 [(0, .int a1)] := hl
  have C : cx p s m args meth c G RX4 cX4_factorial 3 (some .int) := C
  refine q_iconst C (v := 1) dX4_factorial_0 (by decide) ?_
  refine q_istore_n C dX4_factorial_1 rfl hl (by decide) (lv2 := [(1, .int _), (0, .int _)]) rfl (fun ls hl => ?_)
  refine q_iconst C (v := 2) dX4_factorial_2 (by decide) ?_
  refine q_istore_n C dX4_factorial_3 rfl hl (by decide) (lv2 := [(2, .int _), (1, .int _), (0, .int _)]) rfl (fun ls hl => ?_)
  exact t_X4_factorial_b4 C 200 _ _ _ _ _ (lv_sub hl [2, 1, 0] rfl) hK
theorem s_X4_factorial : ss yX4_factorial cX4_factorial 3 (some .int) 1 := ⟨w_co_X4_factorial, w_st_X4_factorial, w_in_X4, by decide +kernel, by decide⟩
def f_X4_commonDivisor_b2 : Nat → Int32 → Int32 → Int32 → PH → Option (Int32 × PH)
  | 0, _, _, _, _ => none
  | n + 1, v0, v1, v2, h => if (50 : Int32) ≤ v2 then some (v0, h) else if v1 = 0 then some (v0, h) else nz v1 ((f_X4_commonDivisor_b2 n) v1 (irm v0 v1) (v2 + 1) h)
set_option maxHeartbeats 4000000 in
set_option maxRecDepth 100000 in
theorem t_X4_commonDivisor_b2 {p : Program} {l : Launch} {e : Env} {s : State} {m : MethodId} {args : Array Value} {below : List Frame} {meth : Method} {c : Code} {G : GG} {res : Int32 × PH} (C : cx p s m args meth c G RX4 cX4_commonDivisor 4 (some .int)) (n : Nat) : ∀ (v0 : Int32) (v1 : Int32) (v2 : Int32) (h : PH) (ls : Array Slot), lv_has ls 4 [(0, .int v0), (1, .int v1), (2, .int v2)] → f_X4_commonDivisor_b2 n v0 v1 v2 h = some res → WW p l e 0 s m args below meth c G h (MQ below (QI G res) args s 0 0 (Ar G)) (F0 m 2 ls []) := by
  induction n with
  | zero => intro v0 v1 v2 h ls hl hK; cases hK
  | succ n ih =>
    intro v0 v1 v2 h ls hl hK
    unfold f_X4_commonDivisor_b2 at hK
    refine q_iload_n C dX4_commonDivisor_2 rfl (lv_at hl 2 rfl) ?_
    refine q_bipush C (v := 50) dX4_commonDivisor_3 (by decide) ?_
    refine q_icmp_ge C dX4_commonDivisor_5 (tgt := 26) (by decide) (fun hc => ?_) (fun hc => ?_)
    · replace hK := if_po hc hK
      refine q_iload_n C dX4_commonDivisor_26 rfl (lv_at hl 0 rfl) ?_
      cases hK
      exact q_iret C dX4_commonDivisor_27
    · replace hK := if_ne hc hK
      refine q_iload_n C dX4_commonDivisor_8 rfl (lv_at hl 1 rfl) ?_
      refine q_if_eq C dX4_commonDivisor_9 (tgt := 26) (by decide) (fun hc => ?_) (fun hc => ?_)
      · replace hK := if_po hc hK
        refine q_iload_n C dX4_commonDivisor_26 rfl (lv_at hl 0 rfl) ?_
        cases hK
        exact q_iret C dX4_commonDivisor_27
      · replace hK := if_ne hc hK
        refine q_iload_n C dX4_commonDivisor_12 rfl (lv_at hl 0 rfl) ?_
        refine q_iload_n C dX4_commonDivisor_13 rfl (lv_at hl 1 rfl) ?_
        obtain ⟨hn1, hK⟩ := nz_so hK
        refine q_irem C dX4_commonDivisor_14 hn1 ?_
        refine q_istore_n C dX4_commonDivisor_15 rfl hl (by decide) (lv2 := [(3, .int _), (0, .int _), (1, .int _), (2, .int _)]) rfl (fun ls hl => ?_)
        refine q_iload_n C dX4_commonDivisor_16 rfl (lv_at hl 2 rfl) ?_
        refine q_istore_n C dX4_commonDivisor_17 rfl hl (by decide) (lv2 := [(0, .int _), (3, .int _), (1, .int _), (2, .int _)]) rfl (fun ls hl => ?_)
        refine q_iload_n C dX4_commonDivisor_18 rfl (lv_at hl 1 rfl) ?_
        refine q_istore_n C dX4_commonDivisor_19 rfl hl (by decide) (lv2 := [(1, .int _), (0, .int _), (3, .int _), (2, .int _)]) rfl (fun ls hl => ?_)
        refine q_iinc C dX4_commonDivisor_20 hl (j := 3) (v := (v2 + 1)) rfl rfl (by decide) (lv2 := [(2, .int _), (1, .int _), (0, .int _), (3, .int _)]) rfl (fun ls hl => ?_)
        refine q_goto C dX4_commonDivisor_23 (tgt := 2) (by decide) ?_
        exact ih _ _ _ _ _ (lv_sub hl [2, 1, 0] rfl) hK
def f_X4_commonDivisor (a1 : Int32) (a2 : Int32) (h : PH) : Option (Int32 × PH) := f_X4_commonDivisor_b2 200 a1 a2 (0 : Int32) h
set_option maxHeartbeats 4000000 in
set_option maxRecDepth 100000 in
theorem c_X4_commonDivisor (l : Launch) (G : GG) {a1 : Int32} {a2 : Int32} {h : PH} {res : Int32 × PH} (hF : f_X4_commonDivisor a1 a2 h = some res) : MI l G yX4_commonDivisor cX4_commonDivisor 4 .int 0 [.int a1, .int a2] h res := by
  unfold f_X4_commonDivisor at hF
  refine MI_of (by decide +kernel) (Nat.le_of_ble_eq_true rfl) ?_
  intro p e s m args below meth c ls C hl
  have hK := hF
  clear hF
  have hl : lv_has ls 4 [(0, .int a1), (1, .int a2)] := hl
  have C : cx p s m args meth c G RX4 cX4_commonDivisor 4 (some .int) := C
  refine q_iconst C (v := 0) dX4_commonDivisor_0 (by decide) ?_
  refine q_istore_n C dX4_commonDivisor_1 rfl hl (by decide) (lv2 := [(2, .int _), (0, .int _), (1, .int _)]) rfl (fun ls hl => ?_)
  exact t_X4_commonDivisor_b2 C 200 _ _ _ _ _ (lv_sub hl [1, 2, 0] rfl) hK
theorem s_X4_commonDivisor : ss yX4_commonDivisor cX4_commonDivisor 4 (some .int) 2 := ⟨w_co_X4_commonDivisor, w_st_X4_commonDivisor, w_in_X4, by decide +kernel, by decide⟩
def f_X4_partOf (a1 : Int32) (a2 : Int32) (a3 : Int32) (h : PH) : Option (Int32 × PH) := bd (f_X4_commonDivisor (iab a1) a2 h) (fun r1 h2 => if a3 = 0 then nz (imx (1 : Int32) r1) (some ((a2 / (imx (1 : Int32) r1)), h2)) else nz (imx (1 : Int32) r1) (some ((a1 / (imx (1 : Int32) r1)), h2)))
set_option maxHeartbeats 4000000 in
set_option maxRecDepth 100000 in
theorem c_X4_partOf (l : Launch) (G : GG) {a1 : Int32} {a2 : Int32} {a3 : Int32} {h : PH} {res : Int32 × PH} (hF : f_X4_partOf a1 a2 a3 h = some res) : MI l G yX4_partOf cX4_partOf 4 .int 1 [.int a1, .int a2, .int a3] h res := by
  unfold f_X4_partOf at hF
  refine MI_of (by decide +kernel) (Nat.le_of_ble_eq_true rfl) ?_
  intro p e s m args below meth c ls C hl
  have hK := hF
  clear hF
  have hl : lv_has ls 4 [(0, .int a1), (1, .int a2), (2, .int a3)] := hl
  have C : cx p s m args meth c G RX4 cX4_partOf 4 (some .int) := C
  refine q_iconst C (v := 1) dX4_partOf_0 (by decide) ?_
  refine q_iload_n C dX4_partOf_1 rfl (lv_at hl 0 rfl) ?_
  refine q_abs C (by decide) hl.1 w_ml_X4_259 (Nat.le_of_ble_eq_true rfl) dX4_partOf_2 ?_
  refine q_iload_n C dX4_partOf_5 rfl (lv_at hl 1 rfl) ?_
  obtain ⟨r1, h2, hfr1, hK⟩ := bd_so hK
  refine q_callSi C s_X4_commonDivisor w_ml_X4_262 (c_X4_commonDivisor l G hfr1) (by decide) hl.1 rfl rfl (Nat.le_of_ble_eq_true rfl) dX4_partOf_6 ?_
  refine q_max C (by decide) hl.1 w_ml_X4_206 (Nat.le_of_ble_eq_true rfl) dX4_partOf_9 ?_
  refine q_istore_n C dX4_partOf_12 rfl hl (by decide) (lv2 := [(3, .int _), (0, .int _), (1, .int _), (2, .int _)]) rfl (fun ls hl => ?_)
  refine q_iload_n C dX4_partOf_13 rfl (lv_at hl 3 rfl) ?_
  refine q_if_eq C dX4_partOf_14 (tgt := 21) (by decide) (fun hc => ?_) (fun hc => ?_)
  · replace hK := if_po hc hK
    refine q_iload_n C dX4_partOf_21 rfl (lv_at hl 2 rfl) ?_
    refine q_iload_n C dX4_partOf_22 rfl (lv_at hl 0 rfl) ?_
    obtain ⟨hn3, hK⟩ := nz_so hK
    refine q_idiv C dX4_partOf_23 hn3 ?_
    cases hK
    exact q_iret C dX4_partOf_24
  · replace hK := if_ne hc hK
    refine q_iload_n C dX4_partOf_17 rfl (lv_at hl 1 rfl) ?_
    refine q_goto C dX4_partOf_18 (tgt := 22) (by decide) ?_
    refine q_iload_n C dX4_partOf_22 rfl (lv_at hl 0 rfl) ?_
    obtain ⟨hn4, hK⟩ := nz_so hK
    refine q_idiv C dX4_partOf_23 hn4 ?_
    cases hK
    exact q_iret C dX4_partOf_24
theorem s_X4_partOf : ss yX4_partOf cX4_partOf 4 (some .int) 3 := ⟨w_co_X4_partOf, w_st_X4_partOf, w_in_X4, by decide +kernel, by decide⟩
